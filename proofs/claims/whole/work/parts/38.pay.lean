/-! all names of the reference; pay -/
def f_nw (s : Nat → Int32) (o : Nat) : Int32 := (if s (312 + 12 * o + 5) = 1 then s (312 + 12 * o + 7) else s 0) - s (312 + 12 * o + 2)
def f_nt (s : Nat → Int32) (o : Nat) (q : Option (Nat × Nat)) : Int32 := match q with
  | none => 0
  | some q => f_lateBy s o (nI q.2)
def f_nl (s : Nat → Int32) (r o : Nat) : Int32 := if s (312 + 12 * o + 5) = 1 then f_late s o else f_nt s o (f_tn s r o)
/-- the names of a rider as it is -/
def f_en2 (s : Nat → Int32) (r o : Nat) (w lt : Int32) : Nat → Int32 := f_env s (s (600 + 8 * r + 0)) (s (600 + 8 * r + 1)).toNatClampNeg o w (s (600 + 8 * r + 3)) (f_ratR s r) lt (nI r)
def f_cl (v : Int32) : Int32 := if 0 ≤ v then (if v ≤ 9999 then v else 9999) else 0
theorem f_cl_x (v : Int32) : (if 0 < (if v < 9999 then v else 9999) then (if v < 9999 then v else 9999) else 0) = f_cl v := by
  unfold f_cl
  by_cases h : v < 9999
  · rw [if_pos h, if_pos (Int32.le_of_lt h)]
    exact f_oz_x v
  · rw [if_neg h]
    have h1 : (9999 : Int32) ≤ v := Int32.not_lt.mp h
    have h2 : (0 : Int32) ≤ v := Int32.le_trans (by decide) h1
    rw [if_pos (by decide), if_pos h2]
    by_cases h3 : v ≤ 9999
    · rw [if_pos h3]
      exact Int32.le_antisymm h1 h3
    · rw [if_neg h3]
/-- the text that a use names, if there is one -/
def tu (S : bz_S) (s : Nat → Int32) (i0 : Nat) (q : Option (Nat × (Nat → Nat))) : Prop := (s i0 = -1 ∧ q = none) ∨ ∃ t i n f g, q = some (n, g) ∧ s i0 = nI t ∧ t < 8 ∧ t < (s 4).toNatClampNeg ∧ S.2.1 16 t = some (205 + 2 * i) ∧ S.2.2[i]? = some (n, f) ∧ (∀ k, k < n → f k = nI (g k)) ∧ wfm g n ∧ tg s t n g
def f_pf (s : Nat → Int32) (r o : Nat) (p e : Int32) (q : Option (Nat × (Nat → Nat))) : Int32 := match q with
  | none => 0
  | some (n, g) => f_cl (f_st (f_en2 s r o (p - s (312 + 12 * o + 2)) (f_lateBy s o e)) g n 0)
abbrev tN (c k : Nat) : Prop := c = 190 ∨ c = 191 ∨ c = 192 ∨ c = 195 ∨ c = 196 ∨ (c = 186 ∧ 5 ≤ k ∧ k ≤ 8)
theorem fd_f {X : Nat → Nat → Prop} {S S' : bz_S} (h : fd S) (f : fr X S S') (hX : ∀ c k, X c k → ¬ (c = 190 ∨ c = 187 ∨ (c = 186 ∧ k = 5))) : fd S' := by
  have a1 : S'.1 186 5 = S.1 186 5 := f.2 _ _ (fun x => hX _ _ x (Or.inr (Or.inr ⟨rfl, rfl⟩)))
  have a2 : S'.1 190 = S.1 190 := funext (fun k => f.2 _ _ (fun x => hX _ _ x (Or.inl rfl)))
  have a3 : S'.1 187 = S.1 187 := funext (fun k => f.2 _ _ (fun x => hX _ _ x (Or.inr (Or.inl rfl))))
  unfold fd
  rw [a1, a2, a3]
  exact h
section PAY
variable {G : bz_G} {l : Launch} {d : Nat} {E : Nat × (Nat → Int32)} {S : bz_S} {s : Nat → Int32}
theorem nm_7 {S : bz_S} {v : Nat → Int32} (h0 : S.1 195 100 = v 0) (h1 : S.1 195 119 = v 1) (h2 : S.1 195 104 = v 2) (h3 : S.1 195 114 = v 3) (h4 : S.1 195 108 = v 4) (h5 : S.1 195 99 = v 5) (h6 : S.1 195 110 = v 6) : nm S v := by
  intro j hj
  rcases (by omega : j = 0 ∨ j = 1 ∨ j = 2 ∨ j = 3 ∨ j = 4 ∨ j = 5 ∨ j = 6) with q | q | q | q | q | q | q <;> subst q <;> assumption
theorem M_nameAll {P : bz_H → Prop} {r o : Nat} (hr : r < 12) (ho : o < 24) (hs : S.1 187 = s) (hg : gd_b s) (hf : fd S) (hP : ∀ S', fr (fun c k => c = 190 ∨ c = 191 ∨ c = 192 ∨ c = 195 ∨ (c = 186 ∧ 5 ≤ k ∧ k ≤ 8)) S S' → fd S' → nm S' (f_en2 s r o (f_nw s o) (f_nl s r o)) → P (bz_hp E S')) : bz_cV G l (d + 8) kX12_nameAll [.inr (some 186), .inl (nI r), .inl (nI o)] (bz_hp E S) 0 0 P := by
  refine m_X12_nameAll _ _ _ _ (fun κ bc bs hl => ?_)
  unfold w_X12_nameAll_0
  subst hs
  obtain ⟨a, ha, ea⟩ : bz_lt (S.1 187 (600 + 8 * r + 1)) 16 := gb_r hg hr 1 (by decide)
  repeat (first | ((with_reducible apply ap_rc); rfl) | ((with_reducible apply ap_nn)) | ((with_reducible apply ap_rR); rfl) | ((with_reducible apply M_ofOrder); rfl; (exact bz_lit _); omega; (first | omega | decide)) | ((with_reducible apply M_ofRider); rfl; (exact bz_lit _); omega; (first | omega | decide)) | ((with_reducible apply ap_rI); exact kd_ord _ (by omega) _ (by decide)) | ((with_reducible apply ap_wI); exact kd_ord _ (by omega) _ (by decide)) | ((with_reducible apply ap_rI); exact kd_rid _ (by omega) _ (by decide)) | ((with_reducible apply ap_wI); exact kd_rid _ (by omega) _ (by decide)) | ((with_reducible apply ap_rc); exact (kd_clO _ (by omega)).1) | ((with_reducible apply ap_rc); exact (kd_clR _ (by omega)).1) | ((with_reducible apply ap_rc); exact (kd_clR _ (by omega)).2.2.1) | ((with_reducible apply ap_rR); exact (kd_ridA _ (by omega)).1) | ((with_reducible apply ap_rN); rfl) | ((with_reducible apply M_in)) | ((with_reducible apply X_isWithin)) | ((with_reducible apply ap_rI); rfl) | ((with_reducible apply ap_wI); rfl) | ((with_reducible apply ap_iA); rfl; (try simp only [bz_lit, pk_mul, nI_add]); rfl; omega) | ((with_reducible apply ap_iW); rfl; (try simp only [bz_lit, pk_mul, nI_add]); rfl; omega))
  refine M_nameWays ea ho ha rfl hg hf (fun S1 r1 f1 v100 v99 => ?_)
  have e1 : S1.1 187 = S.1 187 := fr_c r1 (fun k => by omega)
  generalize hs0 : S.1 187 = s0 at *
  have key : ∀ y0, y0 - s0 (312 + 12 * o + 2) = f_nw s0 o → bz_J G κ kX12_nameAll (d + 7 + 1) (fun v h' => v = none ∧ P h') bc bs 47 [some (.inr (some 186)), some (.inl (nI r)), some (.inl (nI o))] [.inl y0, .inl 119, .inr (some 195)] (bz_hp E S1) := by
    intro y0 hy0
    refine g_X12_nameAll_47 hl _ _ _ _ _ _ _ ?_
    unfold w_X12_nameAll_47
    repeat (first | ((with_reducible apply ap_rc); rfl) | ((with_reducible apply ap_nn)) | ((with_reducible apply ap_rR); rfl) | ((with_reducible apply M_ofOrder); rfl; (exact bz_lit _); omega; (first | omega | decide)) | ((with_reducible apply M_ofRider); rfl; (exact bz_lit _); omega; (first | omega | decide)) | ((with_reducible apply ap_rI); exact kd_ord _ (by omega) _ (by decide)) | ((with_reducible apply ap_wI); exact kd_ord _ (by omega) _ (by decide)) | ((with_reducible apply ap_rI); exact kd_rid _ (by omega) _ (by decide)) | ((with_reducible apply ap_wI); exact kd_rid _ (by omega) _ (by decide)) | ((with_reducible apply ap_rc); exact (kd_clO _ (by omega)).1) | ((with_reducible apply ap_rc); exact (kd_clR _ (by omega)).1) | ((with_reducible apply ap_rc); exact (kd_clR _ (by omega)).2.2.1) | ((with_reducible apply ap_rR); exact (kd_ridA _ (by omega)).1) | ((with_reducible apply ap_rN); rfl) | ((with_reducible apply M_in)) | ((with_reducible apply X_isWithin)) | ((with_reducible apply ap_rI); rfl) | ((with_reducible apply ap_wI); rfl) | ((with_reducible apply ap_iA); rfl; (try simp only [bz_lit, pk_mul, nI_add]); rfl; omega) | ((with_reducible apply ap_iW); rfl; (try simp only [bz_lit, pk_mul, nI_add]); rfl; omega))
    rw [e1, hy0]
    have e2 : ∀ v, (bz_u S1.1 195 119 v) 187 = s0 := fun v => by rw [bz_u_cell _ _ _ (by decide)]; exact e1
    have e3 : ∀ v w, (bz_u (bz_u S1.1 195 119 v) 195 104 w) 187 = s0 := fun v w => by rw [bz_u_cell _ _ _ (by decide)]; exact e2 v
    dsimp only
    rw [e2]
    refine M_ratingOfRider hr (by dsimp only; rw [e3]; exact hg) ?_
    repeat (first | ((with_reducible apply ap_rc); rfl) | ((with_reducible apply ap_nn)) | ((with_reducible apply ap_rR); rfl) | ((with_reducible apply M_ofOrder); rfl; (exact bz_lit _); omega; (first | omega | decide)) | ((with_reducible apply M_ofRider); rfl; (exact bz_lit _); omega; (first | omega | decide)) | ((with_reducible apply ap_rI); exact kd_ord _ (by omega) _ (by decide)) | ((with_reducible apply ap_wI); exact kd_ord _ (by omega) _ (by decide)) | ((with_reducible apply ap_rI); exact kd_rid _ (by omega) _ (by decide)) | ((with_reducible apply ap_wI); exact kd_rid _ (by omega) _ (by decide)) | ((with_reducible apply ap_rc); exact (kd_clO _ (by omega)).1) | ((with_reducible apply ap_rc); exact (kd_clR _ (by omega)).1) | ((with_reducible apply ap_rc); exact (kd_clR _ (by omega)).2.2.1) | ((with_reducible apply ap_rR); exact (kd_ridA _ (by omega)).1) | ((with_reducible apply ap_rN); rfl) | ((with_reducible apply M_in)) | ((with_reducible apply X_isWithin)) | ((with_reducible apply ap_rI); rfl) | ((with_reducible apply ap_wI); rfl) | ((with_reducible apply ap_iA); rfl; (try simp only [bz_lit, pk_mul, nI_add]); rfl; omega) | ((with_reducible apply ap_iW); rfl; (try simp only [bz_lit, pk_mul, nI_add]); rfl; omega))
    dsimp only
    rw [e3]
    refine M_isGiven ho ?_
    dsimp only
    rw [bz_u_cell _ _ _ (by decide), e3]
    generalize hS2 : ((bz_u (bz_u (bz_u S1.1 195 119 (f_nw s0 o)) 195 104 (s0 (600 + 8 * r + 3))) 195 114 (f_ratR s0 r), S1.2) : bz_S) = S2
    have r2 : fr (fun c k => c = 195) S1 S2 := by
      rw [← hS2]
      exact fr_t (fr_u (S := S1) (by first | omega | (dsimp only; omega))) (fr_t (fr_u (S := (bz_u S1.1 195 119 (f_nw s0 o), S1.2)) (by first | omega | (dsimp only; omega))) (fr_u (S := (bz_u (bz_u S1.1 195 119 (f_nw s0 o)) 195 104 (s0 (600 + 8 * r + 3)), S1.2)) (by first | omega | (dsimp only; omega))))
    have f2 : fd S2 := fd_f f1 r2 (by intro c k h; first | omega | (dsimp only at h ⊢; omega) | (dsimp only at h; omega) | (dsimp only; omega))
    have e4 : S2.1 187 = s0 := (fr_c r2 (fun k => by omega)).trans e1
    have fin : ∀ (S3 : bz_S) (lt : Int32), lt = f_nl s0 r o → fr tX S2 S3 → fd S3 → P (bz_hp E (bz_u (bz_u S3.1 195 108 lt) 195 110 (nI r), S3.2)) := by
      intro S3 lt hlt r3 f3
      have r4 : fr (fun c k => c = 195) S3 (bz_u (bz_u S3.1 195 108 lt) 195 110 (nI r), S3.2) := fr_t (fr_u (S := S3) (by first | omega | (dsimp only; omega))) (fr_u (S := (bz_u S3.1 195 108 lt, S3.2)) (by first | omega | (dsimp only; omega)))
      refine hP _ (fr_t (fr_m r1 (by intro c k h; first | omega | (dsimp only at h ⊢; omega) | (dsimp only at h; omega) | (dsimp only; omega))) (fr_t (fr_m r2 (by intro c k h; first | omega | (dsimp only at h ⊢; omega) | (dsimp only at h; omega) | (dsimp only; omega))) (fr_t (fr_m r3 (by intro c k h; first | omega | (dsimp only at h ⊢; omega) | (dsimp only at h; omega) | (dsimp only; omega))) (fr_m r4 (by intro c k h; first | omega | (dsimp only at h ⊢; omega) | (dsimp only at h; omega) | (dsimp only; omega)))))) (fd_f f3 r4 (by intro c k h; first | omega | (dsimp only at h ⊢; omega) | (dsimp only at h; omega) | (dsimp only; omega))) ?_
      have q : ∀ k, S3.1 195 k = S2.1 195 k := fun k => r3.2 _ _ (by omega)
      unfold f_en2
      refine nm_7 ?_ ?_ ?_ ?_ ?_ ?_ ?_
      · dsimp only
        rw [bz_u_ne _ _ (by decide), bz_u_ne _ _ (by decide), q, ← hS2]
        simp (disch := omega) only [bz_u_same, bz_u_ne]
        rw [v100, ea, nI_clamp (by omega)]
        rfl
      · dsimp only
        rw [bz_u_ne _ _ (by decide), bz_u_ne _ _ (by decide), q, ← hS2]
        simp (disch := omega) only [bz_u_same, bz_u_ne]
        rfl
      · dsimp only
        rw [bz_u_ne _ _ (by decide), bz_u_ne _ _ (by decide), q, ← hS2]
        simp (disch := omega) only [bz_u_same, bz_u_ne]
        rfl
      · dsimp only
        rw [bz_u_ne _ _ (by decide), bz_u_ne _ _ (by decide), q, ← hS2]
        simp (disch := omega) only [bz_u_same, bz_u_ne]
        rfl
      · dsimp only
        rw [bz_u_ne _ _ (by decide), bz_u_same]
        exact hlt
      · dsimp only
        rw [bz_u_ne _ _ (by decide), bz_u_ne _ _ (by decide), q, ← hS2]
        simp (disch := omega) only [bz_u_same, bz_u_ne]
        rw [v99]
        rfl
      · dsimp only
        rw [bz_u_same]
        rfl
    refine ⟨fun c => ?_, fun c => ?_⟩
    · have c' := f_is_0.mp c
      have hlt : f_nl s0 r o = f_nt s0 o (f_tn s0 r o) := if_neg c'
      repeat (first | ((with_reducible apply ap_rc); rfl) | ((with_reducible apply ap_nn)) | ((with_reducible apply ap_rR); rfl) | ((with_reducible apply M_ofOrder); rfl; (exact bz_lit _); omega; (first | omega | decide)) | ((with_reducible apply M_ofRider); rfl; (exact bz_lit _); omega; (first | omega | decide)) | ((with_reducible apply ap_rI); exact kd_ord _ (by omega) _ (by decide)) | ((with_reducible apply ap_wI); exact kd_ord _ (by omega) _ (by decide)) | ((with_reducible apply ap_rI); exact kd_rid _ (by omega) _ (by decide)) | ((with_reducible apply ap_wI); exact kd_rid _ (by omega) _ (by decide)) | ((with_reducible apply ap_rc); exact (kd_clO _ (by omega)).1) | ((with_reducible apply ap_rc); exact (kd_clR _ (by omega)).1) | ((with_reducible apply ap_rc); exact (kd_clR _ (by omega)).2.2.1) | ((with_reducible apply ap_rR); exact (kd_ridA _ (by omega)).1) | ((with_reducible apply ap_rN); rfl) | ((with_reducible apply M_in)) | ((with_reducible apply X_isWithin)) | ((with_reducible apply ap_rI); rfl) | ((with_reducible apply ap_wI); rfl) | ((with_reducible apply ap_iA); rfl; (try simp only [bz_lit, pk_mul, nI_add]); rfl; omega) | ((with_reducible apply ap_iW); rfl; (try simp only [bz_lit, pk_mul, nI_add]); rfl; omega))
      refine M_tripNow (s := s0) hr ho e4 hg f2 (fun S3 r3 f3 v3 => ?_)
      have e5 : S3.1 187 = s0 := (fr_c r3 (fun k => by omega)).trans e4
      cases h : f_tn s0 r o with
      | none =>
        rw [h] at hlt
        refine ⟨fun _ => ?_, fun c => absurd rfl c⟩
        repeat (first | ((with_reducible apply ap_rc); rfl) | ((with_reducible apply ap_nn)) | ((with_reducible apply ap_rR); rfl) | ((with_reducible apply M_ofOrder); rfl; (exact bz_lit _); omega; (first | omega | decide)) | ((with_reducible apply M_ofRider); rfl; (exact bz_lit _); omega; (first | omega | decide)) | ((with_reducible apply ap_rI); exact kd_ord _ (by omega) _ (by decide)) | ((with_reducible apply ap_wI); exact kd_ord _ (by omega) _ (by decide)) | ((with_reducible apply ap_rI); exact kd_rid _ (by omega) _ (by decide)) | ((with_reducible apply ap_wI); exact kd_rid _ (by omega) _ (by decide)) | ((with_reducible apply ap_rc); exact (kd_clO _ (by omega)).1) | ((with_reducible apply ap_rc); exact (kd_clR _ (by omega)).1) | ((with_reducible apply ap_rc); exact (kd_clR _ (by omega)).2.2.1) | ((with_reducible apply ap_rR); exact (kd_ridA _ (by omega)).1) | ((with_reducible apply ap_rN); rfl) | ((with_reducible apply M_in)) | ((with_reducible apply X_isWithin)) | ((with_reducible apply ap_rI); rfl) | ((with_reducible apply ap_wI); rfl) | ((with_reducible apply ap_iA); rfl; (try simp only [bz_lit, pk_mul, nI_add]); rfl; omega) | ((with_reducible apply ap_iW); rfl; (try simp only [bz_lit, pk_mul, nI_add]); rfl; omega))
        exact ⟨rfl, fin S3 0 hlt.symm r3 f3⟩
      | some q =>
        rw [h] at hlt
        refine ⟨fun c => absurd c (f_ok_1 _), fun _ => ?_⟩
        repeat (first | ((with_reducible apply ap_rc); rfl) | ((with_reducible apply ap_nn)) | ((with_reducible apply ap_rR); rfl) | ((with_reducible apply M_ofOrder); rfl; (exact bz_lit _); omega; (first | omega | decide)) | ((with_reducible apply M_ofRider); rfl; (exact bz_lit _); omega; (first | omega | decide)) | ((with_reducible apply ap_rI); exact kd_ord _ (by omega) _ (by decide)) | ((with_reducible apply ap_wI); exact kd_ord _ (by omega) _ (by decide)) | ((with_reducible apply ap_rI); exact kd_rid _ (by omega) _ (by decide)) | ((with_reducible apply ap_wI); exact kd_rid _ (by omega) _ (by decide)) | ((with_reducible apply ap_rc); exact (kd_clO _ (by omega)).1) | ((with_reducible apply ap_rc); exact (kd_clR _ (by omega)).1) | ((with_reducible apply ap_rc); exact (kd_clR _ (by omega)).2.2.1) | ((with_reducible apply ap_rR); exact (kd_ridA _ (by omega)).1) | ((with_reducible apply ap_rN); rfl) | ((with_reducible apply M_in)) | ((with_reducible apply X_isWithin)) | ((with_reducible apply ap_rI); rfl) | ((with_reducible apply ap_wI); rfl) | ((with_reducible apply ap_iA); rfl; (try simp only [bz_lit, pk_mul, nI_add]); rfl; omega) | ((with_reducible apply ap_iW); rfl; (try simp only [bz_lit, pk_mul, nI_add]); rfl; omega))
        rw [(v3 q.1 q.2 h).2.1]
        refine M_lateBy ho ?_
        rw [e5]
        repeat (first | ((with_reducible apply ap_rc); rfl) | ((with_reducible apply ap_nn)) | ((with_reducible apply ap_rR); rfl) | ((with_reducible apply M_ofOrder); rfl; (exact bz_lit _); omega; (first | omega | decide)) | ((with_reducible apply M_ofRider); rfl; (exact bz_lit _); omega; (first | omega | decide)) | ((with_reducible apply ap_rI); exact kd_ord _ (by omega) _ (by decide)) | ((with_reducible apply ap_wI); exact kd_ord _ (by omega) _ (by decide)) | ((with_reducible apply ap_rI); exact kd_rid _ (by omega) _ (by decide)) | ((with_reducible apply ap_wI); exact kd_rid _ (by omega) _ (by decide)) | ((with_reducible apply ap_rc); exact (kd_clO _ (by omega)).1) | ((with_reducible apply ap_rc); exact (kd_clR _ (by omega)).1) | ((with_reducible apply ap_rc); exact (kd_clR _ (by omega)).2.2.1) | ((with_reducible apply ap_rR); exact (kd_ridA _ (by omega)).1) | ((with_reducible apply ap_rN); rfl) | ((with_reducible apply M_in)) | ((with_reducible apply X_isWithin)) | ((with_reducible apply ap_rI); rfl) | ((with_reducible apply ap_wI); rfl) | ((with_reducible apply ap_iA); rfl; (try simp only [bz_lit, pk_mul, nI_add]); rfl; omega) | ((with_reducible apply ap_iW); rfl; (try simp only [bz_lit, pk_mul, nI_add]); rfl; omega))
        exact ⟨rfl, fin S3 _ hlt.symm r3 f3⟩
    · have c' : s0 (312 + 12 * o + 5) = 1 := Classical.byContradiction (fun q => c (f_is_0.mpr q))
      have hlt : f_nl s0 r o = f_late s0 o := if_pos c'
      repeat (first | ((with_reducible apply ap_rc); rfl) | ((with_reducible apply ap_nn)) | ((with_reducible apply ap_rR); rfl) | ((with_reducible apply M_ofOrder); rfl; (exact bz_lit _); omega; (first | omega | decide)) | ((with_reducible apply M_ofRider); rfl; (exact bz_lit _); omega; (first | omega | decide)) | ((with_reducible apply ap_rI); exact kd_ord _ (by omega) _ (by decide)) | ((with_reducible apply ap_wI); exact kd_ord _ (by omega) _ (by decide)) | ((with_reducible apply ap_rI); exact kd_rid _ (by omega) _ (by decide)) | ((with_reducible apply ap_wI); exact kd_rid _ (by omega) _ (by decide)) | ((with_reducible apply ap_rc); exact (kd_clO _ (by omega)).1) | ((with_reducible apply ap_rc); exact (kd_clR _ (by omega)).1) | ((with_reducible apply ap_rc); exact (kd_clR _ (by omega)).2.2.1) | ((with_reducible apply ap_rR); exact (kd_ridA _ (by omega)).1) | ((with_reducible apply ap_rN); rfl) | ((with_reducible apply M_in)) | ((with_reducible apply X_isWithin)) | ((with_reducible apply ap_rI); rfl) | ((with_reducible apply ap_wI); rfl) | ((with_reducible apply ap_iA); rfl; (try simp only [bz_lit, pk_mul, nI_add]); rfl; omega) | ((with_reducible apply ap_iW); rfl; (try simp only [bz_lit, pk_mul, nI_add]); rfl; omega))
      refine M_lateOf ho ?_
      rw [e4]
      repeat (first | ((with_reducible apply ap_rc); rfl) | ((with_reducible apply ap_nn)) | ((with_reducible apply ap_rR); rfl) | ((with_reducible apply M_ofOrder); rfl; (exact bz_lit _); omega; (first | omega | decide)) | ((with_reducible apply M_ofRider); rfl; (exact bz_lit _); omega; (first | omega | decide)) | ((with_reducible apply ap_rI); exact kd_ord _ (by omega) _ (by decide)) | ((with_reducible apply ap_wI); exact kd_ord _ (by omega) _ (by decide)) | ((with_reducible apply ap_rI); exact kd_rid _ (by omega) _ (by decide)) | ((with_reducible apply ap_wI); exact kd_rid _ (by omega) _ (by decide)) | ((with_reducible apply ap_rc); exact (kd_clO _ (by omega)).1) | ((with_reducible apply ap_rc); exact (kd_clR _ (by omega)).1) | ((with_reducible apply ap_rc); exact (kd_clR _ (by omega)).2.2.1) | ((with_reducible apply ap_rR); exact (kd_ridA _ (by omega)).1) | ((with_reducible apply ap_rN); rfl) | ((with_reducible apply M_in)) | ((with_reducible apply X_isWithin)) | ((with_reducible apply ap_rI); rfl) | ((with_reducible apply ap_wI); rfl) | ((with_reducible apply ap_iA); rfl; (try simp only [bz_lit, pk_mul, nI_add]); rfl; omega) | ((with_reducible apply ap_iW); rfl; (try simp only [bz_lit, pk_mul, nI_add]); rfl; omega))
      exact ⟨rfl, fin S2 _ hlt.symm (fr_r _ S2) f2⟩
  repeat (first | ((with_reducible apply ap_rc); rfl) | ((with_reducible apply ap_nn)) | ((with_reducible apply ap_rR); rfl) | ((with_reducible apply M_ofOrder); rfl; (exact bz_lit _); omega; (first | omega | decide)) | ((with_reducible apply M_ofRider); rfl; (exact bz_lit _); omega; (first | omega | decide)) | ((with_reducible apply ap_rI); exact kd_ord _ (by omega) _ (by decide)) | ((with_reducible apply ap_wI); exact kd_ord _ (by omega) _ (by decide)) | ((with_reducible apply ap_rI); exact kd_rid _ (by omega) _ (by decide)) | ((with_reducible apply ap_wI); exact kd_rid _ (by omega) _ (by decide)) | ((with_reducible apply ap_rc); exact (kd_clO _ (by omega)).1) | ((with_reducible apply ap_rc); exact (kd_clR _ (by omega)).1) | ((with_reducible apply ap_rc); exact (kd_clR _ (by omega)).2.2.1) | ((with_reducible apply ap_rR); exact (kd_ridA _ (by omega)).1) | ((with_reducible apply ap_rN); rfl) | ((with_reducible apply M_in)) | ((with_reducible apply X_isWithin)) | ((with_reducible apply ap_rI); rfl) | ((with_reducible apply ap_wI); rfl) | ((with_reducible apply ap_iA); rfl; (try simp only [bz_lit, pk_mul, nI_add]); rfl; omega) | ((with_reducible apply ap_iW); rfl; (try simp only [bz_lit, pk_mul, nI_add]); rfl; omega))
  refine M_isGiven ho ?_
  rw [e1]
  unfold f_nw at key
  refine ⟨fun c => ?_, fun c => ?_⟩
  · have c' := f_is_0.mp c
    rw [if_neg c'] at key
    repeat (first | ((with_reducible apply ap_rc); rfl) | ((with_reducible apply ap_nn)) | ((with_reducible apply ap_rR); rfl) | ((with_reducible apply M_ofOrder); rfl; (exact bz_lit _); omega; (first | omega | decide)) | ((with_reducible apply M_ofRider); rfl; (exact bz_lit _); omega; (first | omega | decide)) | ((with_reducible apply ap_rI); exact kd_ord _ (by omega) _ (by decide)) | ((with_reducible apply ap_wI); exact kd_ord _ (by omega) _ (by decide)) | ((with_reducible apply ap_rI); exact kd_rid _ (by omega) _ (by decide)) | ((with_reducible apply ap_wI); exact kd_rid _ (by omega) _ (by decide)) | ((with_reducible apply ap_rc); exact (kd_clO _ (by omega)).1) | ((with_reducible apply ap_rc); exact (kd_clR _ (by omega)).1) | ((with_reducible apply ap_rc); exact (kd_clR _ (by omega)).2.2.1) | ((with_reducible apply ap_rR); exact (kd_ridA _ (by omega)).1) | ((with_reducible apply ap_rN); rfl) | ((with_reducible apply M_in)) | ((with_reducible apply X_isWithin)) | ((with_reducible apply ap_rI); rfl) | ((with_reducible apply ap_wI); rfl) | ((with_reducible apply ap_iA); rfl; (try simp only [bz_lit, pk_mul, nI_add]); rfl; omega) | ((with_reducible apply ap_iW); rfl; (try simp only [bz_lit, pk_mul, nI_add]); rfl; omega))
    rw [e1]
    exact key _ rfl
  · have c' : s0 (312 + 12 * o + 5) = 1 := Classical.byContradiction (fun q => c (f_is_0.mpr q))
    rw [if_pos c'] at key
    repeat (first | ((with_reducible apply ap_rc); rfl) | ((with_reducible apply ap_nn)) | ((with_reducible apply ap_rR); rfl) | ((with_reducible apply M_ofOrder); rfl; (exact bz_lit _); omega; (first | omega | decide)) | ((with_reducible apply M_ofRider); rfl; (exact bz_lit _); omega; (first | omega | decide)) | ((with_reducible apply ap_rI); exact kd_ord _ (by omega) _ (by decide)) | ((with_reducible apply ap_wI); exact kd_ord _ (by omega) _ (by decide)) | ((with_reducible apply ap_rI); exact kd_rid _ (by omega) _ (by decide)) | ((with_reducible apply ap_wI); exact kd_rid _ (by omega) _ (by decide)) | ((with_reducible apply ap_rc); exact (kd_clO _ (by omega)).1) | ((with_reducible apply ap_rc); exact (kd_clR _ (by omega)).1) | ((with_reducible apply ap_rc); exact (kd_clR _ (by omega)).2.2.1) | ((with_reducible apply ap_rR); exact (kd_ridA _ (by omega)).1) | ((with_reducible apply ap_rN); rfl) | ((with_reducible apply M_in)) | ((with_reducible apply X_isWithin)) | ((with_reducible apply ap_rI); rfl) | ((with_reducible apply ap_wI); rfl) | ((with_reducible apply ap_iA); rfl; (try simp only [bz_lit, pk_mul, nI_add]); rfl; omega) | ((with_reducible apply ap_iW); rfl; (try simp only [bz_lit, pk_mul, nI_add]); rfl; omega))
    rw [e1]
    exact key _ rfl
theorem M_payFor {P : Int32 → bz_H → Prop} {y : Int32} {r o w : Nat} {q : Option (Nat × (Nat → Nat))} (hy : y = nI w) (hw : w < 2) (hr : r < 12) (ho : o < 24) (hs : S.1 187 = s) (hg : gd_b s) (hf : fd S) (hq : tu S s 6 q) (hP : ∀ S', fr (fun c k => c = 190 ∨ c = 195 ∨ c = 196 ∨ (c = 186 ∧ k = 5)) S S' → fd S' → P (f_pf s r o (S.1 191 w) (S.1 192 w) q) (bz_hp E S')) : bz_cI G l (d + 8) kX12_payFor [.inr (some 186), .inl (nI r), .inl (nI o), .inl y] (bz_hp E S) 0 0 P := by
  refine m_X12_payFor _ _ _ _ _ ?_
  unfold w_X12_payFor_0
  subst hs; subst hy
  obtain ⟨a, ha, ea⟩ : bz_lt (S.1 187 (600 + 8 * r + 1)) 16 := gb_r hg hr 1 (by decide)
  repeat (first | ((with_reducible apply ap_rc); rfl) | ((with_reducible apply ap_nn)) | ((with_reducible apply ap_rR); rfl) | ((with_reducible apply M_ofOrder); rfl; (exact bz_lit _); omega; (first | omega | decide)) | ((with_reducible apply M_ofRider); rfl; (exact bz_lit _); omega; (first | omega | decide)) | ((with_reducible apply ap_rI); exact kd_ord _ (by omega) _ (by decide)) | ((with_reducible apply ap_wI); exact kd_ord _ (by omega) _ (by decide)) | ((with_reducible apply ap_rI); exact kd_rid _ (by omega) _ (by decide)) | ((with_reducible apply ap_wI); exact kd_rid _ (by omega) _ (by decide)) | ((with_reducible apply ap_rc); exact (kd_clO _ (by omega)).1) | ((with_reducible apply ap_rc); exact (kd_clR _ (by omega)).1) | ((with_reducible apply ap_rc); exact (kd_clR _ (by omega)).2.2.1) | ((with_reducible apply ap_rR); exact (kd_ridA _ (by omega)).1) | ((with_reducible apply ap_rN); rfl) | ((with_reducible apply M_in)) | ((with_reducible apply X_isWithin)) | ((with_reducible apply ap_rI); rfl) | ((with_reducible apply ap_wI); rfl) | ((with_reducible apply ap_iA); rfl; (try simp only [bz_lit, pk_mul, nI_add]); rfl; omega) | ((with_reducible apply ap_iW); rfl; (try simp only [bz_lit, pk_mul, nI_add]); rfl; omega))
  rcases hq with ⟨h6, hq⟩ | ⟨t, i, n, f, g, hq, h6, ht8, -, -, -, -, hwf, htg⟩
  · rw [h6]
    subst hq
    exact ⟨fun c => absurd c (by decide), fun _ => ⟨_, rfl, hP S (fr_r _ S) hf⟩⟩
  · subst hq
    rw [h6]
    refine ⟨fun _ => ?_, fun c => absurd (nI_pos' (by omega)) c⟩
    generalize hs0 : S.1 187 = s0 at *
    repeat (first | ((with_reducible apply ap_rc); rfl) | ((with_reducible apply ap_nn)) | ((with_reducible apply ap_rR); rfl) | ((with_reducible apply M_ofOrder); rfl; (exact bz_lit _); omega; (first | omega | decide)) | ((with_reducible apply M_ofRider); rfl; (exact bz_lit _); omega; (first | omega | decide)) | ((with_reducible apply ap_rI); exact kd_ord _ (by omega) _ (by decide)) | ((with_reducible apply ap_wI); exact kd_ord _ (by omega) _ (by decide)) | ((with_reducible apply ap_rI); exact kd_rid _ (by omega) _ (by decide)) | ((with_reducible apply ap_wI); exact kd_rid _ (by omega) _ (by decide)) | ((with_reducible apply ap_rc); exact (kd_clO _ (by omega)).1) | ((with_reducible apply ap_rc); exact (kd_clR _ (by omega)).1) | ((with_reducible apply ap_rc); exact (kd_clR _ (by omega)).2.2.1) | ((with_reducible apply ap_rR); exact (kd_ridA _ (by omega)).1) | ((with_reducible apply ap_rN); rfl) | ((with_reducible apply M_in)) | ((with_reducible apply X_isWithin)) | ((with_reducible apply ap_rI); rfl) | ((with_reducible apply ap_wI); rfl) | ((with_reducible apply ap_iA); rfl; (try simp only [bz_lit, pk_mul, nI_add]); rfl; omega) | ((with_reducible apply ap_iW); rfl; (try simp only [bz_lit, pk_mul, nI_add]); rfl; omega))
    rw [hs0]
    refine M_nameWays ea ho ha hs0 hg hf (fun S1 r1 f1 v100 v99 => ?_)
    have e1 : S1.1 187 = s0 := (fr_c r1 (fun k => by omega)).trans hs0
    have q191 : S1.1 191 w = S.1 191 w := r1.2 _ _ (by dsimp only; omega)
    have q192 : S1.1 192 w = S.1 192 w := r1.2 _ _ (by dsimp only; omega)
    repeat (first | ((with_reducible apply ap_rc); rfl) | ((with_reducible apply ap_nn)) | ((with_reducible apply ap_rR); rfl) | ((with_reducible apply M_ofOrder); rfl; (exact bz_lit _); omega; (first | omega | decide)) | ((with_reducible apply M_ofRider); rfl; (exact bz_lit _); omega; (first | omega | decide)) | ((with_reducible apply ap_rI); exact kd_ord _ (by omega) _ (by decide)) | ((with_reducible apply ap_wI); exact kd_ord _ (by omega) _ (by decide)) | ((with_reducible apply ap_rI); exact kd_rid _ (by omega) _ (by decide)) | ((with_reducible apply ap_wI); exact kd_rid _ (by omega) _ (by decide)) | ((with_reducible apply ap_rc); exact (kd_clO _ (by omega)).1) | ((with_reducible apply ap_rc); exact (kd_clR _ (by omega)).1) | ((with_reducible apply ap_rc); exact (kd_clR _ (by omega)).2.2.1) | ((with_reducible apply ap_rR); exact (kd_ridA _ (by omega)).1) | ((with_reducible apply ap_rN); rfl) | ((with_reducible apply M_in)) | ((with_reducible apply X_isWithin)) | ((with_reducible apply ap_rI); rfl) | ((with_reducible apply ap_wI); rfl) | ((with_reducible apply ap_iA); rfl; (try simp only [bz_lit, pk_mul, nI_add]); rfl; omega) | ((with_reducible apply ap_iW); rfl; (try simp only [bz_lit, pk_mul, nI_add]); rfl; omega))
    rw [q191, e1]
    have e2 : ∀ v, (bz_u S1.1 195 119 v) 187 = s0 := fun v => by rw [bz_u_cell _ _ _ (by decide)]; exact e1
    have e3 : ∀ v w, (bz_u (bz_u S1.1 195 119 v) 195 104 w) 187 = s0 := fun v w => by rw [bz_u_cell _ _ _ (by decide)]; exact e2 v
    have e4 : ∀ v w x, (bz_u (bz_u (bz_u S1.1 195 119 v) 195 104 w) 195 114 x) 187 = s0 := fun v w x => by rw [bz_u_cell _ _ _ (by decide)]; exact e3 v w
    dsimp only
    rw [e2]
    refine M_ratingOfRider hr (by dsimp only; rw [e3]; exact hg) ?_
    repeat (first | ((with_reducible apply ap_rc); rfl) | ((with_reducible apply ap_nn)) | ((with_reducible apply ap_rR); rfl) | ((with_reducible apply M_ofOrder); rfl; (exact bz_lit _); omega; (first | omega | decide)) | ((with_reducible apply M_ofRider); rfl; (exact bz_lit _); omega; (first | omega | decide)) | ((with_reducible apply ap_rI); exact kd_ord _ (by omega) _ (by decide)) | ((with_reducible apply ap_wI); exact kd_ord _ (by omega) _ (by decide)) | ((with_reducible apply ap_rI); exact kd_rid _ (by omega) _ (by decide)) | ((with_reducible apply ap_wI); exact kd_rid _ (by omega) _ (by decide)) | ((with_reducible apply ap_rc); exact (kd_clO _ (by omega)).1) | ((with_reducible apply ap_rc); exact (kd_clR _ (by omega)).1) | ((with_reducible apply ap_rc); exact (kd_clR _ (by omega)).2.2.1) | ((with_reducible apply ap_rR); exact (kd_ridA _ (by omega)).1) | ((with_reducible apply ap_rN); rfl) | ((with_reducible apply M_in)) | ((with_reducible apply X_isWithin)) | ((with_reducible apply ap_rI); rfl) | ((with_reducible apply ap_wI); rfl) | ((with_reducible apply ap_iA); rfl; (try simp only [bz_lit, pk_mul, nI_add]); rfl; omega) | ((with_reducible apply ap_iW); rfl; (try simp only [bz_lit, pk_mul, nI_add]); rfl; omega))
    dsimp only
    rw [e3]
    rw [show (bz_u (bz_u (bz_u S1.1 195 119 (S.1 191 w - s0 (312 + 12 * o + 2))) 195 104 (s0 (600 + 8 * r + 3))) 195 114 (f_ratR s0 r)) 192 w = S.1 192 w by rw [bz_u_cell _ _ _ (by decide), bz_u_cell _ _ _ (by decide), bz_u_cell _ _ _ (by decide)]; exact q192]
    refine M_lateBy ho ?_
    dsimp only
    rw [e4]
    repeat (first | ((with_reducible apply ap_rc); rfl) | ((with_reducible apply ap_nn)) | ((with_reducible apply ap_rR); rfl) | ((with_reducible apply M_ofOrder); rfl; (exact bz_lit _); omega; (first | omega | decide)) | ((with_reducible apply M_ofRider); rfl; (exact bz_lit _); omega; (first | omega | decide)) | ((with_reducible apply ap_rI); exact kd_ord _ (by omega) _ (by decide)) | ((with_reducible apply ap_wI); exact kd_ord _ (by omega) _ (by decide)) | ((with_reducible apply ap_rI); exact kd_rid _ (by omega) _ (by decide)) | ((with_reducible apply ap_wI); exact kd_rid _ (by omega) _ (by decide)) | ((with_reducible apply ap_rc); exact (kd_clO _ (by omega)).1) | ((with_reducible apply ap_rc); exact (kd_clR _ (by omega)).1) | ((with_reducible apply ap_rc); exact (kd_clR _ (by omega)).2.2.1) | ((with_reducible apply ap_rR); exact (kd_ridA _ (by omega)).1) | ((with_reducible apply ap_rN); rfl) | ((with_reducible apply M_in)) | ((with_reducible apply X_isWithin)) | ((with_reducible apply ap_rI); rfl) | ((with_reducible apply ap_wI); rfl) | ((with_reducible apply ap_iA); rfl; (try simp only [bz_lit, pk_mul, nI_add]); rfl; omega) | ((with_reducible apply ap_iW); rfl; (try simp only [bz_lit, pk_mul, nI_add]); rfl; omega))
    dsimp only
    rw [bz_u_cell _ _ _ (by decide), bz_u_cell _ _ _ (by decide), e4, h6]
    have r5 : fr (fun c k => c = 195) S1 (bz_u (bz_u (bz_u (bz_u (bz_u S1.1 195 119 (S.1 191 w - s0 (312 + 12 * o + 2))) 195 104 (s0 (600 + 8 * r + 3))) 195 114 (f_ratR s0 r)) 195 108 (f_lateBy s0 o (S.1 192 w))) 195 110 (nI r), S1.2) := fr_t (fr_u (S := S1) (c := 195) (k := 119) (by first | omega | (dsimp only; omega))) (fr_t (fr_u (S := (bz_u S1.1 195 119 (S.1 191 w - s0 (312 + 12 * o + 2)), S1.2)) (c := 195) (k := 104) (by first | omega | (dsimp only; omega))) (fr_t (fr_u (S := (bz_u (bz_u S1.1 195 119 (S.1 191 w - s0 (312 + 12 * o + 2))) 195 104 (s0 (600 + 8 * r + 3)), S1.2)) (c := 195) (k := 114) (by first | omega | (dsimp only; omega))) (fr_t (fr_u (S := (bz_u (bz_u (bz_u S1.1 195 119 (S.1 191 w - s0 (312 + 12 * o + 2))) 195 104 (s0 (600 + 8 * r + 3))) 195 114 (f_ratR s0 r), S1.2)) (c := 195) (k := 108) (by first | omega | (dsimp only; omega))) (fr_u (S := (bz_u (bz_u (bz_u (bz_u S1.1 195 119 (S.1 191 w - s0 (312 + 12 * o + 2))) 195 104 (s0 (600 + 8 * r + 3))) 195 114 (f_ratR s0 r)) 195 108 (f_lateBy s0 o (S.1 192 w)), S1.2)) (c := 195) (k := 110) (by first | omega | (dsimp only; omega))))))
    refine M_works (s := s0) (v := f_en2 s0 r o (S.1 191 w - s0 (312 + 12 * o + 2)) (f_lateBy s0 o (S.1 192 w))) rfl ht8 (by dsimp only; rw [bz_u_cell _ _ _ (by decide), bz_u_cell _ _ _ (by decide), e4]) htg hwf ?_ (fun S2 r2 => ⟨_, rfl, hP S2 (fr_t (fr_m r1 (by intro c k h; first | omega | (dsimp only at h ⊢; omega) | (dsimp only at h; omega) | (dsimp only; omega))) (fr_t (fr_m r5 (by intro c k h; first | omega | (dsimp only at h ⊢; omega) | (dsimp only at h; omega) | (dsimp only; omega))) (fr_m r2 (by intro c k h; first | omega | (dsimp only at h ⊢; omega) | (dsimp only at h; omega) | (dsimp only; omega))))) (fd_f (fd_f f1 r5 (by intro c k h; first | omega | (dsimp only at h ⊢; omega) | (dsimp only at h; omega) | (dsimp only; omega))) r2 (by intro c k h; first | omega | (dsimp only at h ⊢; omega) | (dsimp only at h; omega) | (dsimp only; omega)))⟩)
    · unfold f_en2
      refine nm_7 ?_ ?_ ?_ ?_ ?_ ?_ ?_
      · simp (disch := omega) only [bz_u_same, bz_u_ne]
        rw [v100, ea, nI_clamp (by omega)]
        rfl
      · simp (disch := omega) only [bz_u_same, bz_u_ne]
        rfl
      · simp (disch := omega) only [bz_u_same, bz_u_ne]
        rfl
      · simp (disch := omega) only [bz_u_same, bz_u_ne]
        rfl
      · simp (disch := omega) only [bz_u_same, bz_u_ne]
        rfl
      · simp (disch := omega) only [bz_u_same, bz_u_ne]
        rw [v99]
        rfl
      · simp (disch := omega) only [bz_u_same, bz_u_ne]
        rfl
theorem X_wageFor {P : Int32 → bz_H → Prop} {r o : Nat} {p e : Int32} {q : Option (Nat × (Nat → Nat))} (hr : r < 12) (ho : o < 24) (hp : o < (s 2).toNatClampNeg) (ht : tw S s) (hq : tu S s 6 q) (hP : ∀ S', fr (fun c _ => c = 179 ∨ c = 180) S S' → P (f_pf s r o p e q) (bz_hp E S')) : bz_cI G l (d + 4) kX11_wageFor [.inr (some 5), .inl (nI r), .inr (some (24 + o)), .inl p, .inl e] (bz_hp E S) 0 0 P := by
  refine m_X11_wageFor _ _ _ _ _ _ ?_
  unfold w_X11_wageFor_0
  have hg := tw_b ht
  have e6 : S.1 6 14 = s 6 := sy_c (tw_s ht) 6 0 14 (by decide) rfl
  repeat (first | ((with_reducible apply ap_rc); rfl) | ((with_reducible apply ap_nn)) | ((with_reducible apply ap_rR); rfl) | ((with_reducible apply M_ofOrder); rfl; (exact bz_lit _); omega; (first | omega | decide)) | ((with_reducible apply M_ofRider); rfl; (exact bz_lit _); omega; (first | omega | decide)) | ((with_reducible apply ap_rI); exact kd_ord _ (by omega) _ (by decide)) | ((with_reducible apply ap_wI); exact kd_ord _ (by omega) _ (by decide)) | ((with_reducible apply ap_rI); exact kd_rid _ (by omega) _ (by decide)) | ((with_reducible apply ap_wI); exact kd_rid _ (by omega) _ (by decide)) | ((with_reducible apply ap_rc); exact (kd_clO _ (by omega)).1) | ((with_reducible apply ap_rc); exact (kd_clR _ (by omega)).1) | ((with_reducible apply ap_rc); exact (kd_clR _ (by omega)).2.2.1) | ((with_reducible apply ap_rR); exact (kd_ridA _ (by omega)).1) | ((with_reducible apply ap_rN); rfl) | ((with_reducible apply M_in)) | ((with_reducible apply X_isWithin)) | ((with_reducible apply ap_rI); rfl) | ((with_reducible apply ap_wI); rfl) | ((with_reducible apply ap_iA); rfl; (try simp only [bz_lit, pk_mul, nI_add]); rfl; omega) | ((with_reducible apply ap_iW); rfl; (try simp only [bz_lit, pk_mul, nI_add]); rfl; omega))
  rw [e6]
  rcases hq with ⟨h6, hq⟩ | ⟨t, i, n, f, g, hq, h6, ht8, htn, hq16, hT, hfg, hwf, htg⟩
  · subst hq
    rw [h6]
    refine X_textAt hg (tw_s ht) (fun _ => ⟨fun a q => (by cases q), fun _ => ⟨_, rfl, hP S (fr_r _ S)⟩⟩) (fun c t h1 h2 h3 => ?_)
    exact absurd h3 (fun q => nI_nn (n := t) (by omega) q.symm)
  · subst hq
    rw [h6]
    obtain ⟨m4, hm4, em4⟩ : bz_lt (s 4) 9 := hg 4 (by decide) (by decide) (by decide)
    refine X_textAt hg (tw_s ht) (fun c => ?_) (fun c t' h1 h2 h3 => ?_)
    · rw [em4, nI_clamp (by omega)] at htn
      rw [em4, bz_in_1 (v := nI t) (lo := 0) (hi := nI m4 - 1) ⟨nI_pos (by omega), by
        rw [show nI m4 - 1 = nI (m4 - 1) from pk_sub (a := m4) (b := 1) (by omega)]
        exact nI_nlt (by omega) (by omega)⟩] at c
      exact absurd c (by decide)
    · have e : t = t' := (nI_eq (by omega) (by omega)).mp h3
      subst e
      rw [hq16]
      refine ⟨fun a qa => ?_, fun q => by cases q⟩
      cases qa
      repeat (first | ((with_reducible apply ap_rc); rfl) | ((with_reducible apply ap_nn)) | ((with_reducible apply ap_rR); rfl) | ((with_reducible apply M_ofOrder); rfl; (exact bz_lit _); omega; (first | omega | decide)) | ((with_reducible apply M_ofRider); rfl; (exact bz_lit _); omega; (first | omega | decide)) | ((with_reducible apply ap_rI); exact kd_ord _ (by omega) _ (by decide)) | ((with_reducible apply ap_wI); exact kd_ord _ (by omega) _ (by decide)) | ((with_reducible apply ap_rI); exact kd_rid _ (by omega) _ (by decide)) | ((with_reducible apply ap_wI); exact kd_rid _ (by omega) _ (by decide)) | ((with_reducible apply ap_rc); exact (kd_clO _ (by omega)).1) | ((with_reducible apply ap_rc); exact (kd_clR _ (by omega)).1) | ((with_reducible apply ap_rc); exact (kd_clR _ (by omega)).2.2.1) | ((with_reducible apply ap_rR); exact (kd_ridA _ (by omega)).1) | ((with_reducible apply ap_rN); rfl) | ((with_reducible apply M_in)) | ((with_reducible apply X_isWithin)) | ((with_reducible apply ap_rI); rfl) | ((with_reducible apply ap_wI); rfl) | ((with_reducible apply ap_iA); rfl; (try simp only [bz_lit, pk_mul, nI_add]); rfl; omega) | ((with_reducible apply ap_iW); rfl; (try simp only [bz_lit, pk_mul, nI_add]); rfl; omega))
      refine X_nameRider hr ho hp ht (fun S1 r1 v1 => ?_)
      have ht1 := tw_f ht r1 (by intro c k h; first | omega | (dsimp only at h ⊢; omega) | (dsimp only at h; omega) | (dsimp only; omega))
      repeat (first | ((with_reducible apply ap_rc); rfl) | ((with_reducible apply ap_nn)) | ((with_reducible apply ap_rR); rfl) | ((with_reducible apply M_ofOrder); rfl; (exact bz_lit _); omega; (first | omega | decide)) | ((with_reducible apply M_ofRider); rfl; (exact bz_lit _); omega; (first | omega | decide)) | ((with_reducible apply ap_rI); exact kd_ord _ (by omega) _ (by decide)) | ((with_reducible apply ap_wI); exact kd_ord _ (by omega) _ (by decide)) | ((with_reducible apply ap_rI); exact kd_rid _ (by omega) _ (by decide)) | ((with_reducible apply ap_wI); exact kd_rid _ (by omega) _ (by decide)) | ((with_reducible apply ap_rc); exact (kd_clO _ (by omega)).1) | ((with_reducible apply ap_rc); exact (kd_clR _ (by omega)).1) | ((with_reducible apply ap_rc); exact (kd_clR _ (by omega)).2.2.1) | ((with_reducible apply ap_rR); exact (kd_ridA _ (by omega)).1) | ((with_reducible apply ap_rN); rfl) | ((with_reducible apply M_in)) | ((with_reducible apply X_isWithin)) | ((with_reducible apply ap_rI); rfl) | ((with_reducible apply ap_wI); rfl) | ((with_reducible apply ap_iA); rfl; (try simp only [bz_lit, pk_mul, nI_add]); rfl; omega) | ((with_reducible apply ap_iW); rfl; (try simp only [bz_lit, pk_mul, nI_add]); rfl; omega))
      refine X_lateAt ho (tw_d ht1) ?_
      repeat (first | ((with_reducible apply ap_rc); rfl) | ((with_reducible apply ap_nn)) | ((with_reducible apply ap_rR); rfl) | ((with_reducible apply M_ofOrder); rfl; (exact bz_lit _); omega; (first | omega | decide)) | ((with_reducible apply M_ofRider); rfl; (exact bz_lit _); omega; (first | omega | decide)) | ((with_reducible apply ap_rI); exact kd_ord _ (by omega) _ (by decide)) | ((with_reducible apply ap_wI); exact kd_ord _ (by omega) _ (by decide)) | ((with_reducible apply ap_rI); exact kd_rid _ (by omega) _ (by decide)) | ((with_reducible apply ap_wI); exact kd_rid _ (by omega) _ (by decide)) | ((with_reducible apply ap_rc); exact (kd_clO _ (by omega)).1) | ((with_reducible apply ap_rc); exact (kd_clR _ (by omega)).1) | ((with_reducible apply ap_rc); exact (kd_clR _ (by omega)).2.2.1) | ((with_reducible apply ap_rR); exact (kd_ridA _ (by omega)).1) | ((with_reducible apply ap_rN); rfl) | ((with_reducible apply M_in)) | ((with_reducible apply X_isWithin)) | ((with_reducible apply ap_rI); rfl) | ((with_reducible apply ap_wI); rfl) | ((with_reducible apply ap_iA); rfl; (try simp only [bz_lit, pk_mul, nI_add]); rfl; omega) | ((with_reducible apply ap_iW); rfl; (try simp only [bz_lit, pk_mul, nI_add]); rfl; omega))
      rw [sy_o (tw_s ht1) ho 2 3 (by decide) rfl]
      refine X_putTimes (fun S2 r2 k1 k4 => ?_)
      repeat (first | ((with_reducible apply ap_rc); rfl) | ((with_reducible apply ap_nn)) | ((with_reducible apply ap_rR); rfl) | ((with_reducible apply M_ofOrder); rfl; (exact bz_lit _); omega; (first | omega | decide)) | ((with_reducible apply M_ofRider); rfl; (exact bz_lit _); omega; (first | omega | decide)) | ((with_reducible apply ap_rI); exact kd_ord _ (by omega) _ (by decide)) | ((with_reducible apply ap_wI); exact kd_ord _ (by omega) _ (by decide)) | ((with_reducible apply ap_rI); exact kd_rid _ (by omega) _ (by decide)) | ((with_reducible apply ap_wI); exact kd_rid _ (by omega) _ (by decide)) | ((with_reducible apply ap_rc); exact (kd_clO _ (by omega)).1) | ((with_reducible apply ap_rc); exact (kd_clR _ (by omega)).1) | ((with_reducible apply ap_rc); exact (kd_clR _ (by omega)).2.2.1) | ((with_reducible apply ap_rR); exact (kd_ridA _ (by omega)).1) | ((with_reducible apply ap_rN); rfl) | ((with_reducible apply M_in)) | ((with_reducible apply X_isWithin)) | ((with_reducible apply ap_rI); rfl) | ((with_reducible apply ap_wI); rfl) | ((with_reducible apply ap_iA); rfl; (try simp only [bz_lit, pk_mul, nI_add]); rfl; omega) | ((with_reducible apply ap_iW); rfl; (try simp only [bz_lit, pk_mul, nI_add]); rfl; omega))
      refine X_worthOf (i := i) (n := n) (f := f) (g := g) (by rw [r2.1, r1.1]; exact hT) hfg hwf (nv_t v1 r2 k1 k4) (fun S3 r3 => ?_)
      rw [f_cl_x]
      exact ⟨_, rfl, hP S3 (fr_t (fr_m r1 (by intro c k h; first | omega | (dsimp only at h ⊢; omega) | (dsimp only at h; omega) | (dsimp only; omega))) (fr_t (fr_m r2 (by intro c k h; first | omega | (dsimp only at h ⊢; omega) | (dsimp only at h; omega) | (dsimp only; omega))) (fr_m r3 (by intro c k h; first | omega | (dsimp only at h ⊢; omega) | (dsimp only at h; omega) | (dsimp only; omega)))))⟩
end PAY
