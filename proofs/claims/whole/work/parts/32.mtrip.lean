/-! the reference's trips -/
def f_ok {α : Type} (q : Option α) : Int32 := match q with
  | none => 0
  | some _ => 1
def f_fin (q : Option (Nat × Nat)) : Option Nat := match q with
  | none => none
  | some q => if q.1 ≤ 1439 then some q.1 else none
def f_tp (s : Nat → Int32) (x : Int32) (a m o : Nat) : Option (Nat × Nat) := match f_pk s x o (some (m, a)) with
  | none => none
  | some q => match f_dr s x o (some q) with
    | none => none
    | some q' => if q'.1 ≤ 1439 then some (q.1, q'.1) else none
abbrev tX (c k : Nat) : Prop := c = 190 ∨ c = 191 ∨ c = 192 ∨ (c = 186 ∧ 5 ≤ k ∧ k ≤ 8)
section MTR
variable {G : bz_G} {l : Launch} {d : Nat} {E : Nat × (Nat → Int32)} {S : bz_S} {s : Nat → Int32}
theorem M_pickUp {P : bz_H → Prop} {x y : Int32} {o w K : Nat} {st : Option (Nat × Nat)} (ho : o < 24) (hw : w < 2) (hy : y = nI w) (hs : S.1 187 = s) (hg : gd_b s) (hf : fd S) (ht : tr S st) (hb : sb st K) (hK : K ≤ 20000) (hP : ∀ S', fr (fun c k => c = 190 ∨ (c = 191 ∧ k = w) ∨ (c = 186 ∧ 5 ≤ k ∧ k ≤ 8)) S S' → fd S' → tr S' (f_pk s x o st) → (∀ m a, f_pk s x o st = some (m, a) → S'.1 191 w = nI m) → P (bz_hp E S')) : bz_cV G l (d + 5) kX12_pickUp [.inr (some 186), .inl x, .inl (nI o), .inl y] (bz_hp E S) 0 0 P := by
  refine m_X12_pickUp _ _ _ _ _ ?_
  unfold w_X12_pickUp_0
  subst hy; subst hs
  obtain ⟨a, ha, ea⟩ := gb_ka hg ho
  obtain ⟨r, hr, er⟩ := gb_rdy hg ho
  have sr := sb_ri hg (x := x) ha hb
  repeat (first | ((with_reducible apply ap_rc); rfl) | ((with_reducible apply ap_nn)) | ((with_reducible apply ap_rR); rfl) | ((with_reducible apply M_ofOrder); rfl; (exact bz_lit _); omega; (first | omega | decide)) | ((with_reducible apply M_ofRider); rfl; (exact bz_lit _); omega; (first | omega | decide)) | ((with_reducible apply ap_rI); exact kd_ord _ (by omega) _ (by decide)) | ((with_reducible apply ap_wI); exact kd_ord _ (by omega) _ (by decide)) | ((with_reducible apply ap_rI); exact kd_rid _ (by omega) _ (by decide)) | ((with_reducible apply ap_wI); exact kd_rid _ (by omega) _ (by decide)) | ((with_reducible apply ap_rc); exact (kd_clO _ (by omega)).1) | ((with_reducible apply ap_rc); exact (kd_clR _ (by omega)).1) | ((with_reducible apply ap_rc); exact (kd_clR _ (by omega)).2.2.1) | ((with_reducible apply ap_rR); exact (kd_ridA _ (by omega)).1) | ((with_reducible apply ap_rN); rfl) | ((with_reducible apply M_in)) | ((with_reducible apply X_isWithin)) | ((with_reducible apply ap_rI); rfl) | ((with_reducible apply ap_wI); rfl) | ((with_reducible apply ap_iA); rfl; (try simp only [bz_lit, pk_mul, nI_add]); rfl; omega) | ((with_reducible apply ap_iW); rfl; (try simp only [bz_lit, pk_mul, nI_add]); rfl; omega))
  refine M_kitchenAt ho (gb_o hg ho 0 (by decide)) ?_
  rw [ea]
  repeat (first | ((with_reducible apply ap_rc); rfl) | ((with_reducible apply ap_nn)) | ((with_reducible apply ap_rR); rfl) | ((with_reducible apply M_ofOrder); rfl; (exact bz_lit _); omega; (first | omega | decide)) | ((with_reducible apply M_ofRider); rfl; (exact bz_lit _); omega; (first | omega | decide)) | ((with_reducible apply ap_rI); exact kd_ord _ (by omega) _ (by decide)) | ((with_reducible apply ap_wI); exact kd_ord _ (by omega) _ (by decide)) | ((with_reducible apply ap_rI); exact kd_rid _ (by omega) _ (by decide)) | ((with_reducible apply ap_wI); exact kd_rid _ (by omega) _ (by decide)) | ((with_reducible apply ap_rc); exact (kd_clO _ (by omega)).1) | ((with_reducible apply ap_rc); exact (kd_clR _ (by omega)).1) | ((with_reducible apply ap_rc); exact (kd_clR _ (by omega)).2.2.1) | ((with_reducible apply ap_rR); exact (kd_ridA _ (by omega)).1) | ((with_reducible apply ap_rN); rfl) | ((with_reducible apply M_in)) | ((with_reducible apply X_isWithin)) | ((with_reducible apply ap_rI); rfl) | ((with_reducible apply ap_wI); rfl) | ((with_reducible apply ap_iA); rfl; (try simp only [bz_lit, pk_mul, nI_add]); rfl; omega) | ((with_reducible apply ap_iW); rfl; (try simp only [bz_lit, pk_mul, nI_add]); rfl; omega))
  refine M_ride ha rfl hg hf ht (fun S1 t1 f1 r1 => ?_)
  have e187 := tf_s t1
  have fin : ∀ v : Int32, (∀ m b, f_ri (S.1 187) x a st = some (m, b) → v = nI (if m ≤ r then r else m)) → P (bz_hp E (bz_u (bz_u S1.1 186 7 v) 191 w v, S1.2)) := by
    intro v hv
    have hpk : f_pk (S.1 187) x o st = (f_ri (S.1 187) x a st).map (fun q => (if q.1 ≤ r then r else q.1, q.2)) := by
      unfold f_pk
      rw [ea, er, nI_clamp (by omega), nI_clamp (by omega)]
    refine hP _ (fr_t (fr_m t1 (by intro c k h; first | omega | (dsimp only at h ⊢; omega) | (dsimp only at h; omega) | (dsimp only; omega))) (fr_t (fr_u (S := S1) (by first | omega | (dsimp only; omega))) (fr_u (S := (bz_u S1.1 186 7 v, S1.2)) (by first | omega | (dsimp only; omega))))) (fd_u (fd_u f1 (by omega) (by omega) (by omega)) (by omega) (by omega) (by omega)) ?_ ?_
    · rw [hpk]
      cases h : f_ri (S.1 187) x a st with
      | none =>
        rw [h] at r1
        have r2 : S1.1 186 8 = 0 := r1
        unfold tr
        dsimp only
        simp (disch := omega) only [bz_u_same, bz_u_ne]
        exact r2
      | some q =>
        obtain ⟨m, b⟩ := q
        rw [h] at r1
        obtain ⟨q1, q2, q3, q4⟩ : S1.1 186 8 = 1 ∧ S1.1 186 7 = nI m ∧ S1.1 186 6 = nI b ∧ b < 16 := r1
        refine ⟨?_, ?_, ?_, q4⟩
        · simp (disch := omega) only [bz_u_same, bz_u_ne]
          exact q1
        · simp (disch := omega) only [bz_u_same, bz_u_ne]
          exact hv m b h
        · simp (disch := omega) only [bz_u_same, bz_u_ne]
          exact q3
    · intro m b e
      rw [hpk] at e
      dsimp only
      rw [bz_u_same]
      cases h : f_ri (S.1 187) x a st with
      | none => rw [h] at e; cases e
      | some q =>
        obtain ⟨m1, b1⟩ := q
        rw [h] at e
        have e1 : (if m1 ≤ r then r else m1) = m := congrArg Prod.fst (Option.some.inj e)
        rw [← e1]
        exact hv m1 b1 h
  have hmr : ∀ m b, f_ri (S.1 187) x a st = some (m, b) → S1.1 186 7 = nI m ∧ m < 30000 := by
    intro m b e
    have := (sr m b e).1
    rw [e] at r1
    exact ⟨r1.2.1, by omega⟩
  repeat (first | ((with_reducible apply ap_rc); rfl) | ((with_reducible apply ap_nn)) | ((with_reducible apply ap_rR); rfl) | ((with_reducible apply M_ofOrder); rfl; (exact bz_lit _); omega; (first | omega | decide)) | ((with_reducible apply M_ofRider); rfl; (exact bz_lit _); omega; (first | omega | decide)) | ((with_reducible apply ap_rI); exact kd_ord _ (by omega) _ (by decide)) | ((with_reducible apply ap_wI); exact kd_ord _ (by omega) _ (by decide)) | ((with_reducible apply ap_rI); exact kd_rid _ (by omega) _ (by decide)) | ((with_reducible apply ap_wI); exact kd_rid _ (by omega) _ (by decide)) | ((with_reducible apply ap_rc); exact (kd_clO _ (by omega)).1) | ((with_reducible apply ap_rc); exact (kd_clR _ (by omega)).1) | ((with_reducible apply ap_rc); exact (kd_clR _ (by omega)).2.2.1) | ((with_reducible apply ap_rR); exact (kd_ridA _ (by omega)).1) | ((with_reducible apply ap_rN); rfl) | ((with_reducible apply M_in)) | ((with_reducible apply X_isWithin)) | ((with_reducible apply ap_rI); rfl) | ((with_reducible apply ap_wI); rfl) | ((with_reducible apply ap_iA); rfl; (try simp only [bz_lit, pk_mul, nI_add]); rfl; omega) | ((with_reducible apply ap_iW); rfl; (try simp only [bz_lit, pk_mul, nI_add]); rfl; omega))
  refine M_ready ho (by rw [e187]; exact gb_o hg ho 0 (by decide)) ?_
  rw [e187, er]
  refine ⟨fun c => ?_, fun c => ?_⟩
  · repeat (first | ((with_reducible apply ap_rc); rfl) | ((with_reducible apply ap_nn)) | ((with_reducible apply ap_rR); rfl) | ((with_reducible apply M_ofOrder); rfl; (exact bz_lit _); omega; (first | omega | decide)) | ((with_reducible apply M_ofRider); rfl; (exact bz_lit _); omega; (first | omega | decide)) | ((with_reducible apply ap_rI); exact kd_ord _ (by omega) _ (by decide)) | ((with_reducible apply ap_wI); exact kd_ord _ (by omega) _ (by decide)) | ((with_reducible apply ap_rI); exact kd_rid _ (by omega) _ (by decide)) | ((with_reducible apply ap_wI); exact kd_rid _ (by omega) _ (by decide)) | ((with_reducible apply ap_rc); exact (kd_clO _ (by omega)).1) | ((with_reducible apply ap_rc); exact (kd_clR _ (by omega)).1) | ((with_reducible apply ap_rc); exact (kd_clR _ (by omega)).2.2.1) | ((with_reducible apply ap_rR); exact (kd_ridA _ (by omega)).1) | ((with_reducible apply ap_rN); rfl) | ((with_reducible apply M_in)) | ((with_reducible apply X_isWithin)) | ((with_reducible apply ap_rI); rfl) | ((with_reducible apply ap_wI); rfl) | ((with_reducible apply ap_iA); rfl; (try simp only [bz_lit, pk_mul, nI_add]); rfl; omega) | ((with_reducible apply ap_iW); rfl; (try simp only [bz_lit, pk_mul, nI_add]); rfl; omega))
    refine M_ready ho (by rw [e187]; exact gb_o hg ho 0 (by decide)) ?_
    rw [e187, er]
    repeat (first | ((with_reducible apply ap_rc); rfl) | ((with_reducible apply ap_nn)) | ((with_reducible apply ap_rR); rfl) | ((with_reducible apply M_ofOrder); rfl; (exact bz_lit _); omega; (first | omega | decide)) | ((with_reducible apply M_ofRider); rfl; (exact bz_lit _); omega; (first | omega | decide)) | ((with_reducible apply ap_rI); exact kd_ord _ (by omega) _ (by decide)) | ((with_reducible apply ap_wI); exact kd_ord _ (by omega) _ (by decide)) | ((with_reducible apply ap_rI); exact kd_rid _ (by omega) _ (by decide)) | ((with_reducible apply ap_wI); exact kd_rid _ (by omega) _ (by decide)) | ((with_reducible apply ap_rc); exact (kd_clO _ (by omega)).1) | ((with_reducible apply ap_rc); exact (kd_clR _ (by omega)).1) | ((with_reducible apply ap_rc); exact (kd_clR _ (by omega)).2.2.1) | ((with_reducible apply ap_rR); exact (kd_ridA _ (by omega)).1) | ((with_reducible apply ap_rN); rfl) | ((with_reducible apply M_in)) | ((with_reducible apply X_isWithin)) | ((with_reducible apply ap_rI); rfl) | ((with_reducible apply ap_wI); rfl) | ((with_reducible apply ap_iA); rfl; (try simp only [bz_lit, pk_mul, nI_add]); rfl; omega) | ((with_reducible apply ap_iW); rfl; (try simp only [bz_lit, pk_mul, nI_add]); rfl; omega))
    simp (disch := omega) only [bz_u_same, bz_u_ne]
    refine ⟨trivial, fin _ (fun m b e => ?_)⟩
    obtain ⟨e1, e2⟩ := hmr m b e
    rw [e1] at c
    rw [if_pos ((nI_leI (by omega) (by omega)).mp c)]
  · repeat (first | ((with_reducible apply ap_rc); rfl) | ((with_reducible apply ap_nn)) | ((with_reducible apply ap_rR); rfl) | ((with_reducible apply M_ofOrder); rfl; (exact bz_lit _); omega; (first | omega | decide)) | ((with_reducible apply M_ofRider); rfl; (exact bz_lit _); omega; (first | omega | decide)) | ((with_reducible apply ap_rI); exact kd_ord _ (by omega) _ (by decide)) | ((with_reducible apply ap_wI); exact kd_ord _ (by omega) _ (by decide)) | ((with_reducible apply ap_rI); exact kd_rid _ (by omega) _ (by decide)) | ((with_reducible apply ap_wI); exact kd_rid _ (by omega) _ (by decide)) | ((with_reducible apply ap_rc); exact (kd_clO _ (by omega)).1) | ((with_reducible apply ap_rc); exact (kd_clR _ (by omega)).1) | ((with_reducible apply ap_rc); exact (kd_clR _ (by omega)).2.2.1) | ((with_reducible apply ap_rR); exact (kd_ridA _ (by omega)).1) | ((with_reducible apply ap_rN); rfl) | ((with_reducible apply M_in)) | ((with_reducible apply X_isWithin)) | ((with_reducible apply ap_rI); rfl) | ((with_reducible apply ap_wI); rfl) | ((with_reducible apply ap_iA); rfl; (try simp only [bz_lit, pk_mul, nI_add]); rfl; omega) | ((with_reducible apply ap_iW); rfl; (try simp only [bz_lit, pk_mul, nI_add]); rfl; omega))
    simp (disch := omega) only [bz_u_same, bz_u_ne]
    refine ⟨trivial, fin _ (fun m b e => ?_)⟩
    obtain ⟨e1, e2⟩ := hmr m b e
    rw [e1] at c ⊢
    rw [if_neg (fun q => c ((nI_leI (by omega) (by omega)).mpr q))]
theorem M_bring {P : bz_H → Prop} {x y : Int32} {o w : Nat} {st : Option (Nat × Nat)} (ho : o < 24) (hw : w < 2) (hy : y = nI w) (hs : S.1 187 = s) (hg : gd_b s) (hf : fd S) (ht : tr S st) (hP : ∀ S', fr (fun c k => c = 190 ∨ (c = 192 ∧ k = w) ∨ (c = 186 ∧ 5 ≤ k ∧ k ≤ 8)) S S' → fd S' → tr S' (f_dr s x o st) → (∀ m a, f_dr s x o st = some (m, a) → S'.1 192 w = nI m) → P (bz_hp E S')) : bz_cV G l (d + 5) kX12_bring [.inr (some 186), .inl x, .inl (nI o), .inl y] (bz_hp E S) 0 0 P := by
  refine m_X12_bring _ _ _ _ _ ?_
  unfold w_X12_bring_0
  subst hy; subst hs
  obtain ⟨a, ha, ea⟩ : bz_lt (S.1 187 (312 + 12 * o + 1)) 16 := gb_o hg ho 1 (by decide)
  have hdr : f_dr (S.1 187) x o st = f_ri (S.1 187) x a st := by
    unfold f_dr
    rw [ea, nI_clamp (by omega)]
  rw [hdr] at hP
  repeat (first | ((with_reducible apply ap_rc); rfl) | ((with_reducible apply ap_nn)) | ((with_reducible apply ap_rR); rfl) | ((with_reducible apply M_ofOrder); rfl; (exact bz_lit _); omega; (first | omega | decide)) | ((with_reducible apply M_ofRider); rfl; (exact bz_lit _); omega; (first | omega | decide)) | ((with_reducible apply ap_rI); exact kd_ord _ (by omega) _ (by decide)) | ((with_reducible apply ap_wI); exact kd_ord _ (by omega) _ (by decide)) | ((with_reducible apply ap_rI); exact kd_rid _ (by omega) _ (by decide)) | ((with_reducible apply ap_wI); exact kd_rid _ (by omega) _ (by decide)) | ((with_reducible apply ap_rc); exact (kd_clO _ (by omega)).1) | ((with_reducible apply ap_rc); exact (kd_clR _ (by omega)).1) | ((with_reducible apply ap_rc); exact (kd_clR _ (by omega)).2.2.1) | ((with_reducible apply ap_rR); exact (kd_ridA _ (by omega)).1) | ((with_reducible apply ap_rN); rfl) | ((with_reducible apply M_in)) | ((with_reducible apply X_isWithin)) | ((with_reducible apply ap_rI); rfl) | ((with_reducible apply ap_wI); rfl) | ((with_reducible apply ap_iA); rfl; (try simp only [bz_lit, pk_mul, nI_add]); rfl; omega) | ((with_reducible apply ap_iW); rfl; (try simp only [bz_lit, pk_mul, nI_add]); rfl; omega))
  rw [ea]
  refine M_ride ha rfl hg hf ht (fun S1 t1 f1 r1 => ?_)
  repeat (first | ((with_reducible apply ap_rc); rfl) | ((with_reducible apply ap_nn)) | ((with_reducible apply ap_rR); rfl) | ((with_reducible apply M_ofOrder); rfl; (exact bz_lit _); omega; (first | omega | decide)) | ((with_reducible apply M_ofRider); rfl; (exact bz_lit _); omega; (first | omega | decide)) | ((with_reducible apply ap_rI); exact kd_ord _ (by omega) _ (by decide)) | ((with_reducible apply ap_wI); exact kd_ord _ (by omega) _ (by decide)) | ((with_reducible apply ap_rI); exact kd_rid _ (by omega) _ (by decide)) | ((with_reducible apply ap_wI); exact kd_rid _ (by omega) _ (by decide)) | ((with_reducible apply ap_rc); exact (kd_clO _ (by omega)).1) | ((with_reducible apply ap_rc); exact (kd_clR _ (by omega)).1) | ((with_reducible apply ap_rc); exact (kd_clR _ (by omega)).2.2.1) | ((with_reducible apply ap_rR); exact (kd_ridA _ (by omega)).1) | ((with_reducible apply ap_rN); rfl) | ((with_reducible apply M_in)) | ((with_reducible apply X_isWithin)) | ((with_reducible apply ap_rI); rfl) | ((with_reducible apply ap_wI); rfl) | ((with_reducible apply ap_iA); rfl; (try simp only [bz_lit, pk_mul, nI_add]); rfl; omega) | ((with_reducible apply ap_iW); rfl; (try simp only [bz_lit, pk_mul, nI_add]); rfl; omega))
  refine ⟨rfl, hP _ (fr_t (fr_m t1 (by intro c k h; first | omega | (dsimp only at h ⊢; omega) | (dsimp only at h; omega) | (dsimp only; omega))) (fr_u (S := S1) (by first | omega | (dsimp only; omega)))) (fd_u f1 (by omega) (by omega) (by omega)) ?_ ?_⟩
  · cases h : f_ri (S.1 187) x a st with
    | none =>
      rw [h] at r1
      have r2 : S1.1 186 8 = 0 := r1
      unfold tr
      dsimp only
      simp (disch := omega) only [bz_u_same, bz_u_ne]
      exact r2
    | some q =>
      obtain ⟨m, b⟩ := q
      rw [h] at r1
      obtain ⟨q1, q2, q3, q4⟩ : S1.1 186 8 = 1 ∧ S1.1 186 7 = nI m ∧ S1.1 186 6 = nI b ∧ b < 16 := r1
      refine ⟨?_, ?_, ?_, q4⟩
      · simp (disch := omega) only [bz_u_same, bz_u_ne]
        exact q1
      · simp (disch := omega) only [bz_u_same, bz_u_ne]
        exact q2
      · simp (disch := omega) only [bz_u_same, bz_u_ne]
        exact q3
  · intro m b e
    dsimp only
    rw [bz_u_same]
    rw [e] at r1
    exact r1.2.1
theorem M_begin {P : bz_H → Prop} {m a : Nat} {x y : Int32} (hx : x = nI a) (hy : y = nI m) (ha : a < 16) (hf : fd S) (hP : ∀ S', fr (fun c k => c = 190 ∨ (c = 186 ∧ 5 ≤ k ∧ k ≤ 8)) S S' → fd S' → tr S' (some (m, a)) → P (bz_hp E S')) : bz_cV G l (d + 1) kX12_begin [.inr (some 186), .inl x, .inl y] (bz_hp E S) 0 0 P := by
  refine m_X12_begin _ _ _ _ ?_
  unfold w_X12_begin_0
  repeat (first | ((with_reducible apply ap_rc); rfl) | ((with_reducible apply ap_nn)) | ((with_reducible apply ap_rR); rfl) | ((with_reducible apply M_ofOrder); rfl; (exact bz_lit _); omega; (first | omega | decide)) | ((with_reducible apply M_ofRider); rfl; (exact bz_lit _); omega; (first | omega | decide)) | ((with_reducible apply ap_rI); exact kd_ord _ (by omega) _ (by decide)) | ((with_reducible apply ap_wI); exact kd_ord _ (by omega) _ (by decide)) | ((with_reducible apply ap_rI); exact kd_rid _ (by omega) _ (by decide)) | ((with_reducible apply ap_wI); exact kd_rid _ (by omega) _ (by decide)) | ((with_reducible apply ap_rc); exact (kd_clO _ (by omega)).1) | ((with_reducible apply ap_rc); exact (kd_clR _ (by omega)).1) | ((with_reducible apply ap_rc); exact (kd_clR _ (by omega)).2.2.1) | ((with_reducible apply ap_rR); exact (kd_ridA _ (by omega)).1) | ((with_reducible apply ap_rN); rfl) | ((with_reducible apply M_in)) | ((with_reducible apply X_isWithin)) | ((with_reducible apply ap_rI); rfl) | ((with_reducible apply ap_wI); rfl) | ((with_reducible apply ap_iA); rfl; (try simp only [bz_lit, pk_mul, nI_add]); rfl; omega) | ((with_reducible apply ap_iW); rfl; (try simp only [bz_lit, pk_mul, nI_add]); rfl; omega))
  refine ⟨Or.inr rfl, ?_⟩
  repeat (first | ((with_reducible apply ap_rc); rfl) | ((with_reducible apply ap_nn)) | ((with_reducible apply ap_rR); rfl) | ((with_reducible apply M_ofOrder); rfl; (exact bz_lit _); omega; (first | omega | decide)) | ((with_reducible apply M_ofRider); rfl; (exact bz_lit _); omega; (first | omega | decide)) | ((with_reducible apply ap_rI); exact kd_ord _ (by omega) _ (by decide)) | ((with_reducible apply ap_wI); exact kd_ord _ (by omega) _ (by decide)) | ((with_reducible apply ap_rI); exact kd_rid _ (by omega) _ (by decide)) | ((with_reducible apply ap_wI); exact kd_rid _ (by omega) _ (by decide)) | ((with_reducible apply ap_rc); exact (kd_clO _ (by omega)).1) | ((with_reducible apply ap_rc); exact (kd_clR _ (by omega)).1) | ((with_reducible apply ap_rc); exact (kd_clR _ (by omega)).2.2.1) | ((with_reducible apply ap_rR); exact (kd_ridA _ (by omega)).1) | ((with_reducible apply ap_rN); rfl) | ((with_reducible apply M_in)) | ((with_reducible apply X_isWithin)) | ((with_reducible apply ap_rI); rfl) | ((with_reducible apply ap_wI); rfl) | ((with_reducible apply ap_iA); rfl; (try simp only [bz_lit, pk_mul, nI_add]); rfl; omega) | ((with_reducible apply ap_iW); rfl; (try simp only [bz_lit, pk_mul, nI_add]); rfl; omega))
  refine ⟨rfl, hP _ (fr_t (fr_u (S := S) (by first | omega | (dsimp only; omega))) (fr_t (fr_u (S := (bz_u S.1 186 6 x, S.2)) (by first | omega | (dsimp only; omega))) (fr_u (S := (bz_u (bz_u S.1 186 6 x) 186 7 y, S.2)) (by first | omega | (dsimp only; omega))))) (fd_u (fd_u (fd_u hf (by omega) (by omega) (by omega)) (by omega) (by omega) (by omega)) (by omega) (by omega) (by omega)) ⟨?_, ?_, ?_, ha⟩⟩
  · simp (disch := omega) only [bz_u_same, bz_u_ne]
  · simp (disch := omega) only [bz_u_same, bz_u_ne]
    exact hy
  · simp (disch := omega) only [bz_u_same, bz_u_ne]
    exact hx
theorem M_tripFrom {P : Int32 → bz_H → Prop} {x y z : Int32} {o m a : Nat} (hy : y = nI a) (hz : z = nI m) (ho : o < 24) (ha : a < 16) (hm : m ≤ 1440) (hs : S.1 187 = s) (hg : gd_b s) (hf : fd S) (hP : ∀ S', fr tX S S' → fd S' → (∀ p e, f_tp s x a m o = some (p, e) → S'.1 191 0 = nI p ∧ S'.1 192 0 = nI e ∧ S'.1 186 7 = nI e ∧ S'.1 186 6 = s (312 + 12 * o + 1)) → P (f_ok (f_tp s x a m o)) (bz_hp E S')) : bz_cI G l (d + 6) kX12_tripFrom [.inr (some 186), .inl x, .inl y, .inl z, .inl (nI o)] (bz_hp E S) 0 0 P := by
  refine m_X12_tripFrom _ _ _ _ _ _ ?_
  unfold w_X12_tripFrom_0
  subst hs
  obtain ⟨b, hb, eb⟩ : bz_lt (S.1 187 (312 + 12 * o + 1)) 16 := gb_o hg ho 1 (by decide)
  repeat (first | ((with_reducible apply ap_rc); rfl) | ((with_reducible apply ap_nn)) | ((with_reducible apply ap_rR); rfl) | ((with_reducible apply M_ofOrder); rfl; (exact bz_lit _); omega; (first | omega | decide)) | ((with_reducible apply M_ofRider); rfl; (exact bz_lit _); omega; (first | omega | decide)) | ((with_reducible apply ap_rI); exact kd_ord _ (by omega) _ (by decide)) | ((with_reducible apply ap_wI); exact kd_ord _ (by omega) _ (by decide)) | ((with_reducible apply ap_rI); exact kd_rid _ (by omega) _ (by decide)) | ((with_reducible apply ap_wI); exact kd_rid _ (by omega) _ (by decide)) | ((with_reducible apply ap_rc); exact (kd_clO _ (by omega)).1) | ((with_reducible apply ap_rc); exact (kd_clR _ (by omega)).1) | ((with_reducible apply ap_rc); exact (kd_clR _ (by omega)).2.2.1) | ((with_reducible apply ap_rR); exact (kd_ridA _ (by omega)).1) | ((with_reducible apply ap_rN); rfl) | ((with_reducible apply M_in)) | ((with_reducible apply X_isWithin)) | ((with_reducible apply ap_rI); rfl) | ((with_reducible apply ap_wI); rfl) | ((with_reducible apply ap_iA); rfl; (try simp only [bz_lit, pk_mul, nI_add]); rfl; omega) | ((with_reducible apply ap_iW); rfl; (try simp only [bz_lit, pk_mul, nI_add]); rfl; omega))
  refine M_begin hy hz ha hf (fun S1 r1 f1 t1 => ?_)
  have e1 : S1.1 187 = S.1 187 := fr_c r1 (fun k => by omega)
  repeat (first | ((with_reducible apply ap_rc); rfl) | ((with_reducible apply ap_nn)) | ((with_reducible apply ap_rR); rfl) | ((with_reducible apply M_ofOrder); rfl; (exact bz_lit _); omega; (first | omega | decide)) | ((with_reducible apply M_ofRider); rfl; (exact bz_lit _); omega; (first | omega | decide)) | ((with_reducible apply ap_rI); exact kd_ord _ (by omega) _ (by decide)) | ((with_reducible apply ap_wI); exact kd_ord _ (by omega) _ (by decide)) | ((with_reducible apply ap_rI); exact kd_rid _ (by omega) _ (by decide)) | ((with_reducible apply ap_wI); exact kd_rid _ (by omega) _ (by decide)) | ((with_reducible apply ap_rc); exact (kd_clO _ (by omega)).1) | ((with_reducible apply ap_rc); exact (kd_clR _ (by omega)).1) | ((with_reducible apply ap_rc); exact (kd_clR _ (by omega)).2.2.1) | ((with_reducible apply ap_rR); exact (kd_ridA _ (by omega)).1) | ((with_reducible apply ap_rN); rfl) | ((with_reducible apply M_in)) | ((with_reducible apply X_isWithin)) | ((with_reducible apply ap_rI); rfl) | ((with_reducible apply ap_wI); rfl) | ((with_reducible apply ap_iA); rfl; (try simp only [bz_lit, pk_mul, nI_add]); rfl; omega) | ((with_reducible apply ap_iW); rfl; (try simp only [bz_lit, pk_mul, nI_add]); rfl; omega))
  refine M_pickUp (K := 1440) ho (by decide) rfl e1 hg f1 t1 (fun m' a' e => by cases e; exact ⟨hm, ha⟩) (by omega) (fun S2 r2 f2 t2 v2 => ?_)
  have e2 : S2.1 187 = S.1 187 := (fr_c r2 (fun k => by omega)).trans e1
  repeat (first | ((with_reducible apply ap_rc); rfl) | ((with_reducible apply ap_nn)) | ((with_reducible apply ap_rR); rfl) | ((with_reducible apply M_ofOrder); rfl; (exact bz_lit _); omega; (first | omega | decide)) | ((with_reducible apply M_ofRider); rfl; (exact bz_lit _); omega; (first | omega | decide)) | ((with_reducible apply ap_rI); exact kd_ord _ (by omega) _ (by decide)) | ((with_reducible apply ap_wI); exact kd_ord _ (by omega) _ (by decide)) | ((with_reducible apply ap_rI); exact kd_rid _ (by omega) _ (by decide)) | ((with_reducible apply ap_wI); exact kd_rid _ (by omega) _ (by decide)) | ((with_reducible apply ap_rc); exact (kd_clO _ (by omega)).1) | ((with_reducible apply ap_rc); exact (kd_clR _ (by omega)).1) | ((with_reducible apply ap_rc); exact (kd_clR _ (by omega)).2.2.1) | ((with_reducible apply ap_rR); exact (kd_ridA _ (by omega)).1) | ((with_reducible apply ap_rN); rfl) | ((with_reducible apply M_in)) | ((with_reducible apply X_isWithin)) | ((with_reducible apply ap_rI); rfl) | ((with_reducible apply ap_wI); rfl) | ((with_reducible apply ap_iA); rfl; (try simp only [bz_lit, pk_mul, nI_add]); rfl; omega) | ((with_reducible apply ap_iW); rfl; (try simp only [bz_lit, pk_mul, nI_add]); rfl; omega))
  refine M_bring ho (by decide) rfl e2 hg f2 t2 (fun S3 r3 f3 t3 v3 => ?_)
  have R : fr tX S S3 := fr_t (fr_m r1 (by intro c k h; first | omega | (dsimp only at h ⊢; omega) | (dsimp only at h; omega) | (dsimp only; omega))) (fr_t (fr_m r2 (by intro c k h; first | omega | (dsimp only at h ⊢; omega) | (dsimp only at h; omega) | (dsimp only; omega))) (fr_m r3 (by intro c k h; first | omega | (dsimp only at h ⊢; omega) | (dsimp only at h; omega) | (dsimp only; omega))))
  have sp := sb_pk hg (x := x) ho (st := some (m, a)) (K := 1440) (fun m' a' e => by cases e; exact ⟨hm, ha⟩)
  have hP' := hP S3 R f3
  unfold f_tp at hP'
  repeat (first | ((with_reducible apply ap_rc); rfl) | ((with_reducible apply ap_nn)) | ((with_reducible apply ap_rR); rfl) | ((with_reducible apply M_ofOrder); rfl; (exact bz_lit _); omega; (first | omega | decide)) | ((with_reducible apply M_ofRider); rfl; (exact bz_lit _); omega; (first | omega | decide)) | ((with_reducible apply ap_rI); exact kd_ord _ (by omega) _ (by decide)) | ((with_reducible apply ap_wI); exact kd_ord _ (by omega) _ (by decide)) | ((with_reducible apply ap_rI); exact kd_rid _ (by omega) _ (by decide)) | ((with_reducible apply ap_wI); exact kd_rid _ (by omega) _ (by decide)) | ((with_reducible apply ap_rc); exact (kd_clO _ (by omega)).1) | ((with_reducible apply ap_rc); exact (kd_clR _ (by omega)).1) | ((with_reducible apply ap_rc); exact (kd_clR _ (by omega)).2.2.1) | ((with_reducible apply ap_rR); exact (kd_ridA _ (by omega)).1) | ((with_reducible apply ap_rN); rfl) | ((with_reducible apply M_in)) | ((with_reducible apply X_isWithin)) | ((with_reducible apply ap_rI); rfl) | ((with_reducible apply ap_wI); rfl) | ((with_reducible apply ap_iA); rfl; (try simp only [bz_lit, pk_mul, nI_add]); rfl; omega) | ((with_reducible apply ap_iW); rfl; (try simp only [bz_lit, pk_mul, nI_add]); rfl; omega))
  cases h : f_pk (S.1 187) x o (some (m, a)) with
  | none =>
    rw [h] at t3 hP'
    have t4 : S3.1 186 8 = 0 := t3
    rw [t4]
    exact ⟨fun _ => ⟨_, rfl, hP' (fun _ _ e => by cases e)⟩, fun c => absurd rfl c⟩
  | some q =>
    rw [h] at t3 hP' v3
    cases h2 : f_dr (S.1 187) x o (some q) with
    | none =>
      rw [h2] at t3
      dsimp only at hP'
      rw [h2] at hP'
      have t4 : S3.1 186 8 = 0 := t3
      rw [t4]
      exact ⟨fun _ => ⟨_, rfl, hP' (fun _ _ e => by cases e)⟩, fun c => absurd rfl c⟩
    | some q' =>
      obtain ⟨p, a1⟩ := q
      obtain ⟨e, b'⟩ := q'
      have sd := (sb_dr hg (x := x) ho (st := some (p, a1)) (K := 1440 + 2400) (fun m' a' q => by cases q; exact sp p a1 h) e b' h2).1
      rw [h2] at t3 v3
      obtain ⟨q1, q2, q3, q4⟩ : S3.1 186 8 = 1 ∧ S3.1 186 7 = nI e ∧ S3.1 186 6 = nI b' ∧ b' < 16 := t3
      have hb' : b' = b := by
        unfold f_dr f_ri at h2
        rw [eb, nI_clamp (by omega)] at h2
        have h3 : (f_wy (S.1 187) 16 a1 b).map (fun w => (p + f_leg x w, b)) = some (e, b') := h2
        cases hw : f_wy (S.1 187) 16 a1 b with
        | none => rw [hw] at h3; cases h3
        | some w => rw [hw] at h3; exact (congrArg Prod.snd (Option.some.inj h3)).symm
      dsimp only at hP'
      rw [h2] at hP'
      dsimp only at hP'
      rw [q1]
      refine ⟨fun c => absurd c (by decide), fun _ => ?_⟩
      repeat (first | ((with_reducible apply ap_rc); rfl) | ((with_reducible apply ap_nn)) | ((with_reducible apply ap_rR); rfl) | ((with_reducible apply M_ofOrder); rfl; (exact bz_lit _); omega; (first | omega | decide)) | ((with_reducible apply M_ofRider); rfl; (exact bz_lit _); omega; (first | omega | decide)) | ((with_reducible apply ap_rI); exact kd_ord _ (by omega) _ (by decide)) | ((with_reducible apply ap_wI); exact kd_ord _ (by omega) _ (by decide)) | ((with_reducible apply ap_rI); exact kd_rid _ (by omega) _ (by decide)) | ((with_reducible apply ap_wI); exact kd_rid _ (by omega) _ (by decide)) | ((with_reducible apply ap_rc); exact (kd_clO _ (by omega)).1) | ((with_reducible apply ap_rc); exact (kd_clR _ (by omega)).1) | ((with_reducible apply ap_rc); exact (kd_clR _ (by omega)).2.2.1) | ((with_reducible apply ap_rR); exact (kd_ridA _ (by omega)).1) | ((with_reducible apply ap_rN); rfl) | ((with_reducible apply M_in)) | ((with_reducible apply X_isWithin)) | ((with_reducible apply ap_rI); rfl) | ((with_reducible apply ap_wI); rfl) | ((with_reducible apply ap_iA); rfl; (try simp only [bz_lit, pk_mul, nI_add]); rfl; omega) | ((with_reducible apply ap_iW); rfl; (try simp only [bz_lit, pk_mul, nI_add]); rfl; omega))
      rw [q2]
      by_cases he : e ≤ 1439
      · rw [if_pos he] at hP'
        rw [if_neg (show ¬ (1439 : Int32) < nI e from nI_nlt (b := e) (a := 1439) he (by decide))]
        refine ⟨_, rfl, hP' (fun p' e' q => ?_)⟩
        have u1 : p = p' := congrArg Prod.fst (Option.some.inj q)
        have u2 : e = e' := congrArg Prod.snd (Option.some.inj q)
        subst u1; subst u2
        refine ⟨?_, v3 e b' rfl, q2, ?_⟩
        · rw [r3.2 191 0 (by omega)]
          exact v2 p a1 h
        · rw [q3, hb', eb]
      · rw [if_neg he] at hP'
        rw [if_pos (show (1439 : Int32) < nI e from nI_lt (a := 1439) (by omega) (by omega))]
        exact ⟨_, rfl, hP' (fun _ _ q => by cases q)⟩
def f_bg (s : Nat → Int32) (r : Nat) : Nat := if (s (600 + 8 * r + 2)).toNatClampNeg ≤ (s 0).toNatClampNeg then (s 0).toNatClampNeg else (s (600 + 8 * r + 2)).toNatClampNeg
theorem f_bg_b {s : Nat → Int32} (hg : gd_b s) {r : Nat} (hr : r < 12) : f_bg s r ≤ 1440 := by
  obtain ⟨p, hp, ep⟩ : bz_lt (s (600 + 8 * r + 2)) 1440 := gb_r hg hr 2 (by decide)
  obtain ⟨n, hn, en⟩ : bz_lt (s 0) 1440 := hg 0 (by decide) (by decide) (by decide)
  unfold f_bg
  rw [ep, en, nI_clamp (by omega), nI_clamp (by omega)]
  split <;> omega
theorem M_beginsAt {P : Int32 → bz_H → Prop} {r : Nat} (hr : r < 12) (hs : S.1 187 = s) (hg : gd_b s) (hP : P (nI (f_bg s r)) (bz_hp E S)) : bz_cI G l (d + 2) kX12_beginsAt [.inr (some 186), .inl (nI r)] (bz_hp E S) 0 0 P := by
  refine m_X12_beginsAt _ _ _ ?_
  unfold w_X12_beginsAt_0
  subst hs
  obtain ⟨p, hp, ep⟩ : bz_lt (S.1 187 (600 + 8 * r + 2)) 1440 := gb_r hg hr 2 (by decide)
  obtain ⟨n, hn, en⟩ : bz_lt (S.1 187 0) 1440 := hg 0 (by decide) (by decide) (by decide)
  unfold f_bg at hP
  rw [ep, en, nI_clamp (by omega), nI_clamp (by omega)] at hP
  repeat (first | ((with_reducible apply ap_rc); rfl) | ((with_reducible apply ap_nn)) | ((with_reducible apply ap_rR); rfl) | ((with_reducible apply M_ofOrder); rfl; (exact bz_lit _); omega; (first | omega | decide)) | ((with_reducible apply M_ofRider); rfl; (exact bz_lit _); omega; (first | omega | decide)) | ((with_reducible apply ap_rI); exact kd_ord _ (by omega) _ (by decide)) | ((with_reducible apply ap_wI); exact kd_ord _ (by omega) _ (by decide)) | ((with_reducible apply ap_rI); exact kd_rid _ (by omega) _ (by decide)) | ((with_reducible apply ap_wI); exact kd_rid _ (by omega) _ (by decide)) | ((with_reducible apply ap_rc); exact (kd_clO _ (by omega)).1) | ((with_reducible apply ap_rc); exact (kd_clR _ (by omega)).1) | ((with_reducible apply ap_rc); exact (kd_clR _ (by omega)).2.2.1) | ((with_reducible apply ap_rR); exact (kd_ridA _ (by omega)).1) | ((with_reducible apply ap_rN); rfl) | ((with_reducible apply M_in)) | ((with_reducible apply X_isWithin)) | ((with_reducible apply ap_rI); rfl) | ((with_reducible apply ap_wI); rfl) | ((with_reducible apply ap_iA); rfl; (try simp only [bz_lit, pk_mul, nI_add]); rfl; omega) | ((with_reducible apply ap_iW); rfl; (try simp only [bz_lit, pk_mul, nI_add]); rfl; omega))
  rw [ep, en]
  refine ⟨fun c => ?_, fun c => ?_⟩
  · rw [if_pos ((nI_leI (by omega) (by omega)).mp c)] at hP
    repeat (first | ((with_reducible apply ap_rc); rfl) | ((with_reducible apply ap_nn)) | ((with_reducible apply ap_rR); rfl) | ((with_reducible apply M_ofOrder); rfl; (exact bz_lit _); omega; (first | omega | decide)) | ((with_reducible apply M_ofRider); rfl; (exact bz_lit _); omega; (first | omega | decide)) | ((with_reducible apply ap_rI); exact kd_ord _ (by omega) _ (by decide)) | ((with_reducible apply ap_wI); exact kd_ord _ (by omega) _ (by decide)) | ((with_reducible apply ap_rI); exact kd_rid _ (by omega) _ (by decide)) | ((with_reducible apply ap_wI); exact kd_rid _ (by omega) _ (by decide)) | ((with_reducible apply ap_rc); exact (kd_clO _ (by omega)).1) | ((with_reducible apply ap_rc); exact (kd_clR _ (by omega)).1) | ((with_reducible apply ap_rc); exact (kd_clR _ (by omega)).2.2.1) | ((with_reducible apply ap_rR); exact (kd_ridA _ (by omega)).1) | ((with_reducible apply ap_rN); rfl) | ((with_reducible apply M_in)) | ((with_reducible apply X_isWithin)) | ((with_reducible apply ap_rI); rfl) | ((with_reducible apply ap_wI); rfl) | ((with_reducible apply ap_iA); rfl; (try simp only [bz_lit, pk_mul, nI_add]); rfl; omega) | ((with_reducible apply ap_iW); rfl; (try simp only [bz_lit, pk_mul, nI_add]); rfl; omega))
    rw [en]
    exact ⟨_, rfl, hP⟩
  · rw [if_neg (fun q => c ((nI_leI (by omega) (by omega)).mpr q))] at hP
    repeat (first | ((with_reducible apply ap_rc); rfl) | ((with_reducible apply ap_nn)) | ((with_reducible apply ap_rR); rfl) | ((with_reducible apply M_ofOrder); rfl; (exact bz_lit _); omega; (first | omega | decide)) | ((with_reducible apply M_ofRider); rfl; (exact bz_lit _); omega; (first | omega | decide)) | ((with_reducible apply ap_rI); exact kd_ord _ (by omega) _ (by decide)) | ((with_reducible apply ap_wI); exact kd_ord _ (by omega) _ (by decide)) | ((with_reducible apply ap_rI); exact kd_rid _ (by omega) _ (by decide)) | ((with_reducible apply ap_wI); exact kd_rid _ (by omega) _ (by decide)) | ((with_reducible apply ap_rc); exact (kd_clO _ (by omega)).1) | ((with_reducible apply ap_rc); exact (kd_clR _ (by omega)).1) | ((with_reducible apply ap_rc); exact (kd_clR _ (by omega)).2.2.1) | ((with_reducible apply ap_rR); exact (kd_ridA _ (by omega)).1) | ((with_reducible apply ap_rN); rfl) | ((with_reducible apply M_in)) | ((with_reducible apply X_isWithin)) | ((with_reducible apply ap_rI); rfl) | ((with_reducible apply ap_wI); rfl) | ((with_reducible apply ap_iA); rfl; (try simp only [bz_lit, pk_mul, nI_add]); rfl; omega) | ((with_reducible apply ap_iW); rfl; (try simp only [bz_lit, pk_mul, nI_add]); rfl; omega))
    rw [ep]
    exact ⟨_, rfl, hP⟩
/-- a trip of a rider as it is -/
def f_tn (s : Nat → Int32) (r o : Nat) : Option (Nat × Nat) := f_tp s (s (600 + 8 * r + 0)) (s (600 + 8 * r + 1)).toNatClampNeg (f_bg s r) o
theorem f_ok01 {α : Type} (q : Option α) : f_ok q = 0 ∨ f_ok q = 1 := by cases q <;> simp [f_ok]
theorem M_tripNow {P : Int32 → bz_H → Prop} {r o : Nat} (hr : r < 12) (ho : o < 24) (hs : S.1 187 = s) (hg : gd_b s) (hf : fd S) (hP : ∀ S', fr tX S S' → fd S' → (∀ p e, f_tn s r o = some (p, e) → S'.1 191 0 = nI p ∧ S'.1 192 0 = nI e ∧ S'.1 186 7 = nI e ∧ S'.1 186 6 = s (312 + 12 * o + 1)) → P (f_ok (f_tn s r o)) (bz_hp E S')) : bz_cI G l (d + 7) kX12_tripNow [.inr (some 186), .inl (nI r), .inl (nI o)] (bz_hp E S) 0 0 P := by
  refine m_X12_tripNow _ _ _ _ ?_
  unfold w_X12_tripNow_0
  subst hs
  obtain ⟨a, ha, ea⟩ : bz_lt (S.1 187 (600 + 8 * r + 1)) 16 := gb_r hg hr 1 (by decide)
  unfold f_tn at hP
  rw [ea, nI_clamp (by omega)] at hP
  repeat (first | ((with_reducible apply ap_rc); rfl) | ((with_reducible apply ap_nn)) | ((with_reducible apply ap_rR); rfl) | ((with_reducible apply M_ofOrder); rfl; (exact bz_lit _); omega; (first | omega | decide)) | ((with_reducible apply M_ofRider); rfl; (exact bz_lit _); omega; (first | omega | decide)) | ((with_reducible apply ap_rI); exact kd_ord _ (by omega) _ (by decide)) | ((with_reducible apply ap_wI); exact kd_ord _ (by omega) _ (by decide)) | ((with_reducible apply ap_rI); exact kd_rid _ (by omega) _ (by decide)) | ((with_reducible apply ap_wI); exact kd_rid _ (by omega) _ (by decide)) | ((with_reducible apply ap_rc); exact (kd_clO _ (by omega)).1) | ((with_reducible apply ap_rc); exact (kd_clR _ (by omega)).1) | ((with_reducible apply ap_rc); exact (kd_clR _ (by omega)).2.2.1) | ((with_reducible apply ap_rR); exact (kd_ridA _ (by omega)).1) | ((with_reducible apply ap_rN); rfl) | ((with_reducible apply M_in)) | ((with_reducible apply X_isWithin)) | ((with_reducible apply ap_rI); rfl) | ((with_reducible apply ap_wI); rfl) | ((with_reducible apply ap_iA); rfl; (try simp only [bz_lit, pk_mul, nI_add]); rfl; omega) | ((with_reducible apply ap_iW); rfl; (try simp only [bz_lit, pk_mul, nI_add]); rfl; omega))
  refine M_beginsAt hr rfl hg ?_
  repeat (first | ((with_reducible apply ap_rc); rfl) | ((with_reducible apply ap_nn)) | ((with_reducible apply ap_rR); rfl) | ((with_reducible apply M_ofOrder); rfl; (exact bz_lit _); omega; (first | omega | decide)) | ((with_reducible apply M_ofRider); rfl; (exact bz_lit _); omega; (first | omega | decide)) | ((with_reducible apply ap_rI); exact kd_ord _ (by omega) _ (by decide)) | ((with_reducible apply ap_wI); exact kd_ord _ (by omega) _ (by decide)) | ((with_reducible apply ap_rI); exact kd_rid _ (by omega) _ (by decide)) | ((with_reducible apply ap_wI); exact kd_rid _ (by omega) _ (by decide)) | ((with_reducible apply ap_rc); exact (kd_clO _ (by omega)).1) | ((with_reducible apply ap_rc); exact (kd_clR _ (by omega)).1) | ((with_reducible apply ap_rc); exact (kd_clR _ (by omega)).2.2.1) | ((with_reducible apply ap_rR); exact (kd_ridA _ (by omega)).1) | ((with_reducible apply ap_rN); rfl) | ((with_reducible apply M_in)) | ((with_reducible apply X_isWithin)) | ((with_reducible apply ap_rI); rfl) | ((with_reducible apply ap_wI); rfl) | ((with_reducible apply ap_iA); rfl; (try simp only [bz_lit, pk_mul, nI_add]); rfl; omega) | ((with_reducible apply ap_iW); rfl; (try simp only [bz_lit, pk_mul, nI_add]); rfl; omega))
  rw [ea]
  exact M_tripFrom rfl rfl ho ha (f_bg_b hg hr) rfl hg hf (fun S' h1 h2 h3 => ⟨f_ok01 _, _, rfl, hP S' h1 h2 h3⟩)
end MTR
