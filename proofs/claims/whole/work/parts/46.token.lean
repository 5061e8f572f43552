/-! one token, on both sides -/
def tbX (S : bz_S) (b : Nat → Nat) (N : Nat) : Prop := S.1 162 1 = nI N ∧ ∀ j, j < N → S.1 163 j = nI (b j)
def tbM (S : bz_S) (b : Nat → Nat) (N : Nat) : Prop := S.1 186 14 = nI N ∧ ∀ j, j < N → S.1 193 j = nI (b j)
def px (S : bz_S) (b : Nat → Nat) (N p : Nat) : Prop := S.1 162 4 = nI (if (t_tk b N p).1 = 4 then (t_tk b N p).2 else (t_tk b N p).1) ∧ (((t_tk b N p).1 = 2 ∨ (t_tk b N p).1 = 3) → S.1 162 7 = nI (t_tk b N p).2) ∧ S.1 162 5 = nI (t_pl b N p) ∧ S.1 162 6 = nI (t_nx b N p)
def t_mt (k : Nat) : Nat := ([0, 4, 2, 1, 3] : List Nat).getD k 0
def pm (S : bz_S) (b : Nat → Nat) (N p : Nat) : Prop := S.1 186 15 = nI (t_mt (t_tk b N p).1) ∧ (((t_tk b N p).1 = 2 ∨ (t_tk b N p).1 = 4) → S.1 186 18 = nI (t_tk b N p).2) ∧ ((t_tk b N p).1 = 3 → S.1 186 18 = nI (f_let ((t_tk b N p).2 - 10000))) ∧ S.1 186 16 = nI (t_pl b N p) ∧ S.1 186 17 = nI (t_nx b N p)
theorem t_pl_s {b : Nat → Nat} {N p : Nat} (h : p < N) (h2 : b p = 32) : t_pl b N p = t_pl b N (p + 1) := by
  unfold t_pl
  rw [show N - p = N - (p + 1) + 1 by omega, t_sk, if_pos h, if_pos h2]
theorem t_pl_e {b : Nat → Nat} {N p : Nat} (h : N ≤ p) : t_pl b N p = p := by
  unfold t_pl
  rw [show N - p = 0 by omega]
  rfl
theorem t_pl_n {b : Nat → Nat} {N p : Nat} (h : p < N) (h2 : ¬ b p = 32) : t_pl b N p = p := by
  unfold t_pl
  rw [show N - p = N - (p + 1) + 1 by omega, t_sk, if_pos h, if_neg h2]
theorem px_s {S : bz_S} {b : Nat → Nat} {N p : Nat} (h : p < N) (h2 : b p = 32) (hx : px S b N (p + 1)) : px S b N p := by
  unfold px t_tk t_nx at *
  rw [t_pl_s h h2]
  exact hx
theorem pm_s {S : bz_S} {b : Nat → Nat} {N p : Nat} (h : p < N) (h2 : b p = 32) (hx : pm S b N (p + 1)) : pm S b N p := by
  unfold pm t_tk t_nx at *
  rw [t_pl_s h h2]
  exact hx
theorem t_ni_nm (c : Nat) : bz_nm c = if t_ni c < 7 then nI (t_ni c) else -1 := by
  unfold bz_nm t_ni
  by_cases h0 : c = 100
  · rw [if_pos h0, if_pos h0]; rfl
  rw [if_neg h0, if_neg h0]
  by_cases h1 : c = 119
  · rw [if_pos h1, if_pos h1]; rfl
  rw [if_neg h1, if_neg h1]
  by_cases h2 : c = 104
  · rw [if_pos h2, if_pos h2]; rfl
  rw [if_neg h2, if_neg h2]
  by_cases h3 : c = 114
  · rw [if_pos h3, if_pos h3]; rfl
  rw [if_neg h3, if_neg h3]
  by_cases h4 : c = 108
  · rw [if_pos h4, if_pos h4]; rfl
  rw [if_neg h4, if_neg h4]
  by_cases h5 : c = 99
  · rw [if_pos h5, if_pos h5]; rfl
  rw [if_neg h5, if_neg h5]
  by_cases h6 : c = 110
  · rw [if_pos h6, if_pos h6]; rfl
  rw [if_neg h6, if_neg h6, if_neg (by omega)]
def sgI (x : Int32) : Int32 := if x = 43 then 1 else if x = 45 then 1 else if x = 42 then 1 else if x = 47 then 1 else if x = 40 then 1 else if x = 41 then 1 else if x = 60 then 1 else if x = 61 then 1 else 0
def nmI (x : Int32) : Int32 := if x = 100 then 1 else if x = 119 then 1 else if x = 104 then 1 else if x = 114 then 1 else if x = 108 then 1 else if x = 99 then 1 else if x = 110 then 1 else 0
theorem sgI_e : ∀ c, c < 256 → (sgI (nI c) = if c = 43 ∨ c = 45 ∨ c = 42 ∨ c = 47 ∨ c = 40 ∨ c = 41 ∨ c = 60 ∨ c = 61 then 1 else 0) := by decide +kernel
theorem nmI_e : ∀ c, c < 256 → (nmI (nI c) = if t_ni c < 7 then 1 else 0) ∧ (t_ni c < 7 → f_let (t_ni c) = c) := by decide +kernel
section TOK
variable {G : bz_G} {l : Launch} {d : Nat} {E : Nat × (Nat → Int32)} {S : bz_S} {b : Nat → Nat} {N : Nat}
theorem tbX_f {X : Nat → Nat → Prop} {S S' : bz_S} (h : tbX S b N) (f : fr X S S') (hX : ∀ c k, X c k → ¬ (c = 163 ∨ (c = 162 ∧ k = 1))) : tbX S' b N := by
  refine ⟨(f.2 _ _ (fun x => hX _ _ x (Or.inr ⟨rfl, rfl⟩))).trans h.1, fun j hj => (f.2 _ _ (fun x => hX _ _ x (Or.inl rfl))).trans (h.2 j hj)⟩
theorem tbM_f {X : Nat → Nat → Prop} {S S' : bz_S} (h : tbM S b N) (f : fr X S S') (hX : ∀ c k, X c k → ¬ (c = 193 ∨ (c = 186 ∧ k = 14))) : tbM S' b N := by
  refine ⟨(f.2 _ _ (fun x => hX _ _ x (Or.inr ⟨rfl, rfl⟩))).trans h.1, fun j hj => (f.2 _ _ (fun x => hX _ _ x (Or.inl rfl))).trans (h.2 j hj)⟩
theorem X_isSign {P : Int32 → bz_H → Prop} {h : bz_H} {x : Int32} (hP : P (sgI x) h) : bz_cI G l (d + 1) kX6_isSign [.inl x] h 0 0 P := by
  refine m_X6_isSign _ _ ?_
  unfold w_X6_isSign_0
  unfold sgI at hP
  refine ⟨fun c => ?_, fun c => ?_⟩
  · rw [if_pos c] at hP; exact ⟨_, rfl, hP⟩
  · rw [if_neg c] at hP; exact ⟨_, rfl, hP⟩
theorem M_isSignByte {P : Int32 → bz_H → Prop} {h : bz_H} {x : Int32} (hP : P (sgI x) h) : bz_cI G l (d + 1) kX12_isSignByte [.inl x] h 0 0 P := by
  refine m_X12_isSignByte _ _ ?_
  unfold w_X12_isSignByte_0
  unfold sgI at hP
  refine ⟨fun c => ?_, fun c => ?_⟩
  · rw [if_pos c] at hP; exact ⟨_, rfl, hP⟩
  · rw [if_neg c] at hP; exact ⟨_, rfl, hP⟩
theorem M_isName {P : Int32 → bz_H → Prop} {h : bz_H} {x : Int32} (hP : P (nmI x) h) : bz_cI G l (d + 1) kX12_isName [.inl x] h 0 0 P := m_X12_isName _ _ ⟨_, rfl, hP⟩
theorem X_takeNumber {P : bz_H → Prop} {q : Nat} (hN : N ≤ 80) (hb : ∀ j, b j < 256) (ht : tbX S b N) (hq : q ≤ N) (h6 : S.1 162 6 = nI q) (hP : ∀ S', fr (fun c k => c = 162 ∧ (k = 4 ∨ k = 6 ∨ k = 7)) S S' → S'.1 162 4 = nI (if (t_nm b N (N - q) q 0).1 ≤ 9999 then 2 else 1) → S'.1 162 7 = nI (t_nm b N (N - q) q 0).1 → S'.1 162 6 = nI (t_nm b N (N - q) q 0).2 → P (bz_hp E S')) : bz_cV G l (d + 1) kX6_takeNumber [.inr (some 162)] (bz_hp E S) 0 0 P := by
  refine m_X6_takeNumber _ _ (fun κ bc bs hl => ?_)
  unfold w_X6_takeNumber_0
  have main : ∀ (f p v : Nat) (S1 : bz_S), N - p = f → p ≤ N → v ≤ 99999 → t_nm b N (N - p) p v = t_nm b N (N - q) q 0 → fr (fun c k => c = 162 ∧ (k = 4 ∨ k = 6 ∨ k = 7)) S S1 → S1.1 162 6 = nI p → S1.1 162 7 = nI v → bz_J G κ kX6_takeNumber (d + 1) (fun v h' => v = none ∧ P h') bc bs 5 [some (.inr (some 162))] [] (bz_hp E S1) := by
    intro f
    induction f with
    | zero =>
      intro p v S1 hf hp hv hnm r1 k6 k7
      have ht1 := tbX_f ht r1 (by intro c k h; first | omega | (dsimp only at h ⊢; omega) | (dsimp only at h; omega) | (dsimp only; omega))
      have hpN : p = N := by omega
      refine g_X6_takeNumber_5 hl _ _ ?_
      unfold w_X6_takeNumber_5
      repeat (first | ((with_reducible apply ap_rc); rfl) | ((with_reducible apply ap_nn)) | ((with_reducible apply ap_rR); rfl) | ((with_reducible apply M_ofOrder); rfl; (exact bz_lit _); omega; (first | omega | decide)) | ((with_reducible apply M_ofRider); rfl; (exact bz_lit _); omega; (first | omega | decide)) | ((with_reducible apply ap_rI); exact kd_ord _ (by omega) _ (by decide)) | ((with_reducible apply ap_wI); exact kd_ord _ (by omega) _ (by decide)) | ((with_reducible apply ap_rI); exact kd_rid _ (by omega) _ (by decide)) | ((with_reducible apply ap_wI); exact kd_rid _ (by omega) _ (by decide)) | ((with_reducible apply ap_rc); exact (kd_clO _ (by omega)).1) | ((with_reducible apply ap_rc); exact (kd_clR _ (by omega)).1) | ((with_reducible apply ap_rc); exact (kd_clR _ (by omega)).2.2.1) | ((with_reducible apply ap_rR); exact (kd_ridA _ (by omega)).1) | ((with_reducible apply ap_rN); rfl) | ((with_reducible apply M_in)) | ((with_reducible apply X_isWithin)) | ((with_reducible apply ap_rI); rfl) | ((with_reducible apply ap_wI); rfl) | ((with_reducible apply ap_iA); rfl; (try simp only [bz_lit, pk_mul, nI_add]); rfl; omega) | ((with_reducible apply ap_iW); rfl; (try simp only [bz_lit, pk_mul, nI_add]); rfl; omega))
      rw [k6, ht1.1]
      refine ⟨fun _ => ?_, fun c => absurd (nI_le (by omega) (by omega)) c⟩
      repeat (first | ((with_reducible apply ap_rc); rfl) | ((with_reducible apply ap_nn)) | ((with_reducible apply ap_rR); rfl) | ((with_reducible apply M_ofOrder); rfl; (exact bz_lit _); omega; (first | omega | decide)) | ((with_reducible apply M_ofRider); rfl; (exact bz_lit _); omega; (first | omega | decide)) | ((with_reducible apply ap_rI); exact kd_ord _ (by omega) _ (by decide)) | ((with_reducible apply ap_wI); exact kd_ord _ (by omega) _ (by decide)) | ((with_reducible apply ap_rI); exact kd_rid _ (by omega) _ (by decide)) | ((with_reducible apply ap_wI); exact kd_rid _ (by omega) _ (by decide)) | ((with_reducible apply ap_rc); exact (kd_clO _ (by omega)).1) | ((with_reducible apply ap_rc); exact (kd_clR _ (by omega)).1) | ((with_reducible apply ap_rc); exact (kd_clR _ (by omega)).2.2.1) | ((with_reducible apply ap_rR); exact (kd_ridA _ (by omega)).1) | ((with_reducible apply ap_rN); rfl) | ((with_reducible apply M_in)) | ((with_reducible apply X_isWithin)) | ((with_reducible apply ap_rI); rfl) | ((with_reducible apply ap_wI); rfl) | ((with_reducible apply ap_iA); rfl; (try simp only [bz_lit, pk_mul, nI_add]); rfl; omega) | ((with_reducible apply ap_iW); rfl; (try simp only [bz_lit, pk_mul, nI_add]); rfl; omega))
      rw [k7]
      rw [show N - p = 0 by omega] at hnm
      have hnm' : (v, p) = t_nm b N (N - q) q 0 := hnm
      rw [← hnm'] at hP
      have hif : (if nI v ≤ 9999 then (2 : Int32) else 1) = nI (if v ≤ 9999 then 2 else 1) := by
        by_cases z : v ≤ 9999
        · rw [if_pos z, if_pos (show nI v ≤ (9999 : Int32) from nI_le (b := 9999) z (by decide))]; rfl
        · rw [if_neg z, if_neg (show ¬ nI v ≤ (9999 : Int32) from nI_ge (a := 9999) (by omega) (by omega))]; rfl
      refine ⟨(by first | rfl | trivial), hP _ (fr_t r1 (fr_u (S := S1) (by first | omega | (dsimp only; omega)))) ?_ ?_ ?_⟩
      · dsimp only
        rw [bz_u_same, hif]
      · simp (disch := omega) only [bz_u_same, bz_u_ne]
        exact k7
      · simp (disch := omega) only [bz_u_same, bz_u_ne]
        exact k6
    | succ f ih =>
      intro p v S1 hf hp hv hnm r1 k6 k7
      have ht1 := tbX_f ht r1 (by intro c k h; first | omega | (dsimp only at h ⊢; omega) | (dsimp only at h; omega) | (dsimp only; omega))
      have hpN : p < N := by omega
      have hbp := hb p
      have fin : ¬ (48 ≤ b p ∧ b p ≤ 57) → bz_rI (bz_hp E S1) 162 6 7 (fun x_4 => bz_wI (bz_hp E S1) 162 6 4 (if x_4 ≤ 9999 then 2 else 1) (fun h_5 => (none : Option bz_V) = none ∧ P h_5)) := by
        intro hnd
        rw [show N - p = N - (p + 1) + 1 by omega, t_nm, if_neg (by omega)] at hnm
        rw [← hnm] at hP
        have hif : (if nI v ≤ 9999 then (2 : Int32) else 1) = nI (if v ≤ 9999 then 2 else 1) := by
          by_cases z : v ≤ 9999
          · rw [if_pos z, if_pos (show nI v ≤ (9999 : Int32) from nI_le (b := 9999) z (by decide))]; rfl
          · rw [if_neg z, if_neg (show ¬ nI v ≤ (9999 : Int32) from nI_ge (a := 9999) (by omega) (by omega))]; rfl
        repeat (first | ((with_reducible apply ap_rc); rfl) | ((with_reducible apply ap_nn)) | ((with_reducible apply ap_rR); rfl) | ((with_reducible apply M_ofOrder); rfl; (exact bz_lit _); omega; (first | omega | decide)) | ((with_reducible apply M_ofRider); rfl; (exact bz_lit _); omega; (first | omega | decide)) | ((with_reducible apply ap_rI); exact kd_ord _ (by omega) _ (by decide)) | ((with_reducible apply ap_wI); exact kd_ord _ (by omega) _ (by decide)) | ((with_reducible apply ap_rI); exact kd_rid _ (by omega) _ (by decide)) | ((with_reducible apply ap_wI); exact kd_rid _ (by omega) _ (by decide)) | ((with_reducible apply ap_rc); exact (kd_clO _ (by omega)).1) | ((with_reducible apply ap_rc); exact (kd_clR _ (by omega)).1) | ((with_reducible apply ap_rc); exact (kd_clR _ (by omega)).2.2.1) | ((with_reducible apply ap_rR); exact (kd_ridA _ (by omega)).1) | ((with_reducible apply ap_rN); rfl) | ((with_reducible apply M_in)) | ((with_reducible apply X_isWithin)) | ((with_reducible apply ap_rI); rfl) | ((with_reducible apply ap_wI); rfl) | ((with_reducible apply ap_iA); rfl; (try simp only [bz_lit, pk_mul, nI_add]); rfl; omega) | ((with_reducible apply ap_iW); rfl; (try simp only [bz_lit, pk_mul, nI_add]); rfl; omega))
        rw [k7]
        refine ⟨(by first | rfl | trivial), hP _ (fr_t r1 (fr_u (S := S1) (by first | omega | (dsimp only; omega)))) ?_ ?_ ?_⟩
        · dsimp only
          rw [bz_u_same, hif]
        · simp (disch := omega) only [bz_u_same, bz_u_ne]
          exact k7
        · simp (disch := omega) only [bz_u_same, bz_u_ne]
          exact k6
      refine g_X6_takeNumber_5 hl _ _ ?_
      unfold w_X6_takeNumber_5
      repeat (first | ((with_reducible apply ap_rc); rfl) | ((with_reducible apply ap_nn)) | ((with_reducible apply ap_rR); rfl) | ((with_reducible apply M_ofOrder); rfl; (exact bz_lit _); omega; (first | omega | decide)) | ((with_reducible apply M_ofRider); rfl; (exact bz_lit _); omega; (first | omega | decide)) | ((with_reducible apply ap_rI); exact kd_ord _ (by omega) _ (by decide)) | ((with_reducible apply ap_wI); exact kd_ord _ (by omega) _ (by decide)) | ((with_reducible apply ap_rI); exact kd_rid _ (by omega) _ (by decide)) | ((with_reducible apply ap_wI); exact kd_rid _ (by omega) _ (by decide)) | ((with_reducible apply ap_rc); exact (kd_clO _ (by omega)).1) | ((with_reducible apply ap_rc); exact (kd_clR _ (by omega)).1) | ((with_reducible apply ap_rc); exact (kd_clR _ (by omega)).2.2.1) | ((with_reducible apply ap_rR); exact (kd_ridA _ (by omega)).1) | ((with_reducible apply ap_rN); rfl) | ((with_reducible apply M_in)) | ((with_reducible apply X_isWithin)) | ((with_reducible apply ap_rI); rfl) | ((with_reducible apply ap_wI); rfl) | ((with_reducible apply ap_iA); rfl; (try simp only [bz_lit, pk_mul, nI_add]); rfl; omega) | ((with_reducible apply ap_iW); rfl; (try simp only [bz_lit, pk_mul, nI_add]); rfl; omega))
      rw [k6, ht1.1]
      refine ⟨fun c => absurd ((nI_leI (by omega) (by omega)).mp c) (by omega), fun _ => ?_⟩
      repeat (first | ((with_reducible apply ap_rc); rfl) | ((with_reducible apply ap_nn)) | ((with_reducible apply ap_rR); rfl) | ((with_reducible apply M_ofOrder); rfl; (exact bz_lit _); omega; (first | omega | decide)) | ((with_reducible apply M_ofRider); rfl; (exact bz_lit _); omega; (first | omega | decide)) | ((with_reducible apply ap_rI); exact kd_ord _ (by omega) _ (by decide)) | ((with_reducible apply ap_wI); exact kd_ord _ (by omega) _ (by decide)) | ((with_reducible apply ap_rI); exact kd_rid _ (by omega) _ (by decide)) | ((with_reducible apply ap_wI); exact kd_rid _ (by omega) _ (by decide)) | ((with_reducible apply ap_rc); exact (kd_clO _ (by omega)).1) | ((with_reducible apply ap_rc); exact (kd_clR _ (by omega)).1) | ((with_reducible apply ap_rc); exact (kd_clR _ (by omega)).2.2.1) | ((with_reducible apply ap_rR); exact (kd_ridA _ (by omega)).1) | ((with_reducible apply ap_rN); rfl) | ((with_reducible apply M_in)) | ((with_reducible apply X_isWithin)) | ((with_reducible apply ap_rI); rfl) | ((with_reducible apply ap_wI); rfl) | ((with_reducible apply ap_iA); rfl; (try simp only [bz_lit, pk_mul, nI_add]); rfl; omega) | ((with_reducible apply ap_iW); rfl; (try simp only [bz_lit, pk_mul, nI_add]); rfl; omega))
      rw [k6]
      repeat (first | ((with_reducible apply ap_rc); rfl) | ((with_reducible apply ap_nn)) | ((with_reducible apply ap_rR); rfl) | ((with_reducible apply M_ofOrder); rfl; (exact bz_lit _); omega; (first | omega | decide)) | ((with_reducible apply M_ofRider); rfl; (exact bz_lit _); omega; (first | omega | decide)) | ((with_reducible apply ap_rI); exact kd_ord _ (by omega) _ (by decide)) | ((with_reducible apply ap_wI); exact kd_ord _ (by omega) _ (by decide)) | ((with_reducible apply ap_rI); exact kd_rid _ (by omega) _ (by decide)) | ((with_reducible apply ap_wI); exact kd_rid _ (by omega) _ (by decide)) | ((with_reducible apply ap_rc); exact (kd_clO _ (by omega)).1) | ((with_reducible apply ap_rc); exact (kd_clR _ (by omega)).1) | ((with_reducible apply ap_rc); exact (kd_clR _ (by omega)).2.2.1) | ((with_reducible apply ap_rR); exact (kd_ridA _ (by omega)).1) | ((with_reducible apply ap_rN); rfl) | ((with_reducible apply M_in)) | ((with_reducible apply X_isWithin)) | ((with_reducible apply ap_rI); rfl) | ((with_reducible apply ap_wI); rfl) | ((with_reducible apply ap_iA); rfl; (try simp only [bz_lit, pk_mul, nI_add]); rfl; omega) | ((with_reducible apply ap_iW); rfl; (try simp only [bz_lit, pk_mul, nI_add]); rfl; omega))
      rw [ht1.2 p hpN]
      refine ⟨fun c => fin (by have := (nI_ltI (b := 48) (by omega) (by omega)).mp c; omega), fun c => ?_⟩
      have c1 : 48 ≤ b p := by
        rcases Nat.lt_or_ge (b p) 48 with z | z
        · exact absurd (nI_lt (b := 48) z (by decide)) c
        · exact z
      repeat (first | ((with_reducible apply ap_rc); rfl) | ((with_reducible apply ap_nn)) | ((with_reducible apply ap_rR); rfl) | ((with_reducible apply M_ofOrder); rfl; (exact bz_lit _); omega; (first | omega | decide)) | ((with_reducible apply M_ofRider); rfl; (exact bz_lit _); omega; (first | omega | decide)) | ((with_reducible apply ap_rI); exact kd_ord _ (by omega) _ (by decide)) | ((with_reducible apply ap_wI); exact kd_ord _ (by omega) _ (by decide)) | ((with_reducible apply ap_rI); exact kd_rid _ (by omega) _ (by decide)) | ((with_reducible apply ap_wI); exact kd_rid _ (by omega) _ (by decide)) | ((with_reducible apply ap_rc); exact (kd_clO _ (by omega)).1) | ((with_reducible apply ap_rc); exact (kd_clR _ (by omega)).1) | ((with_reducible apply ap_rc); exact (kd_clR _ (by omega)).2.2.1) | ((with_reducible apply ap_rR); exact (kd_ridA _ (by omega)).1) | ((with_reducible apply ap_rN); rfl) | ((with_reducible apply M_in)) | ((with_reducible apply X_isWithin)) | ((with_reducible apply ap_rI); rfl) | ((with_reducible apply ap_wI); rfl) | ((with_reducible apply ap_iA); rfl; (try simp only [bz_lit, pk_mul, nI_add]); rfl; omega) | ((with_reducible apply ap_iW); rfl; (try simp only [bz_lit, pk_mul, nI_add]); rfl; omega))
      rw [k6]
      repeat (first | ((with_reducible apply ap_rc); rfl) | ((with_reducible apply ap_nn)) | ((with_reducible apply ap_rR); rfl) | ((with_reducible apply M_ofOrder); rfl; (exact bz_lit _); omega; (first | omega | decide)) | ((with_reducible apply M_ofRider); rfl; (exact bz_lit _); omega; (first | omega | decide)) | ((with_reducible apply ap_rI); exact kd_ord _ (by omega) _ (by decide)) | ((with_reducible apply ap_wI); exact kd_ord _ (by omega) _ (by decide)) | ((with_reducible apply ap_rI); exact kd_rid _ (by omega) _ (by decide)) | ((with_reducible apply ap_wI); exact kd_rid _ (by omega) _ (by decide)) | ((with_reducible apply ap_rc); exact (kd_clO _ (by omega)).1) | ((with_reducible apply ap_rc); exact (kd_clR _ (by omega)).1) | ((with_reducible apply ap_rc); exact (kd_clR _ (by omega)).2.2.1) | ((with_reducible apply ap_rR); exact (kd_ridA _ (by omega)).1) | ((with_reducible apply ap_rN); rfl) | ((with_reducible apply M_in)) | ((with_reducible apply X_isWithin)) | ((with_reducible apply ap_rI); rfl) | ((with_reducible apply ap_wI); rfl) | ((with_reducible apply ap_iA); rfl; (try simp only [bz_lit, pk_mul, nI_add]); rfl; omega) | ((with_reducible apply ap_iW); rfl; (try simp only [bz_lit, pk_mul, nI_add]); rfl; omega))
      rw [ht1.2 p hpN]
      refine ⟨fun c => fin (by have := (nI_ltI (a := 57) (by omega) (by omega)).mp c; omega), fun c => ?_⟩
      have c2 : b p ≤ 57 := by
        rcases Nat.lt_or_ge 57 (b p) with z | z
        · exact absurd (nI_lt (a := 57) z (by omega)) c
        · exact z
      rw [show N - p = N - (p + 1) + 1 by omega, t_nm, if_pos ⟨hpN, c1, c2⟩] at hnm
      repeat (first | ((with_reducible apply ap_rc); rfl) | ((with_reducible apply ap_nn)) | ((with_reducible apply ap_rR); rfl) | ((with_reducible apply M_ofOrder); rfl; (exact bz_lit _); omega; (first | omega | decide)) | ((with_reducible apply M_ofRider); rfl; (exact bz_lit _); omega; (first | omega | decide)) | ((with_reducible apply ap_rI); exact kd_ord _ (by omega) _ (by decide)) | ((with_reducible apply ap_wI); exact kd_ord _ (by omega) _ (by decide)) | ((with_reducible apply ap_rI); exact kd_rid _ (by omega) _ (by decide)) | ((with_reducible apply ap_wI); exact kd_rid _ (by omega) _ (by decide)) | ((with_reducible apply ap_rc); exact (kd_clO _ (by omega)).1) | ((with_reducible apply ap_rc); exact (kd_clR _ (by omega)).1) | ((with_reducible apply ap_rc); exact (kd_clR _ (by omega)).2.2.1) | ((with_reducible apply ap_rR); exact (kd_ridA _ (by omega)).1) | ((with_reducible apply ap_rN); rfl) | ((with_reducible apply M_in)) | ((with_reducible apply X_isWithin)) | ((with_reducible apply ap_rI); rfl) | ((with_reducible apply ap_wI); rfl) | ((with_reducible apply ap_iA); rfl; (try simp only [bz_lit, pk_mul, nI_add]); rfl; omega) | ((with_reducible apply ap_iW); rfl; (try simp only [bz_lit, pk_mul, nI_add]); rfl; omega))
      rw [k7]
      refine ⟨fun c => ?_, fun c => ?_⟩
      · have cv := (nI_ltI (a := 9999) (by omega) (by omega)).mp c
        rw [if_neg (by omega)] at hnm
        repeat (first | ((with_reducible apply ap_rc); rfl) | ((with_reducible apply ap_nn)) | ((with_reducible apply ap_rR); rfl) | ((with_reducible apply M_ofOrder); rfl; (exact bz_lit _); omega; (first | omega | decide)) | ((with_reducible apply M_ofRider); rfl; (exact bz_lit _); omega; (first | omega | decide)) | ((with_reducible apply ap_rI); exact kd_ord _ (by omega) _ (by decide)) | ((with_reducible apply ap_wI); exact kd_ord _ (by omega) _ (by decide)) | ((with_reducible apply ap_rI); exact kd_rid _ (by omega) _ (by decide)) | ((with_reducible apply ap_wI); exact kd_rid _ (by omega) _ (by decide)) | ((with_reducible apply ap_rc); exact (kd_clO _ (by omega)).1) | ((with_reducible apply ap_rc); exact (kd_clR _ (by omega)).1) | ((with_reducible apply ap_rc); exact (kd_clR _ (by omega)).2.2.1) | ((with_reducible apply ap_rR); exact (kd_ridA _ (by omega)).1) | ((with_reducible apply ap_rN); rfl) | ((with_reducible apply M_in)) | ((with_reducible apply X_isWithin)) | ((with_reducible apply ap_rI); rfl) | ((with_reducible apply ap_wI); rfl) | ((with_reducible apply ap_iA); rfl; (try simp only [bz_lit, pk_mul, nI_add]); rfl; omega) | ((with_reducible apply ap_iW); rfl; (try simp only [bz_lit, pk_mul, nI_add]); rfl; omega))
        rw [k6, ← nI_succ]
        refine ih (p + 1) v _ (by omega) (by omega) hv hnm (fr_t r1 (fr_u (S := S1) (by first | omega | (dsimp only; omega)))) ?_ ?_
        · simp (disch := omega) only [bz_u_same, bz_u_ne]
        · simp (disch := omega) only [bz_u_same, bz_u_ne]
          exact k7
      · have cv : v ≤ 9999 := by
          rcases Nat.lt_or_ge 9999 v with z | z
          · exact absurd (nI_lt (a := 9999) z (by omega)) c
          · exact z
        rw [if_pos cv] at hnm
        repeat (first | ((with_reducible apply ap_rc); rfl) | ((with_reducible apply ap_nn)) | ((with_reducible apply ap_rR); rfl) | ((with_reducible apply M_ofOrder); rfl; (exact bz_lit _); omega; (first | omega | decide)) | ((with_reducible apply M_ofRider); rfl; (exact bz_lit _); omega; (first | omega | decide)) | ((with_reducible apply ap_rI); exact kd_ord _ (by omega) _ (by decide)) | ((with_reducible apply ap_wI); exact kd_ord _ (by omega) _ (by decide)) | ((with_reducible apply ap_rI); exact kd_rid _ (by omega) _ (by decide)) | ((with_reducible apply ap_wI); exact kd_rid _ (by omega) _ (by decide)) | ((with_reducible apply ap_rc); exact (kd_clO _ (by omega)).1) | ((with_reducible apply ap_rc); exact (kd_clR _ (by omega)).1) | ((with_reducible apply ap_rc); exact (kd_clR _ (by omega)).2.2.1) | ((with_reducible apply ap_rR); exact (kd_ridA _ (by omega)).1) | ((with_reducible apply ap_rN); rfl) | ((with_reducible apply M_in)) | ((with_reducible apply X_isWithin)) | ((with_reducible apply ap_rI); rfl) | ((with_reducible apply ap_wI); rfl) | ((with_reducible apply ap_iA); rfl; (try simp only [bz_lit, pk_mul, nI_add]); rfl; omega) | ((with_reducible apply ap_iW); rfl; (try simp only [bz_lit, pk_mul, nI_add]); rfl; omega))
        rw [k6]
        repeat (first | ((with_reducible apply ap_rc); rfl) | ((with_reducible apply ap_nn)) | ((with_reducible apply ap_rR); rfl) | ((with_reducible apply M_ofOrder); rfl; (exact bz_lit _); omega; (first | omega | decide)) | ((with_reducible apply M_ofRider); rfl; (exact bz_lit _); omega; (first | omega | decide)) | ((with_reducible apply ap_rI); exact kd_ord _ (by omega) _ (by decide)) | ((with_reducible apply ap_wI); exact kd_ord _ (by omega) _ (by decide)) | ((with_reducible apply ap_rI); exact kd_rid _ (by omega) _ (by decide)) | ((with_reducible apply ap_wI); exact kd_rid _ (by omega) _ (by decide)) | ((with_reducible apply ap_rc); exact (kd_clO _ (by omega)).1) | ((with_reducible apply ap_rc); exact (kd_clR _ (by omega)).1) | ((with_reducible apply ap_rc); exact (kd_clR _ (by omega)).2.2.1) | ((with_reducible apply ap_rR); exact (kd_ridA _ (by omega)).1) | ((with_reducible apply ap_rN); rfl) | ((with_reducible apply M_in)) | ((with_reducible apply X_isWithin)) | ((with_reducible apply ap_rI); rfl) | ((with_reducible apply ap_wI); rfl) | ((with_reducible apply ap_iA); rfl; (try simp only [bz_lit, pk_mul, nI_add]); rfl; omega) | ((with_reducible apply ap_iW); rfl; (try simp only [bz_lit, pk_mul, nI_add]); rfl; omega))
        dsimp only
        simp (disch := omega) only [bz_u_ne]
        rw [k6, k7, ht1.2 p hpN, ← nI_succ]
        have ev : (10 : Int32) * nI v + nI (b p) - 48 = nI (10 * v + b p - 48) := by
          rw [show (10 : Int32) = nI 10 from rfl, pk_mul, nI_add, show (48 : Int32) = nI 48 from rfl, pk_sub (by omega)]
        rw [ev]
        refine ih (p + 1) (10 * v + b p - 48) _ (by omega) (by omega) (by omega) hnm (fr_t r1 (fr_v (fr_v (fr_0 _ S1) (by first | omega | (dsimp only; omega))) (by first | omega | (dsimp only; omega)))) ?_ ?_
        · simp (disch := omega) only [bz_u_same, bz_u_ne]
        · simp (disch := omega) only [bz_u_same, bz_u_ne]
  repeat (first | ((with_reducible apply ap_rc); rfl) | ((with_reducible apply ap_nn)) | ((with_reducible apply ap_rR); rfl) | ((with_reducible apply M_ofOrder); rfl; (exact bz_lit _); omega; (first | omega | decide)) | ((with_reducible apply M_ofRider); rfl; (exact bz_lit _); omega; (first | omega | decide)) | ((with_reducible apply ap_rI); exact kd_ord _ (by omega) _ (by decide)) | ((with_reducible apply ap_wI); exact kd_ord _ (by omega) _ (by decide)) | ((with_reducible apply ap_rI); exact kd_rid _ (by omega) _ (by decide)) | ((with_reducible apply ap_wI); exact kd_rid _ (by omega) _ (by decide)) | ((with_reducible apply ap_rc); exact (kd_clO _ (by omega)).1) | ((with_reducible apply ap_rc); exact (kd_clR _ (by omega)).1) | ((with_reducible apply ap_rc); exact (kd_clR _ (by omega)).2.2.1) | ((with_reducible apply ap_rR); exact (kd_ridA _ (by omega)).1) | ((with_reducible apply ap_rN); rfl) | ((with_reducible apply M_in)) | ((with_reducible apply X_isWithin)) | ((with_reducible apply ap_rI); rfl) | ((with_reducible apply ap_wI); rfl) | ((with_reducible apply ap_iA); rfl; (try simp only [bz_lit, pk_mul, nI_add]); rfl; omega) | ((with_reducible apply ap_iW); rfl; (try simp only [bz_lit, pk_mul, nI_add]); rfl; omega))
  refine main (N - q) q 0 _ rfl hq (by decide) rfl (fr_u (S := S) (by first | omega | (dsimp only; omega))) ?_ ?_
  · simp (disch := omega) only [bz_u_same, bz_u_ne]
    exact h6
  · simp (disch := omega) only [bz_u_same, bz_u_ne]
    rfl
theorem X_advance {P : bz_H → Prop} (hN : N ≤ 80) (hb : ∀ j, b j < 256) : ∀ (f p : Nat) (S : bz_S), N - p = f → p ≤ N → tbX S b N → S.1 162 6 = nI p → (∀ S', fr (fun c k => c = 162 ∧ 4 ≤ k) S S' → px S' b N p → P (bz_hp E S')) → ∀ κ : bz_K, κ.2.1 = l → w_X6_advance_0 G κ l (d + 4) (fun v h' => v = none ∧ P h') 0 0 162 (bz_hp E S) := by
  intro f
  induction f with
  | zero =>
    intro p S hf hp ht h6 hP κ hl
    have hpl := t_pl_e (b := b) (N := N) (p := p) (by omega)
    unfold w_X6_advance_0
    repeat (first | ((with_reducible apply ap_rc); rfl) | ((with_reducible apply ap_nn)) | ((with_reducible apply ap_rR); rfl) | ((with_reducible apply M_ofOrder); rfl; (exact bz_lit _); omega; (first | omega | decide)) | ((with_reducible apply M_ofRider); rfl; (exact bz_lit _); omega; (first | omega | decide)) | ((with_reducible apply ap_rI); exact kd_ord _ (by omega) _ (by decide)) | ((with_reducible apply ap_wI); exact kd_ord _ (by omega) _ (by decide)) | ((with_reducible apply ap_rI); exact kd_rid _ (by omega) _ (by decide)) | ((with_reducible apply ap_wI); exact kd_rid _ (by omega) _ (by decide)) | ((with_reducible apply ap_rc); exact (kd_clO _ (by omega)).1) | ((with_reducible apply ap_rc); exact (kd_clR _ (by omega)).1) | ((with_reducible apply ap_rc); exact (kd_clR _ (by omega)).2.2.1) | ((with_reducible apply ap_rR); exact (kd_ridA _ (by omega)).1) | ((with_reducible apply ap_rN); rfl) | ((with_reducible apply M_in)) | ((with_reducible apply X_isWithin)) | ((with_reducible apply ap_rI); rfl) | ((with_reducible apply ap_wI); rfl) | ((with_reducible apply ap_iA); rfl; (try simp only [bz_lit, pk_mul, nI_add]); rfl; omega) | ((with_reducible apply ap_iW); rfl; (try simp only [bz_lit, pk_mul, nI_add]); rfl; omega))
    rw [h6, ht.1]
    refine ⟨fun _ => ?_, fun c => absurd (nI_le (by omega) (by omega)) c⟩
    repeat (first | ((with_reducible apply ap_rc); rfl) | ((with_reducible apply ap_nn)) | ((with_reducible apply ap_rR); rfl) | ((with_reducible apply M_ofOrder); rfl; (exact bz_lit _); omega; (first | omega | decide)) | ((with_reducible apply M_ofRider); rfl; (exact bz_lit _); omega; (first | omega | decide)) | ((with_reducible apply ap_rI); exact kd_ord _ (by omega) _ (by decide)) | ((with_reducible apply ap_wI); exact kd_ord _ (by omega) _ (by decide)) | ((with_reducible apply ap_rI); exact kd_rid _ (by omega) _ (by decide)) | ((with_reducible apply ap_wI); exact kd_rid _ (by omega) _ (by decide)) | ((with_reducible apply ap_rc); exact (kd_clO _ (by omega)).1) | ((with_reducible apply ap_rc); exact (kd_clR _ (by omega)).1) | ((with_reducible apply ap_rc); exact (kd_clR _ (by omega)).2.2.1) | ((with_reducible apply ap_rR); exact (kd_ridA _ (by omega)).1) | ((with_reducible apply ap_rN); rfl) | ((with_reducible apply M_in)) | ((with_reducible apply X_isWithin)) | ((with_reducible apply ap_rI); rfl) | ((with_reducible apply ap_wI); rfl) | ((with_reducible apply ap_iA); rfl; (try simp only [bz_lit, pk_mul, nI_add]); rfl; omega) | ((with_reducible apply ap_iW); rfl; (try simp only [bz_lit, pk_mul, nI_add]); rfl; omega))
    dsimp only
    simp (disch := omega) only [bz_u_ne]
    rw [h6, ht.1]
    refine ⟨fun c => absurd ((nI_ltI (by omega) (by omega)).mp c) (by omega), fun _ => ?_⟩
    repeat (first | ((with_reducible apply ap_rc); rfl) | ((with_reducible apply ap_nn)) | ((with_reducible apply ap_rR); rfl) | ((with_reducible apply M_ofOrder); rfl; (exact bz_lit _); omega; (first | omega | decide)) | ((with_reducible apply M_ofRider); rfl; (exact bz_lit _); omega; (first | omega | decide)) | ((with_reducible apply ap_rI); exact kd_ord _ (by omega) _ (by decide)) | ((with_reducible apply ap_wI); exact kd_ord _ (by omega) _ (by decide)) | ((with_reducible apply ap_rI); exact kd_rid _ (by omega) _ (by decide)) | ((with_reducible apply ap_wI); exact kd_rid _ (by omega) _ (by decide)) | ((with_reducible apply ap_rc); exact (kd_clO _ (by omega)).1) | ((with_reducible apply ap_rc); exact (kd_clR _ (by omega)).1) | ((with_reducible apply ap_rc); exact (kd_clR _ (by omega)).2.2.1) | ((with_reducible apply ap_rR); exact (kd_ridA _ (by omega)).1) | ((with_reducible apply ap_rN); rfl) | ((with_reducible apply M_in)) | ((with_reducible apply X_isWithin)) | ((with_reducible apply ap_rI); rfl) | ((with_reducible apply ap_wI); rfl) | ((with_reducible apply ap_iA); rfl; (try simp only [bz_lit, pk_mul, nI_add]); rfl; omega) | ((with_reducible apply ap_iW); rfl; (try simp only [bz_lit, pk_mul, nI_add]); rfl; omega))
    refine ⟨(by first | rfl | trivial), hP _ (fr_v (fr_v (fr_0 _ S) (by first | omega | (dsimp only; omega))) (by first | omega | (dsimp only; omega))) ?_⟩
    have htk : t_tk b N p = (0, 0) := by
      unfold t_tk
      rw [hpl, if_pos (by omega)]
    have hnx : t_nx b N p = p := by
      unfold t_nx
      rw [hpl, if_pos (by omega)]
    unfold px
    rw [htk, hnx, hpl]
    refine ⟨?_, fun z => ?_, ?_, ?_⟩
    · simp (disch := omega) only [bz_u_same, bz_u_ne]
      rfl
    · rcases z with z | z <;> cases z
    · simp (disch := omega) only [bz_u_same, bz_u_ne]
    · simp (disch := omega) only [bz_u_same, bz_u_ne]
      exact h6
  | succ f ih =>
    intro p S hf hp ht h6 hP κ hl
    have hpN : p < N := by omega
    have hbp := hb p
    unfold w_X6_advance_0
    repeat (first | ((with_reducible apply ap_rc); rfl) | ((with_reducible apply ap_nn)) | ((with_reducible apply ap_rR); rfl) | ((with_reducible apply M_ofOrder); rfl; (exact bz_lit _); omega; (first | omega | decide)) | ((with_reducible apply M_ofRider); rfl; (exact bz_lit _); omega; (first | omega | decide)) | ((with_reducible apply ap_rI); exact kd_ord _ (by omega) _ (by decide)) | ((with_reducible apply ap_wI); exact kd_ord _ (by omega) _ (by decide)) | ((with_reducible apply ap_rI); exact kd_rid _ (by omega) _ (by decide)) | ((with_reducible apply ap_wI); exact kd_rid _ (by omega) _ (by decide)) | ((with_reducible apply ap_rc); exact (kd_clO _ (by omega)).1) | ((with_reducible apply ap_rc); exact (kd_clR _ (by omega)).1) | ((with_reducible apply ap_rc); exact (kd_clR _ (by omega)).2.2.1) | ((with_reducible apply ap_rR); exact (kd_ridA _ (by omega)).1) | ((with_reducible apply ap_rN); rfl) | ((with_reducible apply M_in)) | ((with_reducible apply X_isWithin)) | ((with_reducible apply ap_rI); rfl) | ((with_reducible apply ap_wI); rfl) | ((with_reducible apply ap_iA); rfl; (try simp only [bz_lit, pk_mul, nI_add]); rfl; omega) | ((with_reducible apply ap_iW); rfl; (try simp only [bz_lit, pk_mul, nI_add]); rfl; omega))
    rw [h6, ht.1]
    refine ⟨fun c => absurd ((nI_leI (by omega) (by omega)).mp c) (by omega), fun _ => ?_⟩
    repeat (first | ((with_reducible apply ap_rc); rfl) | ((with_reducible apply ap_nn)) | ((with_reducible apply ap_rR); rfl) | ((with_reducible apply M_ofOrder); rfl; (exact bz_lit _); omega; (first | omega | decide)) | ((with_reducible apply M_ofRider); rfl; (exact bz_lit _); omega; (first | omega | decide)) | ((with_reducible apply ap_rI); exact kd_ord _ (by omega) _ (by decide)) | ((with_reducible apply ap_wI); exact kd_ord _ (by omega) _ (by decide)) | ((with_reducible apply ap_rI); exact kd_rid _ (by omega) _ (by decide)) | ((with_reducible apply ap_wI); exact kd_rid _ (by omega) _ (by decide)) | ((with_reducible apply ap_rc); exact (kd_clO _ (by omega)).1) | ((with_reducible apply ap_rc); exact (kd_clR _ (by omega)).1) | ((with_reducible apply ap_rc); exact (kd_clR _ (by omega)).2.2.1) | ((with_reducible apply ap_rR); exact (kd_ridA _ (by omega)).1) | ((with_reducible apply ap_rN); rfl) | ((with_reducible apply M_in)) | ((with_reducible apply X_isWithin)) | ((with_reducible apply ap_rI); rfl) | ((with_reducible apply ap_wI); rfl) | ((with_reducible apply ap_iA); rfl; (try simp only [bz_lit, pk_mul, nI_add]); rfl; omega) | ((with_reducible apply ap_iW); rfl; (try simp only [bz_lit, pk_mul, nI_add]); rfl; omega))
    rw [h6]
    repeat (first | ((with_reducible apply ap_rc); rfl) | ((with_reducible apply ap_nn)) | ((with_reducible apply ap_rR); rfl) | ((with_reducible apply M_ofOrder); rfl; (exact bz_lit _); omega; (first | omega | decide)) | ((with_reducible apply M_ofRider); rfl; (exact bz_lit _); omega; (first | omega | decide)) | ((with_reducible apply ap_rI); exact kd_ord _ (by omega) _ (by decide)) | ((with_reducible apply ap_wI); exact kd_ord _ (by omega) _ (by decide)) | ((with_reducible apply ap_rI); exact kd_rid _ (by omega) _ (by decide)) | ((with_reducible apply ap_wI); exact kd_rid _ (by omega) _ (by decide)) | ((with_reducible apply ap_rc); exact (kd_clO _ (by omega)).1) | ((with_reducible apply ap_rc); exact (kd_clR _ (by omega)).1) | ((with_reducible apply ap_rc); exact (kd_clR _ (by omega)).2.2.1) | ((with_reducible apply ap_rR); exact (kd_ridA _ (by omega)).1) | ((with_reducible apply ap_rN); rfl) | ((with_reducible apply M_in)) | ((with_reducible apply X_isWithin)) | ((with_reducible apply ap_rI); rfl) | ((with_reducible apply ap_wI); rfl) | ((with_reducible apply ap_iA); rfl; (try simp only [bz_lit, pk_mul, nI_add]); rfl; omega) | ((with_reducible apply ap_iW); rfl; (try simp only [bz_lit, pk_mul, nI_add]); rfl; omega))
    rw [ht.2 p hpN]
    refine ⟨fun c => ?_, fun c => ?_⟩
    · have c32 : ¬ b p = 32 := fun z => c (by rw [z]; rfl)
      have hpl := t_pl_n hpN c32
      repeat (first | ((with_reducible apply ap_rc); rfl) | ((with_reducible apply ap_nn)) | ((with_reducible apply ap_rR); rfl) | ((with_reducible apply M_ofOrder); rfl; (exact bz_lit _); omega; (first | omega | decide)) | ((with_reducible apply M_ofRider); rfl; (exact bz_lit _); omega; (first | omega | decide)) | ((with_reducible apply ap_rI); exact kd_ord _ (by omega) _ (by decide)) | ((with_reducible apply ap_wI); exact kd_ord _ (by omega) _ (by decide)) | ((with_reducible apply ap_rI); exact kd_rid _ (by omega) _ (by decide)) | ((with_reducible apply ap_wI); exact kd_rid _ (by omega) _ (by decide)) | ((with_reducible apply ap_rc); exact (kd_clO _ (by omega)).1) | ((with_reducible apply ap_rc); exact (kd_clR _ (by omega)).1) | ((with_reducible apply ap_rc); exact (kd_clR _ (by omega)).2.2.1) | ((with_reducible apply ap_rR); exact (kd_ridA _ (by omega)).1) | ((with_reducible apply ap_rN); rfl) | ((with_reducible apply M_in)) | ((with_reducible apply X_isWithin)) | ((with_reducible apply ap_rI); rfl) | ((with_reducible apply ap_wI); rfl) | ((with_reducible apply ap_iA); rfl; (try simp only [bz_lit, pk_mul, nI_add]); rfl; omega) | ((with_reducible apply ap_iW); rfl; (try simp only [bz_lit, pk_mul, nI_add]); rfl; omega))
      dsimp only
      simp (disch := omega) only [bz_u_ne]
      rw [h6, ht.1]
      refine ⟨fun _ => ?_, fun c => absurd (nI_lt (by omega) (by omega)) c⟩
      have r1 : fr (fun c k => c = 162 ∧ 4 ≤ k) S (bz_u S.1 162 5 (nI p), S.2) := fr_u (S := S) (by first | omega | (dsimp only; omega))
      have ht1 := tbX_f ht r1 (by intro c k h; first | omega | (dsimp only at h ⊢; omega) | (dsimp only at h; omega) | (dsimp only; omega))
      have k6 : (bz_u S.1 162 5 (nI p)) 162 6 = nI p := (bz_u_ne _ _ (by decide)).trans h6
      have sgn : ¬ (48 ≤ b p ∧ b p ≤ 57) → ∀ u2, bz_J G κ kX6_advance (d + 4 + 1) (fun v h' => v = none ∧ P h') 0 0 90 [some (.inr (some 162)), some (.inl (nI (b p))), u2] [] (bz_hp E (bz_u S.1 162 5 (nI p), S.2)) := by
        intro hnd u2
        refine g_X6_advance_90 hl _ _ _ _ ?_
        unfold w_X6_advance_90
        repeat (first | ((with_reducible apply ap_rc); rfl) | ((with_reducible apply ap_nn)) | ((with_reducible apply ap_rR); rfl) | ((with_reducible apply M_ofOrder); rfl; (exact bz_lit _); omega; (first | omega | decide)) | ((with_reducible apply M_ofRider); rfl; (exact bz_lit _); omega; (first | omega | decide)) | ((with_reducible apply ap_rI); exact kd_ord _ (by omega) _ (by decide)) | ((with_reducible apply ap_wI); exact kd_ord _ (by omega) _ (by decide)) | ((with_reducible apply ap_rI); exact kd_rid _ (by omega) _ (by decide)) | ((with_reducible apply ap_wI); exact kd_rid _ (by omega) _ (by decide)) | ((with_reducible apply ap_rc); exact (kd_clO _ (by omega)).1) | ((with_reducible apply ap_rc); exact (kd_clR _ (by omega)).1) | ((with_reducible apply ap_rc); exact (kd_clR _ (by omega)).2.2.1) | ((with_reducible apply ap_rR); exact (kd_ridA _ (by omega)).1) | ((with_reducible apply ap_rN); rfl) | ((with_reducible apply M_in)) | ((with_reducible apply X_isWithin)) | ((with_reducible apply ap_rI); rfl) | ((with_reducible apply ap_wI); rfl) | ((with_reducible apply ap_iA); rfl; (try simp only [bz_lit, pk_mul, nI_add]); rfl; omega) | ((with_reducible apply ap_iW); rfl; (try simp only [bz_lit, pk_mul, nI_add]); rfl; omega))
        dsimp only
        rw [k6, pk_char, pk_tn (by omega), Nat.mod_eq_of_lt (show b p < 65536 by omega), ← nI_succ]
        refine J_indexOf hbp ?_
        rw [t_ni_nm]
        have hnx : t_nx b N p = p + 1 := by
          unfold t_nx
          rw [hpl, if_neg (by omega), if_neg hnd]
        have htk : t_tk b N p = if t_ni (b p) < 7 then (3, 10000 + t_ni (b p)) else if b p = 43 ∨ b p = 45 ∨ b p = 42 ∨ b p = 47 ∨ b p = 40 ∨ b p = 41 ∨ b p = 60 ∨ b p = 61 then (4, b p) else (1, 0) := by
          unfold t_tk
          rw [hpl, if_neg (by omega), if_neg hnd]
        unfold px at hP
        rw [hnx, hpl] at hP
        by_cases hn : t_ni (b p) < 7
        · rw [if_pos hn] at htk ⊢
          rw [htk] at hP
          refine ⟨fun z => absurd z (nI_pos (by omega)), fun _ => ?_⟩
          repeat (first | ((with_reducible apply ap_rc); rfl) | ((with_reducible apply ap_nn)) | ((with_reducible apply ap_rR); rfl) | ((with_reducible apply M_ofOrder); rfl; (exact bz_lit _); omega; (first | omega | decide)) | ((with_reducible apply M_ofRider); rfl; (exact bz_lit _); omega; (first | omega | decide)) | ((with_reducible apply ap_rI); exact kd_ord _ (by omega) _ (by decide)) | ((with_reducible apply ap_wI); exact kd_ord _ (by omega) _ (by decide)) | ((with_reducible apply ap_rI); exact kd_rid _ (by omega) _ (by decide)) | ((with_reducible apply ap_wI); exact kd_rid _ (by omega) _ (by decide)) | ((with_reducible apply ap_rc); exact (kd_clO _ (by omega)).1) | ((with_reducible apply ap_rc); exact (kd_clR _ (by omega)).1) | ((with_reducible apply ap_rc); exact (kd_clR _ (by omega)).2.2.1) | ((with_reducible apply ap_rR); exact (kd_ridA _ (by omega)).1) | ((with_reducible apply ap_rN); rfl) | ((with_reducible apply M_in)) | ((with_reducible apply X_isWithin)) | ((with_reducible apply ap_rI); rfl) | ((with_reducible apply ap_wI); rfl) | ((with_reducible apply ap_iA); rfl; (try simp only [bz_lit, pk_mul, nI_add]); rfl; omega) | ((with_reducible apply ap_iW); rfl; (try simp only [bz_lit, pk_mul, nI_add]); rfl; omega))
          refine ⟨(by first | rfl | trivial), hP _ (fr_v (fr_v (fr_v (fr_v (fr_0 _ S) (by first | omega | (dsimp only; omega))) (by first | omega | (dsimp only; omega))) (by first | omega | (dsimp only; omega))) (by first | omega | (dsimp only; omega))) ⟨?_, fun _ => ?_, ?_, ?_⟩⟩
          · simp (disch := omega) only [bz_u_same, bz_u_ne]
            rfl
          · simp (disch := omega) only [bz_u_same, bz_u_ne]
            rw [show (10000 : Int32) = nI 10000 from rfl, nI_add]
          · simp (disch := omega) only [bz_u_same, bz_u_ne]
          · simp (disch := omega) only [bz_u_same, bz_u_ne]
        · rw [if_neg hn] at htk ⊢
          refine ⟨fun _ => ?_, fun z => absurd (by decide) z⟩
          refine X_isSign ?_
          rw [sgI_e (b p) hbp]
          by_cases hs : b p = 43 ∨ b p = 45 ∨ b p = 42 ∨ b p = 47 ∨ b p = 40 ∨ b p = 41 ∨ b p = 60 ∨ b p = 61
          · rw [if_pos hs] at htk ⊢
            rw [htk] at hP
            rw [if_neg (by decide : ¬ (1 : Int32) = 0)]
            repeat (first | ((with_reducible apply ap_rc); rfl) | ((with_reducible apply ap_nn)) | ((with_reducible apply ap_rR); rfl) | ((with_reducible apply M_ofOrder); rfl; (exact bz_lit _); omega; (first | omega | decide)) | ((with_reducible apply M_ofRider); rfl; (exact bz_lit _); omega; (first | omega | decide)) | ((with_reducible apply ap_rI); exact kd_ord _ (by omega) _ (by decide)) | ((with_reducible apply ap_wI); exact kd_ord _ (by omega) _ (by decide)) | ((with_reducible apply ap_rI); exact kd_rid _ (by omega) _ (by decide)) | ((with_reducible apply ap_wI); exact kd_rid _ (by omega) _ (by decide)) | ((with_reducible apply ap_rc); exact (kd_clO _ (by omega)).1) | ((with_reducible apply ap_rc); exact (kd_clR _ (by omega)).1) | ((with_reducible apply ap_rc); exact (kd_clR _ (by omega)).2.2.1) | ((with_reducible apply ap_rR); exact (kd_ridA _ (by omega)).1) | ((with_reducible apply ap_rN); rfl) | ((with_reducible apply M_in)) | ((with_reducible apply X_isWithin)) | ((with_reducible apply ap_rI); rfl) | ((with_reducible apply ap_wI); rfl) | ((with_reducible apply ap_iA); rfl; (try simp only [bz_lit, pk_mul, nI_add]); rfl; omega) | ((with_reducible apply ap_iW); rfl; (try simp only [bz_lit, pk_mul, nI_add]); rfl; omega))
            refine ⟨(by first | rfl | trivial), hP _ (fr_v (fr_v (fr_v (fr_0 _ S) (by first | omega | (dsimp only; omega))) (by first | omega | (dsimp only; omega))) (by first | omega | (dsimp only; omega))) ⟨?_, fun z => ?_, ?_, ?_⟩⟩
            · simp (disch := omega) only [bz_u_same, bz_u_ne]
              rfl
            · rcases z with z | z <;> cases z
            · simp (disch := omega) only [bz_u_same, bz_u_ne]
            · simp (disch := omega) only [bz_u_same, bz_u_ne]
          · rw [if_neg hs] at htk ⊢
            rw [htk] at hP
            rw [if_pos rfl]
            repeat (first | ((with_reducible apply ap_rc); rfl) | ((with_reducible apply ap_nn)) | ((with_reducible apply ap_rR); rfl) | ((with_reducible apply M_ofOrder); rfl; (exact bz_lit _); omega; (first | omega | decide)) | ((with_reducible apply M_ofRider); rfl; (exact bz_lit _); omega; (first | omega | decide)) | ((with_reducible apply ap_rI); exact kd_ord _ (by omega) _ (by decide)) | ((with_reducible apply ap_wI); exact kd_ord _ (by omega) _ (by decide)) | ((with_reducible apply ap_rI); exact kd_rid _ (by omega) _ (by decide)) | ((with_reducible apply ap_wI); exact kd_rid _ (by omega) _ (by decide)) | ((with_reducible apply ap_rc); exact (kd_clO _ (by omega)).1) | ((with_reducible apply ap_rc); exact (kd_clR _ (by omega)).1) | ((with_reducible apply ap_rc); exact (kd_clR _ (by omega)).2.2.1) | ((with_reducible apply ap_rR); exact (kd_ridA _ (by omega)).1) | ((with_reducible apply ap_rN); rfl) | ((with_reducible apply M_in)) | ((with_reducible apply X_isWithin)) | ((with_reducible apply ap_rI); rfl) | ((with_reducible apply ap_wI); rfl) | ((with_reducible apply ap_iA); rfl; (try simp only [bz_lit, pk_mul, nI_add]); rfl; omega) | ((with_reducible apply ap_iW); rfl; (try simp only [bz_lit, pk_mul, nI_add]); rfl; omega))
            refine ⟨(by first | rfl | trivial), hP _ (fr_v (fr_v (fr_v (fr_0 _ S) (by first | omega | (dsimp only; omega))) (by first | omega | (dsimp only; omega))) (by first | omega | (dsimp only; omega))) ⟨?_, fun z => ?_, ?_, ?_⟩⟩
            · simp (disch := omega) only [bz_u_same, bz_u_ne]
              rfl
            · rcases z with z | z <;> cases z
            · simp (disch := omega) only [bz_u_same, bz_u_ne]
            · simp (disch := omega) only [bz_u_same, bz_u_ne]
      repeat (first | ((with_reducible apply ap_rc); rfl) | ((with_reducible apply ap_nn)) | ((with_reducible apply ap_rR); rfl) | ((with_reducible apply M_ofOrder); rfl; (exact bz_lit _); omega; (first | omega | decide)) | ((with_reducible apply M_ofRider); rfl; (exact bz_lit _); omega; (first | omega | decide)) | ((with_reducible apply ap_rI); exact kd_ord _ (by omega) _ (by decide)) | ((with_reducible apply ap_wI); exact kd_ord _ (by omega) _ (by decide)) | ((with_reducible apply ap_rI); exact kd_rid _ (by omega) _ (by decide)) | ((with_reducible apply ap_wI); exact kd_rid _ (by omega) _ (by decide)) | ((with_reducible apply ap_rc); exact (kd_clO _ (by omega)).1) | ((with_reducible apply ap_rc); exact (kd_clR _ (by omega)).1) | ((with_reducible apply ap_rc); exact (kd_clR _ (by omega)).2.2.1) | ((with_reducible apply ap_rR); exact (kd_ridA _ (by omega)).1) | ((with_reducible apply ap_rN); rfl) | ((with_reducible apply M_in)) | ((with_reducible apply X_isWithin)) | ((with_reducible apply ap_rI); rfl) | ((with_reducible apply ap_wI); rfl) | ((with_reducible apply ap_iA); rfl; (try simp only [bz_lit, pk_mul, nI_add]); rfl; omega) | ((with_reducible apply ap_iW); rfl; (try simp only [bz_lit, pk_mul, nI_add]); rfl; omega))
      dsimp only
      rw [k6]
      repeat (first | ((with_reducible apply ap_rc); rfl) | ((with_reducible apply ap_nn)) | ((with_reducible apply ap_rR); rfl) | ((with_reducible apply M_ofOrder); rfl; (exact bz_lit _); omega; (first | omega | decide)) | ((with_reducible apply M_ofRider); rfl; (exact bz_lit _); omega; (first | omega | decide)) | ((with_reducible apply ap_rI); exact kd_ord _ (by omega) _ (by decide)) | ((with_reducible apply ap_wI); exact kd_ord _ (by omega) _ (by decide)) | ((with_reducible apply ap_rI); exact kd_rid _ (by omega) _ (by decide)) | ((with_reducible apply ap_wI); exact kd_rid _ (by omega) _ (by decide)) | ((with_reducible apply ap_rc); exact (kd_clO _ (by omega)).1) | ((with_reducible apply ap_rc); exact (kd_clR _ (by omega)).1) | ((with_reducible apply ap_rc); exact (kd_clR _ (by omega)).2.2.1) | ((with_reducible apply ap_rR); exact (kd_ridA _ (by omega)).1) | ((with_reducible apply ap_rN); rfl) | ((with_reducible apply M_in)) | ((with_reducible apply X_isWithin)) | ((with_reducible apply ap_rI); rfl) | ((with_reducible apply ap_wI); rfl) | ((with_reducible apply ap_iA); rfl; (try simp only [bz_lit, pk_mul, nI_add]); rfl; omega) | ((with_reducible apply ap_iW); rfl; (try simp only [bz_lit, pk_mul, nI_add]); rfl; omega))
      dsimp only
      have hb1 : (bz_u S.1 162 5 (nI p)) 163 p = nI (b p) := ht1.2 p hpN
      rw [hb1]
      refine ⟨fun c => sgn (by have := (nI_ltI (b := 48) (by omega) (by omega)).mp c; omega) _, fun c => ⟨fun c2 => sgn (by have := (nI_ltI (a := 57) (by omega) (by omega)).mp c2; omega) _, fun c2 => ?_⟩⟩
      have c1' : 48 ≤ b p := by
        rcases Nat.lt_or_ge (b p) 48 with z | z
        · exact absurd (nI_lt (b := 48) z (by decide)) c
        · exact z
      have c2' : b p ≤ 57 := by
        rcases Nat.lt_or_ge 57 (b p) with z | z
        · exact absurd (nI_lt (a := 57) z (by omega)) c2
        · exact z
      repeat (first | ((with_reducible apply ap_rc); rfl) | ((with_reducible apply ap_nn)) | ((with_reducible apply ap_rR); rfl) | ((with_reducible apply M_ofOrder); rfl; (exact bz_lit _); omega; (first | omega | decide)) | ((with_reducible apply M_ofRider); rfl; (exact bz_lit _); omega; (first | omega | decide)) | ((with_reducible apply ap_rI); exact kd_ord _ (by omega) _ (by decide)) | ((with_reducible apply ap_wI); exact kd_ord _ (by omega) _ (by decide)) | ((with_reducible apply ap_rI); exact kd_rid _ (by omega) _ (by decide)) | ((with_reducible apply ap_wI); exact kd_rid _ (by omega) _ (by decide)) | ((with_reducible apply ap_rc); exact (kd_clO _ (by omega)).1) | ((with_reducible apply ap_rc); exact (kd_clR _ (by omega)).1) | ((with_reducible apply ap_rc); exact (kd_clR _ (by omega)).2.2.1) | ((with_reducible apply ap_rR); exact (kd_ridA _ (by omega)).1) | ((with_reducible apply ap_rN); rfl) | ((with_reducible apply M_in)) | ((with_reducible apply X_isWithin)) | ((with_reducible apply ap_rI); rfl) | ((with_reducible apply ap_wI); rfl) | ((with_reducible apply ap_iA); rfl; (try simp only [bz_lit, pk_mul, nI_add]); rfl; omega) | ((with_reducible apply ap_iW); rfl; (try simp only [bz_lit, pk_mul, nI_add]); rfl; omega))
      refine X_takeNumber hN hb ht1 hp k6 (fun S2 r2 k4 k7 k6' => ⟨(by first | rfl | trivial), hP S2 (fr_t r1 (fr_m r2 (by intro c k h; first | omega | (dsimp only at h ⊢; omega) | (dsimp only at h; omega) | (dsimp only; omega)))) ?_⟩)
      have hnx : t_nx b N p = (t_nm b N (N - p) p 0).2 := by
        unfold t_nx
        rw [hpl, if_neg (by omega), if_pos ⟨c1', c2'⟩]
      have htk : t_tk b N p = if (t_nm b N (N - p) p 0).1 ≤ 9999 then (2, (t_nm b N (N - p) p 0).1) else (1, 0) := by
        unfold t_tk
        rw [hpl, if_neg (by omega), if_pos ⟨c1', c2'⟩]
      unfold px
      rw [hnx, hpl]
      have k5 : S2.1 162 5 = nI p := (r2.2 162 5 (by dsimp only; omega)).trans (by dsimp only; rw [bz_u_same])
      by_cases hv : (t_nm b N (N - p) p 0).1 ≤ 9999
      · rw [if_pos hv] at k4 htk
        rw [htk]
        exact ⟨k4, fun _ => k7, k5, k6'⟩
      · rw [if_neg hv] at k4 htk
        rw [htk]
        exact ⟨k4, fun z => (by rcases z with z | z <;> cases z), k5, k6'⟩
    · have c32 : b p = 32 := (nI_eq (by omega) (by omega)).mp c
      repeat (first | ((with_reducible apply ap_rc); rfl) | ((with_reducible apply ap_nn)) | ((with_reducible apply ap_rR); rfl) | ((with_reducible apply M_ofOrder); rfl; (exact bz_lit _); omega; (first | omega | decide)) | ((with_reducible apply M_ofRider); rfl; (exact bz_lit _); omega; (first | omega | decide)) | ((with_reducible apply ap_rI); exact kd_ord _ (by omega) _ (by decide)) | ((with_reducible apply ap_wI); exact kd_ord _ (by omega) _ (by decide)) | ((with_reducible apply ap_rI); exact kd_rid _ (by omega) _ (by decide)) | ((with_reducible apply ap_wI); exact kd_rid _ (by omega) _ (by decide)) | ((with_reducible apply ap_rc); exact (kd_clO _ (by omega)).1) | ((with_reducible apply ap_rc); exact (kd_clR _ (by omega)).1) | ((with_reducible apply ap_rc); exact (kd_clR _ (by omega)).2.2.1) | ((with_reducible apply ap_rR); exact (kd_ridA _ (by omega)).1) | ((with_reducible apply ap_rN); rfl) | ((with_reducible apply M_in)) | ((with_reducible apply X_isWithin)) | ((with_reducible apply ap_rI); rfl) | ((with_reducible apply ap_wI); rfl) | ((with_reducible apply ap_iA); rfl; (try simp only [bz_lit, pk_mul, nI_add]); rfl; omega) | ((with_reducible apply ap_iW); rfl; (try simp only [bz_lit, pk_mul, nI_add]); rfl; omega))
      rw [h6, ← nI_succ]
      refine g_X6_advance_0 hl _ _ ?_
      have r1 : fr (fun c k => c = 162 ∧ 4 ≤ k) S (bz_u S.1 162 6 (nI (p + 1)), S.2) := fr_u (S := S) (by first | omega | (dsimp only; omega))
      exact ih (p + 1) _ (by omega) (by omega) (tbX_f ht r1 (by intro c k h; first | omega | (dsimp only at h ⊢; omega) | (dsimp only at h; omega) | (dsimp only; omega))) (by dsimp only; rw [bz_u_same]) (fun S' r2 q2 => hP S' (fr_t r1 r2) (px_s hpN c32 q2)) κ hl
theorem X_adv {P : bz_H → Prop} {p : Nat} (hN : N ≤ 80) (hb : ∀ j, b j < 256) (hp : p ≤ N) (ht : tbX S b N) (h6 : S.1 162 6 = nI p) (hP : ∀ S', fr (fun c k => c = 162 ∧ 4 ≤ k) S S' → px S' b N p → P (bz_hp E S')) : bz_cV G l (d + 5) kX6_advance [.inr (some 162)] (bz_hp E S) 0 0 P := m_X6_advance _ _ (X_advance hN hb (N - p) p S rfl hp ht h6 hP)
end TOK
