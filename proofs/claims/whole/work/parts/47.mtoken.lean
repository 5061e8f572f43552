/-! one token: the reference -/
section MTK
variable {G : bz_G} {l : Launch} {d : Nat} {E : Nat × (Nat → Int32)} {S : bz_S} {b : Nat → Nat} {N : Nat}
theorem M_isDigit {P : Int32 → bz_H → Prop} {p : Nat} (hN : N ≤ 80) (hb : ∀ j, b j < 256) (ht : tbM S b N) (hp : p ≤ N) (hP : P (if p < N ∧ 48 ≤ b p ∧ b p ≤ 57 then 1 else 0) (bz_hp E S)) : bz_cI G l (d + 2) kX12_isDigit [.inr (some 186), .inl (nI p)] (bz_hp E S) 0 0 P := by
  refine m_X12_isDigit _ _ _ ?_
  unfold w_X12_isDigit_0
  repeat (first | ((with_reducible apply ap_rc); rfl) | ((with_reducible apply ap_nn)) | ((with_reducible apply ap_rR); rfl) | ((with_reducible apply M_ofOrder); rfl; (exact bz_lit _); omega; (first | omega | decide)) | ((with_reducible apply M_ofRider); rfl; (exact bz_lit _); omega; (first | omega | decide)) | ((with_reducible apply ap_rI); exact kd_ord _ (by omega) _ (by decide)) | ((with_reducible apply ap_wI); exact kd_ord _ (by omega) _ (by decide)) | ((with_reducible apply ap_rI); exact kd_rid _ (by omega) _ (by decide)) | ((with_reducible apply ap_wI); exact kd_rid _ (by omega) _ (by decide)) | ((with_reducible apply ap_rc); exact (kd_clO _ (by omega)).1) | ((with_reducible apply ap_rc); exact (kd_clR _ (by omega)).1) | ((with_reducible apply ap_rc); exact (kd_clR _ (by omega)).2.2.1) | ((with_reducible apply ap_rR); exact (kd_ridA _ (by omega)).1) | ((with_reducible apply ap_rN); rfl) | ((with_reducible apply M_in)) | ((with_reducible apply X_isWithin)) | ((with_reducible apply ap_rI); rfl) | ((with_reducible apply ap_wI); rfl) | ((with_reducible apply ap_iA); rfl; (try simp only [bz_lit, pk_mul, nI_add]); rfl; omega) | ((with_reducible apply ap_iW); rfl; (try simp only [bz_lit, pk_mul, nI_add]); rfl; omega))
  rw [ht.1]
  refine ⟨fun c => ?_, fun c => ?_⟩
  · have := (nI_leI (by omega) (by omega)).mp c
    rw [if_neg (by omega)] at hP
    exact ⟨_, rfl, hP⟩
  · have hpN : p < N := by
      rcases Nat.lt_or_ge p N with z | z
      · exact z
      · exact absurd (nI_le z (by omega)) c
    have hbp := hb p
    repeat (first | ((with_reducible apply ap_rc); rfl) | ((with_reducible apply ap_nn)) | ((with_reducible apply ap_rR); rfl) | ((with_reducible apply M_ofOrder); rfl; (exact bz_lit _); omega; (first | omega | decide)) | ((with_reducible apply M_ofRider); rfl; (exact bz_lit _); omega; (first | omega | decide)) | ((with_reducible apply ap_rI); exact kd_ord _ (by omega) _ (by decide)) | ((with_reducible apply ap_wI); exact kd_ord _ (by omega) _ (by decide)) | ((with_reducible apply ap_rI); exact kd_rid _ (by omega) _ (by decide)) | ((with_reducible apply ap_wI); exact kd_rid _ (by omega) _ (by decide)) | ((with_reducible apply ap_rc); exact (kd_clO _ (by omega)).1) | ((with_reducible apply ap_rc); exact (kd_clR _ (by omega)).1) | ((with_reducible apply ap_rc); exact (kd_clR _ (by omega)).2.2.1) | ((with_reducible apply ap_rR); exact (kd_ridA _ (by omega)).1) | ((with_reducible apply ap_rN); rfl) | ((with_reducible apply M_in)) | ((with_reducible apply X_isWithin)) | ((with_reducible apply ap_rI); rfl) | ((with_reducible apply ap_wI); rfl) | ((with_reducible apply ap_iA); rfl; (try simp only [bz_lit, pk_mul, nI_add]); rfl; omega) | ((with_reducible apply ap_iW); rfl; (try simp only [bz_lit, pk_mul, nI_add]); rfl; omega))
    rw [ht.2 p hpN]
    by_cases h1 : 48 ≤ b p ∧ b p ≤ 57
    · rw [if_pos ⟨hpN, h1.1, h1.2⟩] at hP
      rw [bz_in_1 (v := nI (b p)) (lo := 48) (hi := 57) ⟨nI_nlt (b := 48) h1.1 (by omega), nI_nlt (a := 57) h1.2 (by omega)⟩]
      rw [if_neg (by decide : ¬ (1 : Int32) = 0)]
      exact ⟨_, rfl, hP⟩
    · rw [if_neg (by omega)] at hP
      have hz : bz_in (nI (b p)) 48 57 = 0 := by
        unfold bz_in
        by_cases z : b p < 48
        · rw [if_pos (show nI (b p) < (48 : Int32) from nI_lt (b := 48) z (by decide))]
        · rw [if_neg (show ¬ nI (b p) < (48 : Int32) from nI_nlt (b := 48) (by omega) (by omega)), if_pos (show (57 : Int32) < nI (b p) from nI_lt (a := 57) (by omega) (by omega))]
      rw [hz, if_pos rfl]
      exact ⟨_, rfl, hP⟩
theorem M_next {P : bz_H → Prop} {p : Nat} (hN : N ≤ 80) (hb : ∀ j, b j < 256) (hp : p ≤ N) (ht : tbM S b N) (h6 : S.1 186 17 = nI p) (hP : ∀ S', fr (fun c k => c = 186 ∧ 15 ≤ k ∧ k ≤ 18) S S' → pm S' b N p → P (bz_hp E S')) : bz_cV G l (d + 3) kX12_next [.inr (some 186)] (bz_hp E S) 0 0 P := by
  refine m_X12_next _ _ (fun κ bc bs hl => ?_)
  /- digits -/
  have dig : ∀ (f q p v : Nat) (S1 : bz_S), N - p = f → p ≤ N → v ≤ 99999 → t_nm b N (N - p) p v = t_nm b N (N - q) q 0 → tbM S1 b N → S1.1 186 17 = nI p → (∀ S', fr (fun c k => c = 186 ∧ 15 ≤ k ∧ k ≤ 18) S1 S' → S'.1 186 16 = S1.1 186 16 → S'.1 186 18 = nI (t_nm b N (N - q) q 0).1 → S'.1 186 15 = nI (if (t_nm b N (N - q) q 0).1 ≤ 9999 then 2 else 4) → S'.1 186 17 = nI (t_nm b N (N - q) q 0).2 → P (bz_hp E S')) → bz_J G κ kX12_next (d + 2 + 1) (fun v h' => v = none ∧ P h') bc bs 89 [some (.inr (some 186)), some (.inl (nI v))] [] (bz_hp E S1) := by
    intro f
    induction f with
    | zero =>
      intro q p v S1 hf hp hv hnm ht1 k7 hQ
      refine g_X12_next_89 hl _ _ _ ?_
      unfold w_X12_next_89
      repeat (first | ((with_reducible apply ap_rc); rfl) | ((with_reducible apply ap_nn)) | ((with_reducible apply ap_rR); rfl) | ((with_reducible apply M_ofOrder); rfl; (exact bz_lit _); omega; (first | omega | decide)) | ((with_reducible apply M_ofRider); rfl; (exact bz_lit _); omega; (first | omega | decide)) | ((with_reducible apply ap_rI); exact kd_ord _ (by omega) _ (by decide)) | ((with_reducible apply ap_wI); exact kd_ord _ (by omega) _ (by decide)) | ((with_reducible apply ap_rI); exact kd_rid _ (by omega) _ (by decide)) | ((with_reducible apply ap_wI); exact kd_rid _ (by omega) _ (by decide)) | ((with_reducible apply ap_rc); exact (kd_clO _ (by omega)).1) | ((with_reducible apply ap_rc); exact (kd_clR _ (by omega)).1) | ((with_reducible apply ap_rc); exact (kd_clR _ (by omega)).2.2.1) | ((with_reducible apply ap_rR); exact (kd_ridA _ (by omega)).1) | ((with_reducible apply ap_rN); rfl) | ((with_reducible apply M_in)) | ((with_reducible apply X_isWithin)) | ((with_reducible apply ap_rI); rfl) | ((with_reducible apply ap_wI); rfl) | ((with_reducible apply ap_iA); rfl; (try simp only [bz_lit, pk_mul, nI_add]); rfl; omega) | ((with_reducible apply ap_iW); rfl; (try simp only [bz_lit, pk_mul, nI_add]); rfl; omega))
      rw [k7]
      refine M_isDigit hN hb ht1 hp ?_
      rw [if_neg (by omega)]
      refine ⟨fun _ => ?_, fun c => absurd rfl c⟩
      rw [show N - p = 0 by omega] at hnm
      have hnm' : (v, p) = t_nm b N (N - q) q 0 := hnm
      rw [← hnm'] at hQ
      have hif : (if nI v ≤ 9999 then (2 : Int32) else 4) = nI (if v ≤ 9999 then 2 else 4) := by
        by_cases z : v ≤ 9999
        · rw [if_pos z, if_pos (show nI v ≤ (9999 : Int32) from nI_le (b := 9999) z (by decide))]; rfl
        · rw [if_neg z, if_neg (show ¬ nI v ≤ (9999 : Int32) from nI_ge (a := 9999) (by omega) (by omega))]; rfl
      repeat (first | ((with_reducible apply ap_rc); rfl) | ((with_reducible apply ap_nn)) | ((with_reducible apply ap_rR); rfl) | ((with_reducible apply M_ofOrder); rfl; (exact bz_lit _); omega; (first | omega | decide)) | ((with_reducible apply M_ofRider); rfl; (exact bz_lit _); omega; (first | omega | decide)) | ((with_reducible apply ap_rI); exact kd_ord _ (by omega) _ (by decide)) | ((with_reducible apply ap_wI); exact kd_ord _ (by omega) _ (by decide)) | ((with_reducible apply ap_rI); exact kd_rid _ (by omega) _ (by decide)) | ((with_reducible apply ap_wI); exact kd_rid _ (by omega) _ (by decide)) | ((with_reducible apply ap_rc); exact (kd_clO _ (by omega)).1) | ((with_reducible apply ap_rc); exact (kd_clR _ (by omega)).1) | ((with_reducible apply ap_rc); exact (kd_clR _ (by omega)).2.2.1) | ((with_reducible apply ap_rR); exact (kd_ridA _ (by omega)).1) | ((with_reducible apply ap_rN); rfl) | ((with_reducible apply M_in)) | ((with_reducible apply X_isWithin)) | ((with_reducible apply ap_rI); rfl) | ((with_reducible apply ap_wI); rfl) | ((with_reducible apply ap_iA); rfl; (try simp only [bz_lit, pk_mul, nI_add]); rfl; omega) | ((with_reducible apply ap_iW); rfl; (try simp only [bz_lit, pk_mul, nI_add]); rfl; omega))
      refine ⟨(by first | rfl | trivial), hQ _ (fr_v (fr_v (fr_0 _ S1) (by first | omega | (dsimp only; omega))) (by first | omega | (dsimp only; omega))) ?_ ?_ ?_ ?_⟩
      · simp (disch := omega) only [bz_u_same, bz_u_ne]
      · simp (disch := omega) only [bz_u_same, bz_u_ne]
      · dsimp only
        rw [bz_u_same, hif]
      · simp (disch := omega) only [bz_u_same, bz_u_ne]
        exact k7
    | succ f ih =>
      intro q p v S1 hf hp hv hnm ht1 k7 hQ
      have hpN : p < N := by omega
      have hbp := hb p
      refine g_X12_next_89 hl _ _ _ ?_
      unfold w_X12_next_89
      repeat (first | ((with_reducible apply ap_rc); rfl) | ((with_reducible apply ap_nn)) | ((with_reducible apply ap_rR); rfl) | ((with_reducible apply M_ofOrder); rfl; (exact bz_lit _); omega; (first | omega | decide)) | ((with_reducible apply M_ofRider); rfl; (exact bz_lit _); omega; (first | omega | decide)) | ((with_reducible apply ap_rI); exact kd_ord _ (by omega) _ (by decide)) | ((with_reducible apply ap_wI); exact kd_ord _ (by omega) _ (by decide)) | ((with_reducible apply ap_rI); exact kd_rid _ (by omega) _ (by decide)) | ((with_reducible apply ap_wI); exact kd_rid _ (by omega) _ (by decide)) | ((with_reducible apply ap_rc); exact (kd_clO _ (by omega)).1) | ((with_reducible apply ap_rc); exact (kd_clR _ (by omega)).1) | ((with_reducible apply ap_rc); exact (kd_clR _ (by omega)).2.2.1) | ((with_reducible apply ap_rR); exact (kd_ridA _ (by omega)).1) | ((with_reducible apply ap_rN); rfl) | ((with_reducible apply M_in)) | ((with_reducible apply X_isWithin)) | ((with_reducible apply ap_rI); rfl) | ((with_reducible apply ap_wI); rfl) | ((with_reducible apply ap_iA); rfl; (try simp only [bz_lit, pk_mul, nI_add]); rfl; omega) | ((with_reducible apply ap_iW); rfl; (try simp only [bz_lit, pk_mul, nI_add]); rfl; omega))
      rw [k7]
      refine M_isDigit hN hb ht1 hp ?_
      by_cases hd : 48 ≤ b p ∧ b p ≤ 57
      · rw [if_pos ⟨hpN, hd.1, hd.2⟩]
        rw [show N - p = N - (p + 1) + 1 by omega, t_nm, if_pos ⟨hpN, hd.1, hd.2⟩] at hnm
        refine ⟨fun c => absurd c (by decide), fun _ => ⟨fun c => ?_, fun c => ?_⟩⟩
        · have cv : v ≤ 9999 := (nI_leI (b := 9999) (by omega) (by omega)).mp c
          rw [if_pos cv] at hnm
          repeat (first | ((with_reducible apply ap_rc); rfl) | ((with_reducible apply ap_nn)) | ((with_reducible apply ap_rR); rfl) | ((with_reducible apply M_ofOrder); rfl; (exact bz_lit _); omega; (first | omega | decide)) | ((with_reducible apply M_ofRider); rfl; (exact bz_lit _); omega; (first | omega | decide)) | ((with_reducible apply ap_rI); exact kd_ord _ (by omega) _ (by decide)) | ((with_reducible apply ap_wI); exact kd_ord _ (by omega) _ (by decide)) | ((with_reducible apply ap_rI); exact kd_rid _ (by omega) _ (by decide)) | ((with_reducible apply ap_wI); exact kd_rid _ (by omega) _ (by decide)) | ((with_reducible apply ap_rc); exact (kd_clO _ (by omega)).1) | ((with_reducible apply ap_rc); exact (kd_clR _ (by omega)).1) | ((with_reducible apply ap_rc); exact (kd_clR _ (by omega)).2.2.1) | ((with_reducible apply ap_rR); exact (kd_ridA _ (by omega)).1) | ((with_reducible apply ap_rN); rfl) | ((with_reducible apply M_in)) | ((with_reducible apply X_isWithin)) | ((with_reducible apply ap_rI); rfl) | ((with_reducible apply ap_wI); rfl) | ((with_reducible apply ap_iA); rfl; (try simp only [bz_lit, pk_mul, nI_add]); rfl; omega) | ((with_reducible apply ap_iW); rfl; (try simp only [bz_lit, pk_mul, nI_add]); rfl; omega))
          rw [k7]
          repeat (first | ((with_reducible apply ap_rc); rfl) | ((with_reducible apply ap_nn)) | ((with_reducible apply ap_rR); rfl) | ((with_reducible apply M_ofOrder); rfl; (exact bz_lit _); omega; (first | omega | decide)) | ((with_reducible apply M_ofRider); rfl; (exact bz_lit _); omega; (first | omega | decide)) | ((with_reducible apply ap_rI); exact kd_ord _ (by omega) _ (by decide)) | ((with_reducible apply ap_wI); exact kd_ord _ (by omega) _ (by decide)) | ((with_reducible apply ap_rI); exact kd_rid _ (by omega) _ (by decide)) | ((with_reducible apply ap_wI); exact kd_rid _ (by omega) _ (by decide)) | ((with_reducible apply ap_rc); exact (kd_clO _ (by omega)).1) | ((with_reducible apply ap_rc); exact (kd_clR _ (by omega)).1) | ((with_reducible apply ap_rc); exact (kd_clR _ (by omega)).2.2.1) | ((with_reducible apply ap_rR); exact (kd_ridA _ (by omega)).1) | ((with_reducible apply ap_rN); rfl) | ((with_reducible apply M_in)) | ((with_reducible apply X_isWithin)) | ((with_reducible apply ap_rI); rfl) | ((with_reducible apply ap_wI); rfl) | ((with_reducible apply ap_iA); rfl; (try simp only [bz_lit, pk_mul, nI_add]); rfl; omega) | ((with_reducible apply ap_iW); rfl; (try simp only [bz_lit, pk_mul, nI_add]); rfl; omega))
          rw [ht1.2 p hpN, k7, ← nI_succ]
          have ev : (10 : Int32) * nI v + nI (b p) - 48 = nI (10 * v + b p - 48) := by
            rw [show (10 : Int32) = nI 10 from rfl, pk_mul, nI_add, show (48 : Int32) = nI 48 from rfl, pk_sub (by omega)]
          rw [ev]
          have r1 : fr (fun c k => c = 186 ∧ k = 17) S1 (bz_u S1.1 186 17 (nI (p + 1)), S1.2) := fr_u (S := S1) (by first | omega | (dsimp only; omega))
          refine ih q (p + 1) _ _ (by omega) (by omega) (by omega) hnm (tbM_f ht1 r1 (by intro c k h; first | omega | (dsimp only at h ⊢; omega) | (dsimp only at h; omega) | (dsimp only; omega))) (by dsimp only; rw [bz_u_same]) (fun S' r2 g1 g2 g3 g4 => hQ S' (fr_t (fr_m r1 (by intro c k h; first | omega | (dsimp only at h ⊢; omega) | (dsimp only at h; omega) | (dsimp only; omega))) r2) ?_ g2 g3 g4)
          rw [g1]
          simp (disch := omega) only [bz_u_same, bz_u_ne]
        · have cv : ¬ v ≤ 9999 := fun z => c (nI_le (b := 9999) z (by decide))
          rw [if_neg cv] at hnm
          repeat (first | ((with_reducible apply ap_rc); rfl) | ((with_reducible apply ap_nn)) | ((with_reducible apply ap_rR); rfl) | ((with_reducible apply M_ofOrder); rfl; (exact bz_lit _); omega; (first | omega | decide)) | ((with_reducible apply M_ofRider); rfl; (exact bz_lit _); omega; (first | omega | decide)) | ((with_reducible apply ap_rI); exact kd_ord _ (by omega) _ (by decide)) | ((with_reducible apply ap_wI); exact kd_ord _ (by omega) _ (by decide)) | ((with_reducible apply ap_rI); exact kd_rid _ (by omega) _ (by decide)) | ((with_reducible apply ap_wI); exact kd_rid _ (by omega) _ (by decide)) | ((with_reducible apply ap_rc); exact (kd_clO _ (by omega)).1) | ((with_reducible apply ap_rc); exact (kd_clR _ (by omega)).1) | ((with_reducible apply ap_rc); exact (kd_clR _ (by omega)).2.2.1) | ((with_reducible apply ap_rR); exact (kd_ridA _ (by omega)).1) | ((with_reducible apply ap_rN); rfl) | ((with_reducible apply M_in)) | ((with_reducible apply X_isWithin)) | ((with_reducible apply ap_rI); rfl) | ((with_reducible apply ap_wI); rfl) | ((with_reducible apply ap_iA); rfl; (try simp only [bz_lit, pk_mul, nI_add]); rfl; omega) | ((with_reducible apply ap_iW); rfl; (try simp only [bz_lit, pk_mul, nI_add]); rfl; omega))
          rw [k7, ← nI_succ]
          have r1 : fr (fun c k => c = 186 ∧ k = 17) S1 (bz_u S1.1 186 17 (nI (p + 1)), S1.2) := fr_u (S := S1) (by first | omega | (dsimp only; omega))
          refine ih q (p + 1) _ _ (by omega) (by omega) hv hnm (tbM_f ht1 r1 (by intro c k h; first | omega | (dsimp only at h ⊢; omega) | (dsimp only at h; omega) | (dsimp only; omega))) (by dsimp only; rw [bz_u_same]) (fun S' r2 g1 g2 g3 g4 => hQ S' (fr_t (fr_m r1 (by intro c k h; first | omega | (dsimp only at h ⊢; omega) | (dsimp only at h; omega) | (dsimp only; omega))) r2) ?_ g2 g3 g4)
          rw [g1]
          simp (disch := omega) only [bz_u_same, bz_u_ne]
      · rw [if_neg (by omega)]
        rw [show N - p = N - (p + 1) + 1 by omega, t_nm, if_neg (by omega)] at hnm
        refine ⟨fun _ => ?_, fun c => absurd rfl c⟩
        rw [← hnm] at hQ
        have hif : (if nI v ≤ 9999 then (2 : Int32) else 4) = nI (if v ≤ 9999 then 2 else 4) := by
          by_cases z : v ≤ 9999
          · rw [if_pos z, if_pos (show nI v ≤ (9999 : Int32) from nI_le (b := 9999) z (by decide))]; rfl
          · rw [if_neg z, if_neg (show ¬ nI v ≤ (9999 : Int32) from nI_ge (a := 9999) (by omega) (by omega))]; rfl
        repeat (first | ((with_reducible apply ap_rc); rfl) | ((with_reducible apply ap_nn)) | ((with_reducible apply ap_rR); rfl) | ((with_reducible apply M_ofOrder); rfl; (exact bz_lit _); omega; (first | omega | decide)) | ((with_reducible apply M_ofRider); rfl; (exact bz_lit _); omega; (first | omega | decide)) | ((with_reducible apply ap_rI); exact kd_ord _ (by omega) _ (by decide)) | ((with_reducible apply ap_wI); exact kd_ord _ (by omega) _ (by decide)) | ((with_reducible apply ap_rI); exact kd_rid _ (by omega) _ (by decide)) | ((with_reducible apply ap_wI); exact kd_rid _ (by omega) _ (by decide)) | ((with_reducible apply ap_rc); exact (kd_clO _ (by omega)).1) | ((with_reducible apply ap_rc); exact (kd_clR _ (by omega)).1) | ((with_reducible apply ap_rc); exact (kd_clR _ (by omega)).2.2.1) | ((with_reducible apply ap_rR); exact (kd_ridA _ (by omega)).1) | ((with_reducible apply ap_rN); rfl) | ((with_reducible apply M_in)) | ((with_reducible apply X_isWithin)) | ((with_reducible apply ap_rI); rfl) | ((with_reducible apply ap_wI); rfl) | ((with_reducible apply ap_iA); rfl; (try simp only [bz_lit, pk_mul, nI_add]); rfl; omega) | ((with_reducible apply ap_iW); rfl; (try simp only [bz_lit, pk_mul, nI_add]); rfl; omega))
        refine ⟨(by first | rfl | trivial), hQ _ (fr_v (fr_v (fr_0 _ S1) (by first | omega | (dsimp only; omega))) (by first | omega | (dsimp only; omega))) ?_ ?_ ?_ ?_⟩
        · simp (disch := omega) only [bz_u_same, bz_u_ne]
        · simp (disch := omega) only [bz_u_same, bz_u_ne]
        · dsimp only
          rw [bz_u_same, hif]
        · simp (disch := omega) only [bz_u_same, bz_u_ne]
          exact k7
  /- behind the spaces -/
  have core : ∀ (p : Nat) (S1 : bz_S) (u1 : Option bz_V), p ≤ N → t_pl b N p = p → tbM S1 b N → S1.1 186 17 = nI p → (∀ S', fr (fun c k => c = 186 ∧ 15 ≤ k ∧ k ≤ 18) S1 S' → pm S' b N p → P (bz_hp E S')) → bz_J G κ kX12_next (d + 2 + 1) (fun v h' => v = none ∧ P h') bc bs 38 [some (.inr (some 186)), u1] [] (bz_hp E S1) := by
    intro p S1 u1 hp hpl ht1 k7 hQ
    refine g_X12_next_38 hl _ _ _ ?_
    unfold w_X12_next_38
    repeat (first | ((with_reducible apply ap_rc); rfl) | ((with_reducible apply ap_nn)) | ((with_reducible apply ap_rR); rfl) | ((with_reducible apply M_ofOrder); rfl; (exact bz_lit _); omega; (first | omega | decide)) | ((with_reducible apply M_ofRider); rfl; (exact bz_lit _); omega; (first | omega | decide)) | ((with_reducible apply ap_rI); exact kd_ord _ (by omega) _ (by decide)) | ((with_reducible apply ap_wI); exact kd_ord _ (by omega) _ (by decide)) | ((with_reducible apply ap_rI); exact kd_rid _ (by omega) _ (by decide)) | ((with_reducible apply ap_wI); exact kd_rid _ (by omega) _ (by decide)) | ((with_reducible apply ap_rc); exact (kd_clO _ (by omega)).1) | ((with_reducible apply ap_rc); exact (kd_clR _ (by omega)).1) | ((with_reducible apply ap_rc); exact (kd_clR _ (by omega)).2.2.1) | ((with_reducible apply ap_rR); exact (kd_ridA _ (by omega)).1) | ((with_reducible apply ap_rN); rfl) | ((with_reducible apply M_in)) | ((with_reducible apply X_isWithin)) | ((with_reducible apply ap_rI); rfl) | ((with_reducible apply ap_wI); rfl) | ((with_reducible apply ap_iA); rfl; (try simp only [bz_lit, pk_mul, nI_add]); rfl; omega) | ((with_reducible apply ap_iW); rfl; (try simp only [bz_lit, pk_mul, nI_add]); rfl; omega))
    dsimp only
    simp (disch := omega) only [bz_u_ne, bz_u_same]
    rw [k7, ht1.1]
    refine ⟨fun c => ?_, fun c => ?_⟩
    · have hpN : p < N := by
        rcases Nat.lt_or_ge p N with z | z
        · exact z
        · exact absurd (by rw [show p = N by omega]) c
      have hbp := hb p
      repeat (first | ((with_reducible apply ap_rc); rfl) | ((with_reducible apply ap_nn)) | ((with_reducible apply ap_rR); rfl) | ((with_reducible apply M_ofOrder); rfl; (exact bz_lit _); omega; (first | omega | decide)) | ((with_reducible apply M_ofRider); rfl; (exact bz_lit _); omega; (first | omega | decide)) | ((with_reducible apply ap_rI); exact kd_ord _ (by omega) _ (by decide)) | ((with_reducible apply ap_wI); exact kd_ord _ (by omega) _ (by decide)) | ((with_reducible apply ap_rI); exact kd_rid _ (by omega) _ (by decide)) | ((with_reducible apply ap_wI); exact kd_rid _ (by omega) _ (by decide)) | ((with_reducible apply ap_rc); exact (kd_clO _ (by omega)).1) | ((with_reducible apply ap_rc); exact (kd_clR _ (by omega)).1) | ((with_reducible apply ap_rc); exact (kd_clR _ (by omega)).2.2.1) | ((with_reducible apply ap_rR); exact (kd_ridA _ (by omega)).1) | ((with_reducible apply ap_rN); rfl) | ((with_reducible apply M_in)) | ((with_reducible apply X_isWithin)) | ((with_reducible apply ap_rI); rfl) | ((with_reducible apply ap_wI); rfl) | ((with_reducible apply ap_iA); rfl; (try simp only [bz_lit, pk_mul, nI_add]); rfl; omega) | ((with_reducible apply ap_iW); rfl; (try simp only [bz_lit, pk_mul, nI_add]); rfl; omega))
      try simp (disch := omega) only [bz_u_ne, bz_u_same]
      repeat (first | ((with_reducible apply ap_rc); rfl) | ((with_reducible apply ap_nn)) | ((with_reducible apply ap_rR); rfl) | ((with_reducible apply M_ofOrder); rfl; (exact bz_lit _); omega; (first | omega | decide)) | ((with_reducible apply M_ofRider); rfl; (exact bz_lit _); omega; (first | omega | decide)) | ((with_reducible apply ap_rI); exact kd_ord _ (by omega) _ (by decide)) | ((with_reducible apply ap_wI); exact kd_ord _ (by omega) _ (by decide)) | ((with_reducible apply ap_rI); exact kd_rid _ (by omega) _ (by decide)) | ((with_reducible apply ap_wI); exact kd_rid _ (by omega) _ (by decide)) | ((with_reducible apply ap_rc); exact (kd_clO _ (by omega)).1) | ((with_reducible apply ap_rc); exact (kd_clR _ (by omega)).1) | ((with_reducible apply ap_rc); exact (kd_clR _ (by omega)).2.2.1) | ((with_reducible apply ap_rR); exact (kd_ridA _ (by omega)).1) | ((with_reducible apply ap_rN); rfl) | ((with_reducible apply M_in)) | ((with_reducible apply X_isWithin)) | ((with_reducible apply ap_rI); rfl) | ((with_reducible apply ap_wI); rfl) | ((with_reducible apply ap_iA); rfl; (try simp only [bz_lit, pk_mul, nI_add]); rfl; omega) | ((with_reducible apply ap_iW); rfl; (try simp only [bz_lit, pk_mul, nI_add]); rfl; omega))
      try simp (disch := omega) only [bz_u_ne, bz_u_same]
      rw [ht1.2 p hpN]
      have r1 : fr (fun c k => c = 186 ∧ (k = 16 ∨ k = 18)) S1 (bz_u (bz_u S1.1 186 16 (nI p)) 186 18 (nI (b p)), S1.2) := fr_v (fr_v (fr_0 _ S1) (by first | omega | (dsimp only; omega))) (by first | omega | (dsimp only; omega))
      have ht2 := tbM_f ht1 r1 (by intro c k h; first | omega | (dsimp only at h ⊢; omega) | (dsimp only at h; omega) | (dsimp only; omega))
      refine M_isDigit hN hb ht2 hp ?_
      by_cases hd : 48 ≤ b p ∧ b p ≤ 57
      · rw [if_pos ⟨hpN, hd.1, hd.2⟩]
        refine ⟨fun c => absurd c (by decide), fun _ => ?_⟩
        have hnx : t_nx b N p = (t_nm b N (N - p) p 0).2 := by
          unfold t_nx
          rw [hpl, if_neg (by omega), if_pos hd]
        have htk : t_tk b N p = if (t_nm b N (N - p) p 0).1 ≤ 9999 then (2, (t_nm b N (N - p) p 0).1) else (1, 0) := by
          unfold t_tk
          rw [hpl, if_neg (by omega), if_pos hd]
        refine dig (N - p) p p 0 _ rfl hp (by decide) rfl ht2 (by simp (disch := omega) only [bz_u_same, bz_u_ne]; exact k7) (fun S' r2 g1 g2 g3 g4 => hQ S' (fr_t (fr_m r1 (by intro c k h; first | omega | (dsimp only at h ⊢; omega) | (dsimp only at h; omega) | (dsimp only; omega))) r2) ?_)
        unfold pm
        rw [hnx, hpl]
        have g1' : S'.1 186 16 = nI p := by
          rw [g1]
          simp (disch := omega) only [bz_u_same, bz_u_ne]
        by_cases hv : (t_nm b N (N - p) p 0).1 ≤ 9999
        · rw [if_pos hv] at g3 htk
          rw [htk]
          exact ⟨g3, fun _ => g2, fun z => (by cases z), g1', g4⟩
        · rw [if_neg hv] at g3 htk
          rw [htk]
          exact ⟨g3, fun z => (by rcases z with z | z <;> cases z), fun z => (by cases z), g1', g4⟩
      · rw [if_neg (by omega)]
        refine ⟨fun _ => ?_, fun c => absurd rfl c⟩
        have hnx : t_nx b N p = p + 1 := by
          unfold t_nx
          rw [hpl, if_neg (by omega), if_neg hd]
        have htk : t_tk b N p = if t_ni (b p) < 7 then (3, 10000 + t_ni (b p)) else if b p = 43 ∨ b p = 45 ∨ b p = 42 ∨ b p = 47 ∨ b p = 40 ∨ b p = 41 ∨ b p = 60 ∨ b p = 61 then (4, b p) else (1, 0) := by
          unfold t_tk
          rw [hpl, if_neg (by omega), if_neg hd]
        unfold pm at hQ
        rw [hnx, hpl] at hQ
        repeat (first | ((with_reducible apply ap_rc); rfl) | ((with_reducible apply ap_nn)) | ((with_reducible apply ap_rR); rfl) | ((with_reducible apply M_ofOrder); rfl; (exact bz_lit _); omega; (first | omega | decide)) | ((with_reducible apply M_ofRider); rfl; (exact bz_lit _); omega; (first | omega | decide)) | ((with_reducible apply ap_rI); exact kd_ord _ (by omega) _ (by decide)) | ((with_reducible apply ap_wI); exact kd_ord _ (by omega) _ (by decide)) | ((with_reducible apply ap_rI); exact kd_rid _ (by omega) _ (by decide)) | ((with_reducible apply ap_wI); exact kd_rid _ (by omega) _ (by decide)) | ((with_reducible apply ap_rc); exact (kd_clO _ (by omega)).1) | ((with_reducible apply ap_rc); exact (kd_clR _ (by omega)).1) | ((with_reducible apply ap_rc); exact (kd_clR _ (by omega)).2.2.1) | ((with_reducible apply ap_rR); exact (kd_ridA _ (by omega)).1) | ((with_reducible apply ap_rN); rfl) | ((with_reducible apply M_in)) | ((with_reducible apply X_isWithin)) | ((with_reducible apply ap_rI); rfl) | ((with_reducible apply ap_wI); rfl) | ((with_reducible apply ap_iA); rfl; (try simp only [bz_lit, pk_mul, nI_add]); rfl; omega) | ((with_reducible apply ap_iW); rfl; (try simp only [bz_lit, pk_mul, nI_add]); rfl; omega))
        dsimp only
        simp (disch := omega) only [bz_u_ne, bz_u_same]
        rw [k7, ← nI_succ]
        refine M_isName ?_
        rw [(nmI_e (b p) hbp).1]
        by_cases hn : t_ni (b p) < 7
        · rw [if_pos hn] at htk ⊢
          rw [htk] at hQ
          refine ⟨fun z => absurd z (by decide), fun _ => ?_⟩
          repeat (first | ((with_reducible apply ap_rc); rfl) | ((with_reducible apply ap_nn)) | ((with_reducible apply ap_rR); rfl) | ((with_reducible apply M_ofOrder); rfl; (exact bz_lit _); omega; (first | omega | decide)) | ((with_reducible apply M_ofRider); rfl; (exact bz_lit _); omega; (first | omega | decide)) | ((with_reducible apply ap_rI); exact kd_ord _ (by omega) _ (by decide)) | ((with_reducible apply ap_wI); exact kd_ord _ (by omega) _ (by decide)) | ((with_reducible apply ap_rI); exact kd_rid _ (by omega) _ (by decide)) | ((with_reducible apply ap_wI); exact kd_rid _ (by omega) _ (by decide)) | ((with_reducible apply ap_rc); exact (kd_clO _ (by omega)).1) | ((with_reducible apply ap_rc); exact (kd_clR _ (by omega)).1) | ((with_reducible apply ap_rc); exact (kd_clR _ (by omega)).2.2.1) | ((with_reducible apply ap_rR); exact (kd_ridA _ (by omega)).1) | ((with_reducible apply ap_rN); rfl) | ((with_reducible apply M_in)) | ((with_reducible apply X_isWithin)) | ((with_reducible apply ap_rI); rfl) | ((with_reducible apply ap_wI); rfl) | ((with_reducible apply ap_iA); rfl; (try simp only [bz_lit, pk_mul, nI_add]); rfl; omega) | ((with_reducible apply ap_iW); rfl; (try simp only [bz_lit, pk_mul, nI_add]); rfl; omega))
          refine ⟨(by first | rfl | trivial), hQ _ (fr_v (fr_v (fr_v (fr_v (fr_0 _ S1) (by first | omega | (dsimp only; omega))) (by first | omega | (dsimp only; omega))) (by first | omega | (dsimp only; omega))) (by first | omega | (dsimp only; omega))) ⟨?_, fun z => ?_, fun _ => ?_, ?_, ?_⟩⟩
          · simp (disch := omega) only [bz_u_same, bz_u_ne]
            rfl
          · rcases z with z | z <;> cases z
          · simp (disch := omega) only [bz_u_same, bz_u_ne]
            rw [show 10000 + t_ni (b p) - 10000 = t_ni (b p) by omega, (nmI_e (b p) hbp).2 hn]
          · simp (disch := omega) only [bz_u_same, bz_u_ne]
          · simp (disch := omega) only [bz_u_same, bz_u_ne]
        · rw [if_neg hn] at htk ⊢
          refine ⟨fun _ => ?_, fun z => absurd rfl z⟩
          repeat (first | ((with_reducible apply ap_rc); rfl) | ((with_reducible apply ap_nn)) | ((with_reducible apply ap_rR); rfl) | ((with_reducible apply M_ofOrder); rfl; (exact bz_lit _); omega; (first | omega | decide)) | ((with_reducible apply M_ofRider); rfl; (exact bz_lit _); omega; (first | omega | decide)) | ((with_reducible apply ap_rI); exact kd_ord _ (by omega) _ (by decide)) | ((with_reducible apply ap_wI); exact kd_ord _ (by omega) _ (by decide)) | ((with_reducible apply ap_rI); exact kd_rid _ (by omega) _ (by decide)) | ((with_reducible apply ap_wI); exact kd_rid _ (by omega) _ (by decide)) | ((with_reducible apply ap_rc); exact (kd_clO _ (by omega)).1) | ((with_reducible apply ap_rc); exact (kd_clR _ (by omega)).1) | ((with_reducible apply ap_rc); exact (kd_clR _ (by omega)).2.2.1) | ((with_reducible apply ap_rR); exact (kd_ridA _ (by omega)).1) | ((with_reducible apply ap_rN); rfl) | ((with_reducible apply M_in)) | ((with_reducible apply X_isWithin)) | ((with_reducible apply ap_rI); rfl) | ((with_reducible apply ap_wI); rfl) | ((with_reducible apply ap_iA); rfl; (try simp only [bz_lit, pk_mul, nI_add]); rfl; omega) | ((with_reducible apply ap_iW); rfl; (try simp only [bz_lit, pk_mul, nI_add]); rfl; omega))
          dsimp only
          simp (disch := omega) only [bz_u_ne, bz_u_same]
          refine M_isSignByte ?_
          rw [sgI_e (b p) hbp]
          by_cases hs : b p = 43 ∨ b p = 45 ∨ b p = 42 ∨ b p = 47 ∨ b p = 40 ∨ b p = 41 ∨ b p = 60 ∨ b p = 61
          · rw [if_pos hs] at htk ⊢
            rw [htk] at hQ
            rw [if_neg (by decide : ¬ (1 : Int32) = 0)]
            repeat (first | ((with_reducible apply ap_rc); rfl) | ((with_reducible apply ap_nn)) | ((with_reducible apply ap_rR); rfl) | ((with_reducible apply M_ofOrder); rfl; (exact bz_lit _); omega; (first | omega | decide)) | ((with_reducible apply M_ofRider); rfl; (exact bz_lit _); omega; (first | omega | decide)) | ((with_reducible apply ap_rI); exact kd_ord _ (by omega) _ (by decide)) | ((with_reducible apply ap_wI); exact kd_ord _ (by omega) _ (by decide)) | ((with_reducible apply ap_rI); exact kd_rid _ (by omega) _ (by decide)) | ((with_reducible apply ap_wI); exact kd_rid _ (by omega) _ (by decide)) | ((with_reducible apply ap_rc); exact (kd_clO _ (by omega)).1) | ((with_reducible apply ap_rc); exact (kd_clR _ (by omega)).1) | ((with_reducible apply ap_rc); exact (kd_clR _ (by omega)).2.2.1) | ((with_reducible apply ap_rR); exact (kd_ridA _ (by omega)).1) | ((with_reducible apply ap_rN); rfl) | ((with_reducible apply M_in)) | ((with_reducible apply X_isWithin)) | ((with_reducible apply ap_rI); rfl) | ((with_reducible apply ap_wI); rfl) | ((with_reducible apply ap_iA); rfl; (try simp only [bz_lit, pk_mul, nI_add]); rfl; omega) | ((with_reducible apply ap_iW); rfl; (try simp only [bz_lit, pk_mul, nI_add]); rfl; omega))
            refine ⟨(by first | rfl | trivial), hQ _ (fr_v (fr_v (fr_v (fr_v (fr_0 _ S1) (by first | omega | (dsimp only; omega))) (by first | omega | (dsimp only; omega))) (by first | omega | (dsimp only; omega))) (by first | omega | (dsimp only; omega))) ⟨?_, fun _ => ?_, fun z => ?_, ?_, ?_⟩⟩
            · simp (disch := omega) only [bz_u_same, bz_u_ne]
              rfl
            · simp (disch := omega) only [bz_u_same, bz_u_ne]
            · cases z
            · simp (disch := omega) only [bz_u_same, bz_u_ne]
            · simp (disch := omega) only [bz_u_same, bz_u_ne]
          · rw [if_neg hs] at htk ⊢
            rw [htk] at hQ
            rw [if_pos rfl]
            repeat (first | ((with_reducible apply ap_rc); rfl) | ((with_reducible apply ap_nn)) | ((with_reducible apply ap_rR); rfl) | ((with_reducible apply M_ofOrder); rfl; (exact bz_lit _); omega; (first | omega | decide)) | ((with_reducible apply M_ofRider); rfl; (exact bz_lit _); omega; (first | omega | decide)) | ((with_reducible apply ap_rI); exact kd_ord _ (by omega) _ (by decide)) | ((with_reducible apply ap_wI); exact kd_ord _ (by omega) _ (by decide)) | ((with_reducible apply ap_rI); exact kd_rid _ (by omega) _ (by decide)) | ((with_reducible apply ap_wI); exact kd_rid _ (by omega) _ (by decide)) | ((with_reducible apply ap_rc); exact (kd_clO _ (by omega)).1) | ((with_reducible apply ap_rc); exact (kd_clR _ (by omega)).1) | ((with_reducible apply ap_rc); exact (kd_clR _ (by omega)).2.2.1) | ((with_reducible apply ap_rR); exact (kd_ridA _ (by omega)).1) | ((with_reducible apply ap_rN); rfl) | ((with_reducible apply M_in)) | ((with_reducible apply X_isWithin)) | ((with_reducible apply ap_rI); rfl) | ((with_reducible apply ap_wI); rfl) | ((with_reducible apply ap_iA); rfl; (try simp only [bz_lit, pk_mul, nI_add]); rfl; omega) | ((with_reducible apply ap_iW); rfl; (try simp only [bz_lit, pk_mul, nI_add]); rfl; omega))
            refine ⟨(by first | rfl | trivial), hQ _ (fr_v (fr_v (fr_v (fr_v (fr_0 _ S1) (by first | omega | (dsimp only; omega))) (by first | omega | (dsimp only; omega))) (by first | omega | (dsimp only; omega))) (by first | omega | (dsimp only; omega))) ⟨?_, fun z => ?_, fun z => ?_, ?_, ?_⟩⟩
            · simp (disch := omega) only [bz_u_same, bz_u_ne]
              rfl
            · rcases z with z | z <;> cases z
            · cases z
            · simp (disch := omega) only [bz_u_same, bz_u_ne]
            · simp (disch := omega) only [bz_u_same, bz_u_ne]
    · have hpN : p = N := (nI_eq (by omega) (by omega)).mp c
      have htk : t_tk b N p = (0, 0) := by
        unfold t_tk
        rw [hpl, if_pos (by omega)]
      have hnx : t_nx b N p = p := by
        unfold t_nx
        rw [hpl, if_pos (by omega)]
      unfold pm at hQ
      rw [htk, hnx, hpl] at hQ
      repeat (first | ((with_reducible apply ap_rc); rfl) | ((with_reducible apply ap_nn)) | ((with_reducible apply ap_rR); rfl) | ((with_reducible apply M_ofOrder); rfl; (exact bz_lit _); omega; (first | omega | decide)) | ((with_reducible apply M_ofRider); rfl; (exact bz_lit _); omega; (first | omega | decide)) | ((with_reducible apply ap_rI); exact kd_ord _ (by omega) _ (by decide)) | ((with_reducible apply ap_wI); exact kd_ord _ (by omega) _ (by decide)) | ((with_reducible apply ap_rI); exact kd_rid _ (by omega) _ (by decide)) | ((with_reducible apply ap_wI); exact kd_rid _ (by omega) _ (by decide)) | ((with_reducible apply ap_rc); exact (kd_clO _ (by omega)).1) | ((with_reducible apply ap_rc); exact (kd_clR _ (by omega)).1) | ((with_reducible apply ap_rc); exact (kd_clR _ (by omega)).2.2.1) | ((with_reducible apply ap_rR); exact (kd_ridA _ (by omega)).1) | ((with_reducible apply ap_rN); rfl) | ((with_reducible apply M_in)) | ((with_reducible apply X_isWithin)) | ((with_reducible apply ap_rI); rfl) | ((with_reducible apply ap_wI); rfl) | ((with_reducible apply ap_iA); rfl; (try simp only [bz_lit, pk_mul, nI_add]); rfl; omega) | ((with_reducible apply ap_iW); rfl; (try simp only [bz_lit, pk_mul, nI_add]); rfl; omega))
      refine ⟨(by first | rfl | trivial), hQ _ (fr_v (fr_v (fr_0 _ S1) (by first | omega | (dsimp only; omega))) (by first | omega | (dsimp only; omega))) ⟨?_, fun z => ?_, fun z => ?_, ?_, ?_⟩⟩
      · simp (disch := omega) only [bz_u_same, bz_u_ne]
        rfl
      · rcases z with z | z <;> cases z
      · cases z
      · simp (disch := omega) only [bz_u_same, bz_u_ne]
      · simp (disch := omega) only [bz_u_same, bz_u_ne]
        exact k7
  /- spaces -/
  have skip : ∀ (f p : Nat) (S1 : bz_S), N - p = f → p ≤ N → tbM S1 b N → S1.1 186 17 = nI p → (∀ S', fr (fun c k => c = 186 ∧ 15 ≤ k ∧ k ≤ 18) S1 S' → pm S' b N p → P (bz_hp E S')) → w_X12_next_0 G κ l (d + 2) (fun v h' => v = none ∧ P h') bc bs 186 (bz_hp E S1) := by
    intro f
    induction f with
    | zero =>
      intro p S1 hf hp ht1 k7 hQ
      unfold w_X12_next_0
      repeat (first | ((with_reducible apply ap_rc); rfl) | ((with_reducible apply ap_nn)) | ((with_reducible apply ap_rR); rfl) | ((with_reducible apply M_ofOrder); rfl; (exact bz_lit _); omega; (first | omega | decide)) | ((with_reducible apply M_ofRider); rfl; (exact bz_lit _); omega; (first | omega | decide)) | ((with_reducible apply ap_rI); exact kd_ord _ (by omega) _ (by decide)) | ((with_reducible apply ap_wI); exact kd_ord _ (by omega) _ (by decide)) | ((with_reducible apply ap_rI); exact kd_rid _ (by omega) _ (by decide)) | ((with_reducible apply ap_wI); exact kd_rid _ (by omega) _ (by decide)) | ((with_reducible apply ap_rc); exact (kd_clO _ (by omega)).1) | ((with_reducible apply ap_rc); exact (kd_clR _ (by omega)).1) | ((with_reducible apply ap_rc); exact (kd_clR _ (by omega)).2.2.1) | ((with_reducible apply ap_rR); exact (kd_ridA _ (by omega)).1) | ((with_reducible apply ap_rN); rfl) | ((with_reducible apply M_in)) | ((with_reducible apply X_isWithin)) | ((with_reducible apply ap_rI); rfl) | ((with_reducible apply ap_wI); rfl) | ((with_reducible apply ap_iA); rfl; (try simp only [bz_lit, pk_mul, nI_add]); rfl; omega) | ((with_reducible apply ap_iW); rfl; (try simp only [bz_lit, pk_mul, nI_add]); rfl; omega))
      rw [k7, ht1.1]
      exact ⟨fun _ => core p S1 _ hp (t_pl_e (by omega)) ht1 k7 hQ, fun c => absurd (nI_le (by omega) (by omega)) c⟩
    | succ f ih =>
      intro p S1 hf hp ht1 k7 hQ
      have hpN : p < N := by omega
      have hbp := hb p
      unfold w_X12_next_0
      repeat (first | ((with_reducible apply ap_rc); rfl) | ((with_reducible apply ap_nn)) | ((with_reducible apply ap_rR); rfl) | ((with_reducible apply M_ofOrder); rfl; (exact bz_lit _); omega; (first | omega | decide)) | ((with_reducible apply M_ofRider); rfl; (exact bz_lit _); omega; (first | omega | decide)) | ((with_reducible apply ap_rI); exact kd_ord _ (by omega) _ (by decide)) | ((with_reducible apply ap_wI); exact kd_ord _ (by omega) _ (by decide)) | ((with_reducible apply ap_rI); exact kd_rid _ (by omega) _ (by decide)) | ((with_reducible apply ap_wI); exact kd_rid _ (by omega) _ (by decide)) | ((with_reducible apply ap_rc); exact (kd_clO _ (by omega)).1) | ((with_reducible apply ap_rc); exact (kd_clR _ (by omega)).1) | ((with_reducible apply ap_rc); exact (kd_clR _ (by omega)).2.2.1) | ((with_reducible apply ap_rR); exact (kd_ridA _ (by omega)).1) | ((with_reducible apply ap_rN); rfl) | ((with_reducible apply M_in)) | ((with_reducible apply X_isWithin)) | ((with_reducible apply ap_rI); rfl) | ((with_reducible apply ap_wI); rfl) | ((with_reducible apply ap_iA); rfl; (try simp only [bz_lit, pk_mul, nI_add]); rfl; omega) | ((with_reducible apply ap_iW); rfl; (try simp only [bz_lit, pk_mul, nI_add]); rfl; omega))
      rw [k7, ht1.1]
      refine ⟨fun c => absurd ((nI_leI (by omega) (by omega)).mp c) (by omega), fun _ => ?_⟩
      repeat (first | ((with_reducible apply ap_rc); rfl) | ((with_reducible apply ap_nn)) | ((with_reducible apply ap_rR); rfl) | ((with_reducible apply M_ofOrder); rfl; (exact bz_lit _); omega; (first | omega | decide)) | ((with_reducible apply M_ofRider); rfl; (exact bz_lit _); omega; (first | omega | decide)) | ((with_reducible apply ap_rI); exact kd_ord _ (by omega) _ (by decide)) | ((with_reducible apply ap_wI); exact kd_ord _ (by omega) _ (by decide)) | ((with_reducible apply ap_rI); exact kd_rid _ (by omega) _ (by decide)) | ((with_reducible apply ap_wI); exact kd_rid _ (by omega) _ (by decide)) | ((with_reducible apply ap_rc); exact (kd_clO _ (by omega)).1) | ((with_reducible apply ap_rc); exact (kd_clR _ (by omega)).1) | ((with_reducible apply ap_rc); exact (kd_clR _ (by omega)).2.2.1) | ((with_reducible apply ap_rR); exact (kd_ridA _ (by omega)).1) | ((with_reducible apply ap_rN); rfl) | ((with_reducible apply M_in)) | ((with_reducible apply X_isWithin)) | ((with_reducible apply ap_rI); rfl) | ((with_reducible apply ap_wI); rfl) | ((with_reducible apply ap_iA); rfl; (try simp only [bz_lit, pk_mul, nI_add]); rfl; omega) | ((with_reducible apply ap_iW); rfl; (try simp only [bz_lit, pk_mul, nI_add]); rfl; omega))
      rw [k7]
      repeat (first | ((with_reducible apply ap_rc); rfl) | ((with_reducible apply ap_nn)) | ((with_reducible apply ap_rR); rfl) | ((with_reducible apply M_ofOrder); rfl; (exact bz_lit _); omega; (first | omega | decide)) | ((with_reducible apply M_ofRider); rfl; (exact bz_lit _); omega; (first | omega | decide)) | ((with_reducible apply ap_rI); exact kd_ord _ (by omega) _ (by decide)) | ((with_reducible apply ap_wI); exact kd_ord _ (by omega) _ (by decide)) | ((with_reducible apply ap_rI); exact kd_rid _ (by omega) _ (by decide)) | ((with_reducible apply ap_wI); exact kd_rid _ (by omega) _ (by decide)) | ((with_reducible apply ap_rc); exact (kd_clO _ (by omega)).1) | ((with_reducible apply ap_rc); exact (kd_clR _ (by omega)).1) | ((with_reducible apply ap_rc); exact (kd_clR _ (by omega)).2.2.1) | ((with_reducible apply ap_rR); exact (kd_ridA _ (by omega)).1) | ((with_reducible apply ap_rN); rfl) | ((with_reducible apply M_in)) | ((with_reducible apply X_isWithin)) | ((with_reducible apply ap_rI); rfl) | ((with_reducible apply ap_wI); rfl) | ((with_reducible apply ap_iA); rfl; (try simp only [bz_lit, pk_mul, nI_add]); rfl; omega) | ((with_reducible apply ap_iW); rfl; (try simp only [bz_lit, pk_mul, nI_add]); rfl; omega))
      rw [ht1.2 p hpN]
      refine ⟨fun c => core p S1 _ hp (t_pl_n hpN (fun z => c (by rw [z]; rfl))) ht1 k7 hQ, fun c => ?_⟩
      have c32 : b p = 32 := (nI_eq (by omega) (by omega)).mp c
      repeat (first | ((with_reducible apply ap_rc); rfl) | ((with_reducible apply ap_nn)) | ((with_reducible apply ap_rR); rfl) | ((with_reducible apply M_ofOrder); rfl; (exact bz_lit _); omega; (first | omega | decide)) | ((with_reducible apply M_ofRider); rfl; (exact bz_lit _); omega; (first | omega | decide)) | ((with_reducible apply ap_rI); exact kd_ord _ (by omega) _ (by decide)) | ((with_reducible apply ap_wI); exact kd_ord _ (by omega) _ (by decide)) | ((with_reducible apply ap_rI); exact kd_rid _ (by omega) _ (by decide)) | ((with_reducible apply ap_wI); exact kd_rid _ (by omega) _ (by decide)) | ((with_reducible apply ap_rc); exact (kd_clO _ (by omega)).1) | ((with_reducible apply ap_rc); exact (kd_clR _ (by omega)).1) | ((with_reducible apply ap_rc); exact (kd_clR _ (by omega)).2.2.1) | ((with_reducible apply ap_rR); exact (kd_ridA _ (by omega)).1) | ((with_reducible apply ap_rN); rfl) | ((with_reducible apply M_in)) | ((with_reducible apply X_isWithin)) | ((with_reducible apply ap_rI); rfl) | ((with_reducible apply ap_wI); rfl) | ((with_reducible apply ap_iA); rfl; (try simp only [bz_lit, pk_mul, nI_add]); rfl; omega) | ((with_reducible apply ap_iW); rfl; (try simp only [bz_lit, pk_mul, nI_add]); rfl; omega))
      rw [k7, ← nI_succ]
      refine g_X12_next_0 hl _ _ ?_
      have r1 : fr (fun c k => c = 186 ∧ 15 ≤ k ∧ k ≤ 18) S1 (bz_u S1.1 186 17 (nI (p + 1)), S1.2) := fr_u (S := S1) (by first | omega | (dsimp only; omega))
      exact ih (p + 1) _ (by omega) (by omega) (tbM_f ht1 r1 (by intro c k h; first | omega | (dsimp only at h ⊢; omega) | (dsimp only at h; omega) | (dsimp only; omega))) (by dsimp only; rw [bz_u_same]) (fun S' r2 q2 => hQ S' (fr_t r1 r2) (pm_s hpN c32 q2))
  exact skip (N - p) p S rfl hp ht h6 hP
end MTK
