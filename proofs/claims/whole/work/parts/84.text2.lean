/-! the reference's text -/
theorem wl_w (g : Nat → Nat) : ∀ (r : List Nat) (p m : Nat), (∀ i, i < r.length → g (p + i) = r.getD i 0) → wl r (f_dp g p) = some m → ∀ i, i < r.length → (g (p + i) = 10263 → 1 ≤ f_dp g (p + i)) ∧ (10007 ≤ g (p + i) → ¬ g (p + i) = 10263 → 2 ≤ f_dp g (p + i))
  | [], p, m, hg, hw, i, hi => absurd hi (by simp)
  | c :: r, p, m, hg, hw, i, hi => by
    have c0 : g p = c := hg 0 (by simp)
    rw [wl] at hw
    have step : wl r (f_dp g (p + 1)) = some m ∧ (c = 10263 → 1 ≤ f_dp g p) ∧ (10007 ≤ c → ¬ c = 10263 → 2 ≤ f_dp g p) := by
      rw [f_dp, c0]
      by_cases q1 : c < 10007
      · rw [if_pos q1] at hw ⊢
        exact ⟨hw, fun z => by omega, fun z => by omega⟩
      · rw [if_neg q1] at hw ⊢
        by_cases q2 : c = 10263
        · rw [if_pos q2] at hw ⊢
          by_cases q3 : 1 ≤ f_dp g p
          · rw [if_pos q3] at hw
            exact ⟨hw, fun _ => q3, fun _ z => absurd q2 z⟩
          · rw [if_neg q3] at hw
            cases hw
        · rw [if_neg q2] at hw ⊢
          by_cases q3 : 2 ≤ f_dp g p
          · rw [if_pos q3] at hw
            exact ⟨hw, fun z => absurd z q2, fun _ _ => q3⟩
          · rw [if_neg q3] at hw
            cases hw
    cases i with
    | zero =>
      rw [Nat.add_zero, c0]
      exact step.2
    | succ i =>
      have h1 := wl_w g r (p + 1) m (fun j hj => by
        have := hg (j + 1) (by rw [List.length_cons]; omega)
        rw [show p + 1 + j = p + (j + 1) by omega]
        exact this) step.1 i (by rw [List.length_cons] at hi; omega)
      rw [show p + (i + 1) = p + 1 + i by omega]
      exact h1
theorem t_ok_w {b : Nat → Nat} {N : Nat} (hN : N ≤ 80) (h : t_ok b N) : (t_all b N).2.2.length ≤ 80 ∧ wfm (fun k => (t_all b N).2.2.getD k 0) (t_all b N).2.2.length := by
  obtain ⟨h1, -⟩ := h
  have q := t_p_i b N (8 * N + 5) 0 0 0 [] (by decide) (Nat.zero_le _)
  unfold t_all at h1 ⊢
  generalize t_p b N (8 * N + 5) 0 0 0 [] = R at *
  obtain ⟨a1, a2, a3, a4, a5, a6⟩ := q h1
  have a7 := (a6 0 rfl).1 (by decide) (by decide)
  have hl : R.2.2.length ≤ 80 := by
    have : ([] : List Nat).length = 0 := rfl
    omega
  refine ⟨hl, ?_, hl, fun k hk => ?_⟩
  · cases e : R.2.2 with
    | nil => rw [e] at a7; cases a7
    | cons x y => rw [List.length_cons]; omega
  · have w := wl_w (fun k => R.2.2.getD k 0) R.2.2 0 1 (fun i hi => by rw [Nat.zero_add]) a7 k hk
    rw [Nat.zero_add] at w
    refine ⟨?_, w⟩
    refine a5 (fun c hc => absurd hc (by simp)) _ ?_
    show R.2.2.getD k 0 ∈ R.2.2
    rw [List.getD_eq_getElem?_getD, List.getElem?_eq_getElem hk]
    exact List.getElem_mem hk
section MTX
variable {G : bz_G} {κ : bz_K} {l : Launch} {d bc bs : Nat} {E : Nat × (Nat → Int32)}
theorem M_text_l {S0 : bz_S} {F : Option bz_V → bz_H → Prop} {n t : Nat} {x1 : Int32} (hl : κ.2.1 = l) (ht : t < 8) (hn : n ≤ 80) (h20 : S0.1 186 20 = nI n) (hP : ∀ S2 : bz_S, S2.2 = S0.2 → (∀ c k, ¬ c = 187 → S2.1 c k = S0.1 c k) → (∀ i, ¬ i = 4 → ¬ (976 + 165 * t + 1 ≤ i ∧ i < 976 + 165 * t + 1 + 2 * n) → S2.1 187 i = S0.1 187 i) → (∀ j, j < 2 * n → S2.1 187 (976 + 165 * t + 1 + j) = S0.1 194 j) → S2.1 187 4 = S0.1 187 4 + 1 → F (some (.inl (S0.1 187 4 + 1 - 1))) (bz_hp E S2)) : bz_J G κ kX12_text (d + 1) F bc bs 99 [some (.inr (some 186)), some (.inl x1), some (.inl (nI (976 + 165 * t))), some (.inl (nI 0))] [] (bz_hp E S0) := by
  have e2n : (2 : Int32) * nI n = nI (2 * n) := pk_mul 2 n
  have main := bz_for (n := 2 * n) (Q := fun k => ∀ S2 : bz_S, S2.2 = S0.2 → (∀ c j, ¬ c = 187 → S2.1 c j = S0.1 c j) → (∀ i, ¬ (976 + 165 * t + 1 ≤ i ∧ i < 976 + 165 * t + 1 + k) → S2.1 187 i = S0.1 187 i) → (∀ j, j < k → S2.1 187 (976 + 165 * t + 1 + j) = S0.1 194 j) → bz_J G κ kX12_text (d + 1) F bc bs 99 [some (.inr (some 186)), some (.inl x1), some (.inl (nI (976 + 165 * t))), some (.inl (nI k))] [] (bz_hp E S2)) (fun k hk ih S2 e2 f2 g2 v2 => ?_) ?_
  · exact main S0 rfl (fun _ _ _ => rfl) (fun _ _ => rfl) (fun j hj => absurd hj (by omega))
  · refine g_X12_text_99 hl _ _ _ _ _ ?_
    unfold w_X12_text_99
    refine ap_rI rfl ?_
    rw [f2 186 20 (by decide), h20, e2n]
    refine ⟨fun z => absurd ((nI_leI (by omega) (by omega)).mp z) (by omega), fun _ => ?_⟩
    refine ap_rR rfl (ap_rR rfl (ap_nn (ap_iA (i := k) (n := 164) rfl rfl (by omega) (ap_nn (ap_iW (i := 976 + 165 * t + 1 + k) (n := 2296) rfl ?_ (by omega) ?_)))))
    · rw [← nI_succ, nI_add]
    rw [← nI_succ]
    refine ih _ e2 (fun c j hc => ?_) (fun i hi => ?_) (fun j hj => ?_)
    · dsimp only
      rw [bz_u_ne _ _ (Or.inl hc)]
      exact f2 c j hc
    · dsimp only
      rw [bz_u_ne _ _ (by omega)]
      exact g2 i (by omega)
    · dsimp only
      by_cases z : j = k
      · subst z
        rw [bz_u_same]
        exact f2 194 j (by decide)
      · rw [bz_u_ne _ _ (by omega)]
        exact v2 j (by omega)
  intro S2 e2 f2 g2 v2
  refine g_X12_text_99 hl _ _ _ _ _ ?_
  unfold w_X12_text_99
  refine ap_rI rfl ?_
  rw [f2 186 20 (by decide), h20, e2n]
  refine ⟨fun _ => ?_, fun z => absurd (nI_le (Nat.le_refl _) (by omega)) z⟩
  refine ap_rR rfl (ap_nn (ap_iA (i := 4) (n := 2296) rfl rfl (by decide) (ap_iW (i := 4) (n := 2296) rfl rfl (by decide) (ap_rR rfl (ap_nn (ap_iA (i := 4) (n := 2296) rfl rfl (by decide) ?_))))))
  dsimp only
  rw [bz_u_same, g2 4 (by omega)]
  refine hP (bz_u S2.1 187 4 (S0.1 187 4 + 1), S2.2) e2 (fun c k h => ?_) (fun i h4 hi => ?_) (fun j hj => ?_) ?_
  · dsimp only
    rw [bz_u_ne _ _ (by omega)]
    exact f2 c k h
  · dsimp only
    rw [bz_u_ne _ _ (by omega)]
    exact g2 i hi
  · dsimp only
    rw [bz_u_ne _ _ (by omega)]
    exact v2 j hj
  · dsimp only
    rw [bz_u_same]
theorem t_mt_0 : ∀ k, k ≤ 4 → (nI (t_mt k) = 0 ↔ k = 0) := by decide +kernel
theorem M_text {S1 : bz_S} {b : Nat → Nat} {N t : Nat} {P : Int32 → bz_H → Prop} (hN : N ≤ 80) (hb : ∀ j, b j < 256) (hm : tbM S1 b N) (t8 : t < 8) (e4 : S1.1 187 4 = nI t) (hP : ∀ S2 : bz_S, S2.2 = S1.2 → (∀ c k, ¬ ((c = 186 ∧ 14 ≤ k ∧ k ≤ 20) ∨ c = 194 ∨ c = 187) → S2.1 c k = S1.1 c k) → S2.1 186 14 = 0 → (t_ok b N → S2.1 187 4 = nI t + 1 → tg (S2.1 187) t (t_all b N).2.2.length (fun k => (t_all b N).2.2.getD k 0) → (∀ i, ¬ i = 4 → ¬ (976 + 165 * t ≤ i ∧ i < 976 + 165 * t + 165) → S2.1 187 i = S1.1 187 i) → P (nI t + 1 - 1) (bz_hp E S2)) ∧ (¬ t_ok b N → S2.1 187 = S1.1 187 → P (-1 - nI (t_pl b N (t_all b N).2.1)) (bz_hp E S2))) : bz_cI G l (d + 40) kX12_text [.inr (some 186)] (bz_hp E S1) 0 0 P := by
  refine m_X12_text _ _ (fun κ bc bs hl => ?_)
  unfold w_X12_text_0
  refine ap_rR rfl (ap_nn (ap_iA (i := 4) (n := 2296) rfl rfl (by decide) ?_))
  rw [e4]
  refine ⟨fun _ => ?_, fun z => absurd ((nI_eq (by omega) (by decide)).mp (show nI t = nI 8 from z)) (by omega)⟩
  refine ap_wI rfl (ap_wI rfl (ap_wI rfl (ap_rc rfl ?_)))
  have r0 : fr (fun c k => c = 186 ∧ 15 ≤ k ∧ k ≤ 20) S1 (bz_u (bz_u (bz_u S1.1 186 17 0) 186 19 0) 186 20 0, S1.2) := (by repeat (first | exact fr_0 _ _ | exact fr_r _ _ | refine fr_v ?_ (by first | omega | (dsimp only; omega))))
  refine M_next (p := 0) hN hb (Nat.zero_le _) (tbM_f hm r0 (by intro c k h; first | omega | (dsimp only at h ⊢; omega) | (dsimp only at h; omega) | (dsimp only; omega))) (by dsimp only; rw [bz_u_ne _ _ (by omega), bz_u_ne _ _ (by omega), bz_u_same]; rfl) (fun S2 r2 v2 => ?_)
  refine ap_rc rfl ?_
  have r02 : fr MT S1 S2 := fr_t (fr_m r0 (by intro c k h; first | omega | (dsimp only at h ⊢; omega) | (dsimp only at h; omega) | (dsimp only; omega))) (fr_m r2 (by intro c k h; first | omega | (dsimp only at h ⊢; omega) | (dsimp only at h; omega) | (dsimp only; omega)))
  refine (M_all hN hb (8 * N + 5)).2.2.2.2.2 G l E _ S2 0 0 [] _ ⟨tbM_f hm r02 (by intro c k h; first | omega | (dsimp only at h ⊢; omega) | (dsimp only at h; omega) | (dsimp only; omega)), v2, ⟨?_, fun i hi => absurd hi (by simp)⟩, ?_⟩ (Nat.zero_le _) (Nat.zero_le _) (by omega) (by omega) (by omega) (fun S3 r3 tb3 v3 v4 => ?_)
  · rw [r2.2 _ _ (by first | omega | (dsimp only; omega))]
    dsimp only
    rw [bz_u_same]
    rfl
  · rw [r2.2 _ _ (by first | omega | (dsimp only; omega))]
    dsimp only
    rw [bz_u_ne _ _ (by omega), bz_u_same]
    rfl
  have r03 : fr MT S1 S3 := fr_t r02 r3
  have ok : t_ok b N → (t_all b N).2.2.length ≤ 80 := fun h => (t_ok_w hN h).1
  unfold t_ok t_all at hP ok
  generalize t_p b N (8 * N + 5) 0 0 0 [] = R at *
  have hk := (t_tk_k b N R.2.1).2.2
  have fail : ¬ (R.1 = true ∧ (t_tk b N R.2.1).1 = 0) → bz_wI (bz_hp E S3) 186 12 14 0 (fun h_11 => bz_rI h_11 186 12 16 (fun x_19 => ∃ x, (some (.inl ((-1) - x_19)) : Option bz_V) = some (.inl x) ∧ P x h_11)) := by
    intro h
    refine ap_wI rfl (ap_rI rfl ⟨_, rfl, ?_⟩)
    have := (hP (bz_u S3.1 186 14 0, S3.2) r03.1 (fun c k x => ?_) ?_).2 h ?_
    · dsimp only
      rw [bz_u_ne _ _ (by omega), v3.2.2.2.1]
      exact this
    · dsimp only
      rw [bz_u_ne _ _ (by omega)]
      exact r03.2 _ _ (by omega)
    · dsimp only
      rw [bz_u_same]
    · dsimp only
      rw [bz_u_cell _ _ _ (by decide)]
      exact fr_c r03 (fun k => by omega)
  by_cases q : R.1 = true
  · rw [if_pos q]
    refine ⟨fun z => absurd z (by decide), fun _ => ap_rI rfl ?_⟩
    rw [v3.1]
    by_cases q2 : (t_tk b N R.2.1).1 = 0
    · rw [if_pos ((t_mt_0 _ hk).mpr q2)]
      refine ap_wI rfl ⟨fun _ => ?_, fun z => absurd z (by decide)⟩
      obtain ⟨s1, s2⟩ := (v4 q).1
      have hl80 := ok ⟨q, q2⟩
      refine ap_rR rfl (ap_nn (ap_iA (i := 4) (n := 2296) rfl rfl (by decide) (ap_rR rfl (ap_rI rfl (ap_nn ?_)))))
      have e4' : S3.1 187 4 = nI t := (r03.2 _ _ (by omega)).trans e4
      have eB : (976 : Int32) + 165 * nI t = nI (976 + 165 * t) := by
        rw [show (165 : Int32) * nI t = nI (165 * t) from pk_mul 165 t]
        exact nI_add 976 (165 * t)
      dsimp only
      rw [bz_u_ne _ _ (by omega), e4', bz_u_ne _ _ (by omega), s1, eB]
      refine ap_iW (i := 976 + 165 * t) (n := 2296) rfl rfl (by omega) ?_
      refine M_text_l (n := R.2.2.length) hl t8 hl80 ?_ (fun S4 u1 u2 u3 u4 u5 => ?_)
      · dsimp only
        rw [bz_u_ne _ _ (by omega), bz_u_ne _ _ (by omega), s1]
      dsimp only at u1 u2 u3 u4 u5 ⊢
      rw [bz_u_ne _ _ (by omega), bz_u_ne _ _ (by omega), e4'] at u5 ⊢
      refine ⟨_, rfl, (hP S4 (u1.trans r03.1) (fun c k x => ?_) ?_).1 ⟨q, q2⟩ u5 ⟨?_, fun k hk => ⟨?_, ?_⟩⟩ (fun i h4 hi => ?_)⟩
      · rw [u2 c k (by omega), bz_u_ne _ _ (by omega), bz_u_ne _ _ (by omega)]
        exact r03.2 _ _ (by omega)
      · rw [u2 _ _ (by omega), bz_u_ne _ _ (by omega), bz_u_same]
      · rw [u3 _ (by omega) (by omega), bz_u_same]
      · rw [u4 (2 * k) (by omega), bz_u_ne _ _ (by omega), bz_u_ne _ _ (by omega)]
        exact (s2 k hk).1
      · rw [show 976 + 165 * t + 2 + 2 * k = 976 + 165 * t + 1 + (2 * k + 1) by omega, u4 (2 * k + 1) (by omega), bz_u_ne _ _ (by omega), bz_u_ne _ _ (by omega)]
        exact (s2 k hk).2
      · rw [u3 _ h4 (by omega), bz_u_ne _ _ (by omega), bz_u_ne _ _ (by omega)]
        exact r03.2 _ _ (by omega)
    · rw [if_neg (fun z => q2 ((t_mt_0 _ hk).mp z))]
      obtain ⟨fs, y1, y2, y3, y4⟩ := fail (fun z => q2 z.2)
      exact ⟨fs, y1, y2, y3, fun z => absurd rfl z, fun _ => y4⟩
  · rw [if_neg q]
    obtain ⟨fs, y1, y2, y3, y4⟩ := fail (fun z => q z.1)
    exact ⟨fun _ => ⟨fs, y1, y2, y3, fun z => absurd rfl z, fun _ => y4⟩, fun z => absurd rfl z⟩
end MTX
