/-! image and undo -/
theorem gd_c {s s' : Nat → Int32} (h : gd s) (e : ∀ i, i < 976 → s' i = s i) : gd s' := gd_n h (fun i hi h5 h6 => by rw [e i (by omega)]; exact h.1 i hi h5 h6) (fun i hi => e i (by unfold gR at hi; omega))
theorem wo_c {w : Nat → Nat → Int32} {s s' : Nat → Int32} (hg : gd_b s) (h : wo w s) (e : ∀ i, i < 976 → s' i = s i) : wo w s' := by
  have ew : wv (fun c k => w (c - 6) k) 6 = w := by
    funext a k
    show w (6 + a - 6) k = w a k
    rw [show 6 + a - 6 = a by omega]
  have := wo_n2 (S := (fun c k => w (c - 6) k, fun _ _ => none, [])) (S1 := (fun c k => w (c - 6) k, fun _ _ => none, [])) (s := s) (s' := s') hg (by rw [ew]; exact h) (fr_r _ _) (by rw [ew]; exact fun i hi a k hc => by rw [e i hi]; exact h.1 i hi a k hc) (fun i hi => e i (by unfold dR at hi; omega))
  rw [ew] at this
  exact this
theorem tx_c {q q' : Nat → Option Nat} {T : List (Nat × (Nat → Int32))} {s s' : Nat → Int32} (hg : gd_b s) (h : tx q T s) (eq : ∀ t, t < 8 → q' t = q t) (e : ∀ i, i < 2296 → s' i = s i) : tx q' T s' := by
  intro t ht
  rw [e 4 (by decide)] at ht
  have := (n_lt hg).2.2.1
  obtain ⟨i, n, fu, g, q1, q2, q3, q4, q5⟩ := h t ht
  have := q4.2.1
  refine ⟨i, n, fu, g, by rw [eq t (by omega)]; exact q1, q2, q3, q4, ?_⟩
  unfold tg at q5 ⊢
  rw [e _ (by omega)]
  exact ⟨q5.1, fun k hk => by rw [e _ (by omega), e _ (by omega)]; exact q5.2 k hk⟩
theorem wd_c {S S' : bz_S} {B B' c c' : Nat} {s s' : Nat → Int32} (h : wd S B c s) (ew : ∀ a k, lm a k → S'.1 (B' + a) k = S.1 (B + a) k) (eq : ∀ t, t < 8 → S'.2.1 c' t = S.2.1 c t) (eT : S'.2.2 = S.2.2) (es : ∀ i, i < 2296 → s' i = s i) : wd S' B' c' s' := by
  obtain ⟨h1, h2, h3, h4⟩ := h
  refine ⟨gd_c h1 (fun i hi => es i (by omega)), wo_c h1.1 (wo_lk h1.1 h2 ew) (fun i hi => es i (by omega)), ?_, ry_c h4 (fun i hi => es i (by omega))⟩
  rw [eT]
  exact tx_c h1.1 h3 eq es
abbrev kX (c k : Nat) : Prop := (6 ≤ c ∧ c < 162) ∨ (c = 186 ∧ (k = 5 ∨ k = 2)) ∨ c = 187 ∨ c = 188 ∨ (c = 5 ∧ k = 2)
theorem rs_kX {S S' : bz_S} (h : rs S) (f : ∀ c k, ¬ kX c k → S'.1 c k = S.1 c k) (h1 : rs_n S') (h2 : rs_k S') (h6 : rs_q S') : rs S' := by
  obtain ⟨-, -, h3, h4, h5, -⟩ := h
  refine ⟨h1, h2, ?_, fun k hk => ?_, fun i hi => ?_, h6⟩
  · obtain ⟨b, N, q1, q2, q3, q4⟩ := h3
    refine ⟨b, N, q1, q2, ⟨?_, fun j hj => ?_⟩, ⟨?_, fun j hj => ?_⟩⟩
    · rw [f _ _ (by omega)]; exact q3.1
    · rw [f _ _ (by omega)]; exact q3.2 j hj
    · rw [f _ _ (by omega)]; exact q4.1
    · rw [f _ _ (by omega)]; exact q4.2 j hj
  · rw [f 174 k (by omega), f 189 k (by omega)]
    exact h4 k hk
  · obtain ⟨q1, q2, q3, q4, q5⟩ := h5 i hi
    rw [f _ _ (by omega), f 201 i (by omega), f _ _ (by omega), f 202 i (by omega)]
    refine ⟨q1, q2, fun j hj => ?_, q4, q5⟩
    rw [f _ _ (by omega), f 203 _ (by omega)]
    exact q3 j hj
theorem lm_D {a k : Nat} (h : lm a k) : a = 0 ∨ (2 ≤ a ∧ a ≤ 7) ∨ (11 ≤ a ∧ a < 78) := by omega
theorem lm_r {a k : Nat} (h : lm a k) : a < 78 ∧ ¬ a = 1 := by omega
theorem inv_undo {S S1 S2 : bz_S} (hI : Inv S) (k1 : S.1 5 2 = 1) (k2 : S.1 186 2 = 1) (kw : wd S 84 94 (S.1 188)) (l1 : lk 6 84 (fun a => a = 0 ∨ (2 ≤ a ∧ a ≤ 7) ∨ (11 ≤ a ∧ a < 78)) S S1) (t1 : S1.2.2 = S.2.2) (t2 : ∀ c, ¬ c = 16 → S1.2.1 c = S.2.1 c) (t3 : ∀ t, t < 8 → S1.2.1 16 t = S.2.1 94 t) (e2 : S2.2 = S1.2) (f2 : ∀ c k, ¬ c = 187 → ¬ (c = 186 ∧ k = 5) → S2.1 c k = S1.1 c k) (v2 : ∀ k, k < 2296 → S2.1 187 k = S1.1 188 k) (z2 : S2.1 186 5 = 0) : Inv S2 := by
  have f1 : ∀ c k, ¬ (6 ≤ c ∧ c < 84) → S1.1 c k = S.1 c k := fun c k h => l1.1 c k (fun x => h (by omega))
  have f12 : ∀ c k, ¬ (6 ≤ c ∧ c < 84) → ¬ c = 187 → ¬ (c = 186 ∧ k = 5) → S2.1 c k = S.1 c k := fun c k h h' h'' => (f2 c k h' h'').trans (f1 c k h)
  have e88 : ∀ k, S2.1 188 k = S.1 188 k := fun k => f12 188 k (by omega) (by omega) (by omega)
  have hq := hI.2.2.2.2.2.2.2
  have hn := hI.2.2.1
  refine ⟨wd_c kw (fun a k h => ?_) (fun t ht => ?_) (by rw [e2]; exact t1) (fun i hi => ?_), Or.inl z2, rs_kX hI.2.2 (fun c k h => f12 c k (by omega) (by omega) (by omega)) (fun r hr => ⟨?_, ?_⟩) (Or.inr ⟨?_, ?_, wd_c kw (fun a k h => ?_) (fun t ht => ?_) (by rw [e2]; exact t1) (fun i hi => e88 i)⟩) (fun c hc t ht => ?_)⟩
  · have := lm_r h
    rw [f2 _ _ (by omega) (by omega)]
    exact l1.2.2 a k (lm_D h) h
  · rw [e2]; exact t3 t ht
  · rw [v2 i hi]; exact f1 188 i (by omega)
  · rw [f2 _ _ (by omega) (by omega)]
    have := l1.2.1 r hr
    rw [show 6 + 42 + 3 * r = 48 + 3 * r by omega] at this
    rw [this]
    exact (hn r hr).1
  · rw [f12 _ _ (by omega) (by omega) (by omega)]
    exact (hn r hr).2
  · rw [f12 _ _ (by omega) (by omega) (by omega)]; exact k1
  · rw [f12 _ _ (by omega) (by omega) (by omega)]; exact k2
  · have := lm_r h
    exact f12 _ _ (by omega) (by omega) (by omega)
  · rw [e2, t2 94 (by decide)]
  · rw [e2, t1]
    rcases hc with z | z
    · subst z
      rw [t3 t ht]
      exact hq 94 (Or.inr rfl) t ht
    · subst z
      rw [t2 94 (by decide)]
      exact hq 94 (Or.inr rfl) t ht
theorem inv_image {S S1 S2 : bz_S} (hI : Inv S) (l1 : lk 84 6 (fun a => a = 0 ∨ (2 ≤ a ∧ a ≤ 7) ∨ (11 ≤ a ∧ a < 78)) S S1) (t1 : S1.2.2 = S.2.2) (t2 : ∀ c, ¬ c = 94 → S1.2.1 c = S.2.1 c) (t3 : ∀ t, t < 8 → S1.2.1 94 t = S.2.1 16 t) (e2 : S2.2 = S1.2) (f2 : ∀ c k, ¬ c = 188 → ¬ (c = 186 ∧ k = 2) → ¬ (c = 5 ∧ k = 2) → S2.1 c k = S1.1 c k) (v2 : ∀ k, k < 2296 → S2.1 188 k = S1.1 187 k) (z5 : S2.1 5 2 = 1) (z2 : S2.1 186 2 = 1) : Inv S2 := by
  have f1 : ∀ c k, ¬ (84 ≤ c ∧ c < 162) → S1.1 c k = S.1 c k := fun c k h => l1.1 c k (fun x => h (by omega))
  have f12 : ∀ c k, ¬ (84 ≤ c ∧ c < 162) → ¬ c = 188 → ¬ (c = 186 ∧ k = 2) → ¬ (c = 5 ∧ k = 2) → S2.1 c k = S.1 c k := fun c k h h' h'' h3 => (f2 c k h' h'' h3).trans (f1 c k h)
  have e87 : ∀ k, S2.1 187 k = S.1 187 k := fun k => f12 187 k (by omega) (by omega) (by omega) (by omega)
  have hq := hI.2.2.2.2.2.2.2
  have hn := hI.2.2.1
  refine ⟨wd_c hI.1 (fun a k h => ?_) (fun t ht => ?_) (by rw [e2]; exact t1) (fun i hi => e87 i), ?_, rs_kX hI.2.2 (fun c k h => f12 c k (by omega) (by omega) (by omega) (by omega)) (fun r hr => ⟨?_, ?_⟩) (Or.inr ⟨z5, z2, wd_c hI.1 (fun a k h => ?_) (fun t ht => ?_) (by rw [e2]; exact t1) (fun i hi => ?_)⟩) (fun c hc t ht => ?_)⟩
  · have := lm_r h
    exact f12 _ _ (by omega) (by omega) (by omega) (by omega)
  · rw [e2, t2 16 (by decide)]
  · refine fd_s hI.2.1 (f12 _ _ (by omega) (by omega) (by omega) (by omega)) (funext (fun k => f12 _ _ (by omega) (by omega) (by omega) (by omega))) (fun i hi => e87 i)
  · rw [f12 _ _ (by omega) (by omega) (by omega) (by omega)]
    exact (hn r hr).1
  · rw [f2 _ _ (by omega) (by omega) (by omega)]
    have := l1.2.1 r hr
    rw [show 84 + 42 + 3 * r = 126 + 3 * r by omega] at this
    rw [this]
    exact (hn r hr).2
  · have := lm_r h
    rw [f2 _ _ (by omega) (by omega) (by omega)]
    exact l1.2.2 a k (lm_D h) h
  · rw [e2]; exact t3 t ht
  · rw [v2 i hi]; exact f1 187 i (by omega)
  · rw [e2, t1]
    rcases hc with z | z
    · subst z
      rw [t2 16 (by decide)]
      exact hq 16 (Or.inl rfl) t ht
    · subst z
      rw [t3 t ht]
      exact hq 16 (Or.inl rfl) t ht
section UND
variable {G : bz_G} {κ : bz_K} {l : Launch} {d bc bs : Nat} {E : Nat × (Nat → Int32)} {S1 : bz_S} {F : Option bz_V → bz_H → Prop}
theorem M_undo_l (hl : κ.2.1 = l) (hP : ∀ S2 : bz_S, S2.2 = S1.2 → (∀ c k, ¬ c = 187 → ¬ (c = 186 ∧ k = 5) → S2.1 c k = S1.1 c k) → (∀ k, k < 2296 → S2.1 187 k = S1.1 188 k) → S2.1 186 5 = 0 → F (some (.inl (S1.1 188 0))) (bz_hp E S2)) : bz_J G κ kX12_undo (d + 1) F bc bs 15 [some (.inr (some 186)), some (.inl (nI 0))] [] (bz_hp E S1) := by
  have main := bz_for (n := 2296) (Q := fun k => ∀ S2 : bz_S, S2.2 = S1.2 → (∀ c j, ¬ c = 187 → S2.1 c j = S1.1 c j) → (∀ j, j < k → S2.1 187 j = S1.1 188 j) → bz_J G κ kX12_undo (d + 1) F bc bs 15 [some (.inr (some 186)), some (.inl (nI k))] [] (bz_hp E S2)) (fun k hk ih S2 e2 f2 v2 => ?_) ?_
  · exact main S1 rfl (fun _ _ _ => rfl) (fun j hj => absurd hj (by omega))
  · refine g_X12_undo_15 hl _ _ _ ?_
    unfold w_X12_undo_15
    refine ⟨fun z => absurd ((nI_leI (a := 2296) (by decide) (by omega)).mp z) (by omega), fun _ => ?_⟩
    refine ap_rR rfl (ap_rR rfl (ap_nn (ap_iA (i := k) (n := 2296) rfl rfl (by omega) (ap_nn (ap_iW (i := k) (n := 2296) rfl rfl (by omega) ?_)))))
    rw [← nI_succ]
    refine ih _ e2 (fun c j hc => ?_) (fun j hj => ?_)
    · dsimp only
      rw [bz_u_ne _ _ (Or.inl hc)]
      exact f2 c j hc
    · dsimp only
      by_cases z : j = k
      · subst z
        rw [bz_u_same]
        exact f2 188 j (by decide)
      · rw [bz_u_ne _ _ (Or.inr z)]
        exact v2 j (by omega)
  intro S2 e2 f2 v2
  refine g_X12_undo_15 hl _ _ _ ?_
  unfold w_X12_undo_15
  refine ⟨fun _ => ⟨Or.inl rfl, ap_wI rfl (ap_rR rfl (ap_nn (ap_iA (i := 0) (n := 2296) rfl rfl (by decide) ?_)))⟩, fun z => absurd (by decide) z⟩
  have := hP (bz_u S2.1 186 5 0, S2.2) e2 (fun c k h h' => ?_) (fun k hk => ?_) ?_
  · dsimp only
    rw [bz_u_ne _ _ (by omega), v2 0 (by decide)]
    exact this
  · dsimp only
    rw [bz_u_ne _ _ (by omega)]
    exact f2 c k h
  · dsimp only
    rw [bz_u_ne _ _ (by omega)]
    exact v2 k hk
  · dsimp only
    rw [bz_u_same]
theorem M_image_l (hl : κ.2.1 = l) (hP : ∀ S2 : bz_S, S2.2 = S1.2 → (∀ c k, ¬ c = 188 → ¬ (c = 186 ∧ k = 2) → S2.1 c k = S1.1 c k) → (∀ k, k < 2296 → S2.1 188 k = S1.1 187 k) → S2.1 186 2 = 1 → F (some (.inl 1)) (bz_hp E S2)) : bz_J G κ kX12_image (d + 1) F bc bs 2 [some (.inr (some 186)), some (.inl (nI 0))] [] (bz_hp E S1) := by
  have main := bz_for (n := 2296) (Q := fun k => ∀ S2 : bz_S, S2.2 = S1.2 → (∀ c j, ¬ c = 188 → S2.1 c j = S1.1 c j) → (∀ j, j < k → S2.1 188 j = S1.1 187 j) → bz_J G κ kX12_image (d + 1) F bc bs 2 [some (.inr (some 186)), some (.inl (nI k))] [] (bz_hp E S2)) (fun k hk ih S2 e2 f2 v2 => ?_) ?_
  · exact main S1 rfl (fun _ _ _ => rfl) (fun j hj => absurd hj (by omega))
  · refine g_X12_image_2 hl _ _ _ ?_
    unfold w_X12_image_2
    refine ⟨fun z => absurd ((nI_leI (a := 2296) (by decide) (by omega)).mp z) (by omega), fun _ => ?_⟩
    refine ap_rR rfl (ap_rR rfl (ap_nn (ap_iA (i := k) (n := 2296) rfl rfl (by omega) (ap_nn (ap_iW (i := k) (n := 2296) rfl rfl (by omega) ?_)))))
    rw [← nI_succ]
    refine ih _ e2 (fun c j hc => ?_) (fun j hj => ?_)
    · dsimp only
      rw [bz_u_ne _ _ (Or.inl hc)]
      exact f2 c j hc
    · dsimp only
      by_cases z : j = k
      · subst z
        rw [bz_u_same]
        exact f2 187 j (by decide)
      · rw [bz_u_ne _ _ (Or.inr z)]
        exact v2 j (by omega)
  intro S2 e2 f2 v2
  refine g_X12_image_2 hl _ _ _ ?_
  unfold w_X12_image_2
  refine ⟨fun _ => ⟨Or.inr rfl, ap_wI rfl ?_⟩, fun z => absurd (by decide) z⟩
  refine hP (bz_u S2.1 186 2 1, S2.2) e2 (fun c k h h' => ?_) (fun k hk => ?_) ?_
  · dsimp only
    rw [bz_u_ne _ _ (by omega)]
    exact f2 c k h
  · dsimp only
    rw [bz_u_ne _ _ (by omega)]
    exact v2 k hk
  · dsimp only
    rw [bz_u_same]
end UND
theorem pr_undo : bz_pr Inv kX11_undo kX12_undo 0 0 0 := by
  intro G l E d S as has hI
  match as, has with
  | [], _ =>
    have ht := inv_tw hI
    have hg := inv_b hI
    have hgg := tw_g ht
    have hn0 := hI.2.2.1
    generalize hs : S.1 187 = s at ht hg hgg
    refine m_X11_undo _ _ ?_
    unfold w_X11_undo_0
    refine ap_rI rfl ⟨fun c0 => ?_, fun c0 => ?_⟩
    · rcases hI.2.2.2.1 with z | ⟨k1, k2, kw⟩
      · exact absurd z.1 c0
      refine ap_rR rfl (ap_rR rfl (ap_nn (ap_rc rfl ?_)))
      refine X_like_u (hI.2.2.2.2.2.2.2 94 (Or.inr rfl)) (fun S1 l1 t1 t2 t3 => ?_)
      refine ap_rR rfl (ap_nn (ap_rI rfl ?_))
      refine ⟨_, rfl, S1, rfl, ?_⟩
      have e188 : S1.1 188 0 = S.1 188 0 := l1.1 _ _ (by omega)
      have e612 : S1.1 6 12 = S.1 188 0 := (l1.2.2 0 12 (Or.inl rfl) (by decide)).trans (kw.2.1.1 0 (by decide) 0 12 rfl)
      have e186 : ¬ S1.1 186 2 = 0 := by
        rw [l1.1 _ _ (by omega), k2]
        decide
      refine m_X12_undo _ _ (fun κ bc bs hl => ?_)
      unfold w_X12_undo_0
      refine ap_rI rfl ⟨fun _ => ?_, fun c1 => absurd c1 e186⟩
      refine M_undo_l hl (fun S2 q1 q2 q3 q4 => ?_)
      exact ⟨_, rfl, e612.trans e188.symm, S2, rfl, inv_undo hI k1 k2 kw l1 t1 t2 t3 q1 q2 q3 q4⟩
    · have z2 : S.1 186 2 = 0 := by
        rcases hI.2.2.2.1 with z | ⟨k1, k2, kw⟩
        · exact z.2
        · rw [k1] at c0
          exact absurd c0 (by decide)
      refine ap_rc rfl ?_
      refine X_fi 3 (by decide) (by decide) (fun S1 r1 v1 => ⟨_, rfl, S1, rfl, ?_⟩)
      have z3 : S1.1 186 2 = 0 := (r1.2 _ _ (by first | omega | (dsimp only; omega))).trans z2
      refine m_X12_undo _ _ (fun κ bc bs hl => ?_)
      unfold w_X12_undo_0
      refine ap_rI rfl ⟨fun c1 => absurd z3 c1, fun _ => ?_⟩
      refine ap_rc rfl ?_
      exact M_fi 3 hI (by decide) r1 v1 (fr_r _ S1) (fi_fd hI r1) rfl (by decide)
theorem pr_image : bz_pr Inv kX11_image kX12_image 0 0 0 := by
  intro G l E d S as has hI
  match as, has with
  | [], _ =>
    have ht := inv_tw hI
    have hg := inv_b hI
    have hgg := tw_g ht
    have hn0 := hI.2.2.1
    generalize hs : S.1 187 = s at ht hg hgg
    refine m_X11_image _ _ ?_
    unfold w_X11_image_0
    refine ap_rR rfl (ap_rR rfl (ap_nn (ap_rc rfl ?_)))
    refine X_like_i (hI.2.2.2.2.2.2.2 16 (Or.inl rfl)) (fun S1 l1 t1 t2 t3 => ?_)
    refine ⟨Or.inr rfl, ap_wI rfl ?_⟩
    refine ⟨_, rfl, _, rfl, ?_⟩
    refine m_X12_image _ _ (fun κ bc bs hl => ?_)
    unfold w_X12_image_0
    refine M_image_l hl (fun S2 q1 q2 q3 q4 => ?_)
    refine ⟨_, rfl, rfl, S2, rfl, inv_image hI l1 t1 t2 t3 q1 (fun c k h h' h3 => ?_) (fun k hk => ?_) ?_ q4⟩
    · rw [q2 c k h h']
      dsimp only
      rw [bz_u_ne _ _ (by omega)]
    · rw [q3 k hk]
      dsimp only
      rw [bz_u_ne _ _ (by omega)]
    · rw [q2 5 2 (by decide) (by decide)]
      dsimp only
      rw [bz_u_same]
