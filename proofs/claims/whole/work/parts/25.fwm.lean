theorem bz_ur_id (μ : Nat → Nat → Int32) (c : Nat) : bz_ur μ c (μ c) = μ := by
  funext b
  unfold bz_ur
  by_cases h : b = c
  · rw [if_pos h, h]
  · rw [if_neg h]
/-- the places of a table of 16 by 16, the first m of them a step further -/
def f_tb (F : Option Nat → Int32) (s : Nat → Int32) (k m j : Nat) : Int32 := F (f_wy s (if j < m then k + 1 else k) (j / 16) (j % 16))
theorem f_tb_end (F : Option Nat → Int32) (s : Nat → Int32) (k : Nat) {j : Nat} (hj : j < 256) : f_tb F s k 256 j = f_tb F s (k + 1) 0 j := by
  unfold f_tb
  rw [if_pos hj, if_neg (by omega)]
theorem f_tb_up {F : Option Nat → Int32} {s : Nat → Int32} {k m : Nat} {g : Nat → Int32} {v : Int32} (hg : ∀ j, j < 256 → g j = f_tb F s k m j) (hv : v = F (f_wy s (k + 1) (m / 16) (m % 16))) : ∀ j, j < 256 → upd g m v j = f_tb F s k (m + 1) j := by
  intro j hj
  by_cases e : j = m
  · subst e
    rw [pk_us, hv]
    unfold f_tb
    rw [if_pos (by omega)]
  · rw [pk_un e, hg j hj]
    unfold f_tb
    by_cases q : j < m
    · rw [if_pos q, if_pos (by omega)]
    · rw [if_neg q, if_neg (by omega)]
/-- the way to the middle and from it: the same a step further -/
theorem f_tb_c {F : Option Nat → Int32} {s : Nat → Int32} {k m a : Nat} (hk : k < 16) (ha : a < 16) : f_tb F s k m (16 * a + k) = F (f_wy s k a k) := by
  unfold f_tb
  rw [show (16 * a + k) / 16 = a by omega, show (16 * a + k) % 16 = k by omega]
  split
  · rw [show f_wy s (k + 1) a k = f_wy s k a k from wy_col (f_d_0 s) k a]
  · rfl
theorem f_tb_r {F : Option Nat → Int32} {s : Nat → Int32} {k m b : Nat} (hb : b < 16) : f_tb F s k m (16 * k + b) = F (f_wy s k k b) := by
  unfold f_tb
  rw [show (16 * k + b) / 16 = k by omega, show (16 * k + b) % 16 = b by omega]
  split
  · rw [show f_wy s (k + 1) k b = f_wy s k k b from wy_rowk (f_d_0 s) k b]
  · rfl
section FWM
variable {G : bz_G} {l : Launch} {d : Nat} {E : Nat × (Nat → Int32)} {S : bz_S} {P : bz_H → Prop}
theorem M_findWays (hg : gd_b (S.1 187)) (hP : ∀ g, (∀ j, j < 256 → g j = f_tb f_far (S.1 187) 16 0 j) → P (bz_hp E (bz_u (bz_ur S.1 190 g) 186 5 1, S.2))) : bz_cV G l (d + 1) kX12_findWays [.inr (some 186)] (bz_hp E S) 0 0 P := by
  refine m_X12_findWays _ _ (fun κ bc bs hl => ?_)
  unfold w_X12_findWays_0
  have n187 : ∀ g, bz_ur S.1 190 g 187 = S.1 187 := fun g => bz_ur_ne _ _ (by decide)
  have p2 := bz_for (n := 16) (Q := fun k => ∀ g u2 u3 u4, (∀ j, j < 256 → g j = f_tb f_far (S.1 187) k 0 j) → bz_J G κ kX12_findWays (d + 1) (fun v h' => v = none ∧ P h') bc bs 108 [some (.inr (some 186)), some (.inl (nI k)), u2, u3, u4] [] (bz_hp E (bz_ur S.1 190 g, S.2))) (fun k hk ih g u2 u3 u4 hgg => ?_) (fun g u2 u3 u4 hgg => ?_)
  · have p1 := bz_for (n := 16) (Q := fun a => ∀ g u2 u3 u4, (∀ j, j < 16 * a → g j = f_tb f_far (S.1 187) 0 0 j) → bz_J G κ kX12_findWays (d + 1) (fun v h' => v = none ∧ P h') bc bs 2 [some (.inr (some 186)), some (.inl (nI a)), u2, u3, u4] [] (bz_hp E (bz_ur S.1 190 g, S.2))) (fun a ha ih g u2 u3 u4 hgg => ?_) (fun g u2 u3 u4 hgg => ?_)
    · have := p1 (S.1 190) none none none (fun j hj => absurd hj (by omega))
      rw [bz_ur_id] at this
      exact this
    · refine g_X12_findWays_2 hl _ _ _ _ _ _ ⟨fun c => absurd ((nI_leI (a := 16) (by omega) (by omega)).mp c) (by omega), fun c => ?_⟩
      have p0 := bz_for (n := 16) (Q := fun b => ∀ g u3 u4, (∀ j, j < 16 * a + b → g j = f_tb f_far (S.1 187) 0 0 j) → bz_J G κ kX12_findWays (d + 1) (fun v h' => v = none ∧ P h') bc bs 10 [some (.inr (some 186)), some (.inl (nI a)), some (.inl (nI b)), u3, u4] [] (bz_hp E (bz_ur S.1 190 g, S.2))) (fun b hb ih g u3 u4 hgg => ?_) (fun g u3 u4 hgg => ?_)
      · exact p0 g u3 u4 (fun j hj => hgg j (by omega))
      · refine g_X12_findWays_10 hl _ _ _ _ _ _ ⟨fun c => absurd ((nI_leI (a := 16) (by omega) (by omega)).mp c) (by omega), fun c => ?_⟩
        repeat (first | ((with_reducible apply ap_rc); rfl) | ((with_reducible apply ap_nn)) | ((with_reducible apply ap_rR); rfl) | ((with_reducible apply M_ofOrder); rfl; (exact bz_lit _); omega; (first | omega | decide)) | ((with_reducible apply M_ofRider); rfl; (exact bz_lit _); omega; (first | omega | decide)) | ((with_reducible apply ap_rI); exact kd_ord _ (by omega) _ (by decide)) | ((with_reducible apply ap_wI); exact kd_ord _ (by omega) _ (by decide)) | ((with_reducible apply ap_rI); exact kd_rid _ (by omega) _ (by decide)) | ((with_reducible apply ap_wI); exact kd_rid _ (by omega) _ (by decide)) | ((with_reducible apply ap_rc); exact (kd_clO _ (by omega)).1) | ((with_reducible apply ap_rc); exact (kd_clR _ (by omega)).1) | ((with_reducible apply ap_rc); exact (kd_clR _ (by omega)).2.2.1) | ((with_reducible apply ap_rR); exact (kd_ridA _ (by omega)).1) | ((with_reducible apply ap_rN); rfl) | ((with_reducible apply M_in)) | ((with_reducible apply X_isWithin)) | ((with_reducible apply ap_rI); rfl) | ((with_reducible apply ap_wI); rfl) | ((with_reducible apply ap_iA); rfl; (try simp only [bz_lit, pk_mul, nI_add]); rfl; omega) | ((with_reducible apply ap_iW); rfl; (try simp only [bz_lit, pk_mul, nI_add]); rfl; omega))
        simp only [n187]
        have e := f_far_d hg ha hb
        have fin : ∀ v, v = f_far (f_d (S.1 187) a b) → ∀ u3 u4, bz_J G κ kX12_findWays (d + 1) (fun v h' => v = none ∧ P h') bc bs 10 [some (.inr (some 186)), some (.inl (nI a)), some (.inl (nI b + 1)), u3, u4] [] (bz_hp E (bz_u (bz_ur S.1 190 g) 190 (16 * a + b) v, S.2)) := by
          intro v hv u3 u4
          rw [bz_u_of_ur, ← nI_succ]
          refine ih _ _ _ (fun j hj => ?_)
          by_cases q : j = 16 * a + b
          · subst q
            rw [pk_us, hv]
            unfold f_tb
            rw [if_neg (by omega), show (16 * a + b) / 16 = a by omega, show (16 * a + b) % 16 = b by omega]
            rfl
          · rw [pk_un q]
            exact hgg j (by omega)
        refine ⟨fun c1 => ⟨fun c2 => ?_, fun c2 => ?_⟩, fun c1 => ?_⟩
        · have c1' : ¬ a = b := fun q => c1 (by rw [q])
          rw [if_neg c1', if_neg c2] at e
          repeat (first | ((with_reducible apply ap_rc); rfl) | ((with_reducible apply ap_nn)) | ((with_reducible apply ap_rR); rfl) | ((with_reducible apply M_ofOrder); rfl; (exact bz_lit _); omega; (first | omega | decide)) | ((with_reducible apply M_ofRider); rfl; (exact bz_lit _); omega; (first | omega | decide)) | ((with_reducible apply ap_rI); exact kd_ord _ (by omega) _ (by decide)) | ((with_reducible apply ap_wI); exact kd_ord _ (by omega) _ (by decide)) | ((with_reducible apply ap_rI); exact kd_rid _ (by omega) _ (by decide)) | ((with_reducible apply ap_wI); exact kd_rid _ (by omega) _ (by decide)) | ((with_reducible apply ap_rc); exact (kd_clO _ (by omega)).1) | ((with_reducible apply ap_rc); exact (kd_clR _ (by omega)).1) | ((with_reducible apply ap_rc); exact (kd_clR _ (by omega)).2.2.1) | ((with_reducible apply ap_rR); exact (kd_ridA _ (by omega)).1) | ((with_reducible apply ap_rN); rfl) | ((with_reducible apply M_in)) | ((with_reducible apply X_isWithin)) | ((with_reducible apply ap_rI); rfl) | ((with_reducible apply ap_wI); rfl) | ((with_reducible apply ap_iA); rfl; (try simp only [bz_lit, pk_mul, nI_add]); rfl; omega) | ((with_reducible apply ap_iW); rfl; (try simp only [bz_lit, pk_mul, nI_add]); rfl; omega))
          exact fin _ e.symm _ _
        · have c1' : ¬ a = b := fun q => c1 (by rw [q])
          rw [if_neg c1', if_pos c2] at e
          repeat (first | ((with_reducible apply ap_rc); rfl) | ((with_reducible apply ap_nn)) | ((with_reducible apply ap_rR); rfl) | ((with_reducible apply M_ofOrder); rfl; (exact bz_lit _); omega; (first | omega | decide)) | ((with_reducible apply M_ofRider); rfl; (exact bz_lit _); omega; (first | omega | decide)) | ((with_reducible apply ap_rI); exact kd_ord _ (by omega) _ (by decide)) | ((with_reducible apply ap_wI); exact kd_ord _ (by omega) _ (by decide)) | ((with_reducible apply ap_rI); exact kd_rid _ (by omega) _ (by decide)) | ((with_reducible apply ap_wI); exact kd_rid _ (by omega) _ (by decide)) | ((with_reducible apply ap_rc); exact (kd_clO _ (by omega)).1) | ((with_reducible apply ap_rc); exact (kd_clR _ (by omega)).1) | ((with_reducible apply ap_rc); exact (kd_clR _ (by omega)).2.2.1) | ((with_reducible apply ap_rR); exact (kd_ridA _ (by omega)).1) | ((with_reducible apply ap_rN); rfl) | ((with_reducible apply M_in)) | ((with_reducible apply X_isWithin)) | ((with_reducible apply ap_rI); rfl) | ((with_reducible apply ap_wI); rfl) | ((with_reducible apply ap_iA); rfl; (try simp only [bz_lit, pk_mul, nI_add]); rfl; omega) | ((with_reducible apply ap_iW); rfl; (try simp only [bz_lit, pk_mul, nI_add]); rfl; omega))
          exact fin _ e.symm _ _
        · have c1' : a = b := (nI_eq (by omega) (by omega)).mp c1
          rw [if_pos c1'] at e
          repeat (first | ((with_reducible apply ap_rc); rfl) | ((with_reducible apply ap_nn)) | ((with_reducible apply ap_rR); rfl) | ((with_reducible apply M_ofOrder); rfl; (exact bz_lit _); omega; (first | omega | decide)) | ((with_reducible apply M_ofRider); rfl; (exact bz_lit _); omega; (first | omega | decide)) | ((with_reducible apply ap_rI); exact kd_ord _ (by omega) _ (by decide)) | ((with_reducible apply ap_wI); exact kd_ord _ (by omega) _ (by decide)) | ((with_reducible apply ap_rI); exact kd_rid _ (by omega) _ (by decide)) | ((with_reducible apply ap_wI); exact kd_rid _ (by omega) _ (by decide)) | ((with_reducible apply ap_rc); exact (kd_clO _ (by omega)).1) | ((with_reducible apply ap_rc); exact (kd_clR _ (by omega)).1) | ((with_reducible apply ap_rc); exact (kd_clR _ (by omega)).2.2.1) | ((with_reducible apply ap_rR); exact (kd_ridA _ (by omega)).1) | ((with_reducible apply ap_rN); rfl) | ((with_reducible apply M_in)) | ((with_reducible apply X_isWithin)) | ((with_reducible apply ap_rI); rfl) | ((with_reducible apply ap_wI); rfl) | ((with_reducible apply ap_iA); rfl; (try simp only [bz_lit, pk_mul, nI_add]); rfl; omega) | ((with_reducible apply ap_iW); rfl; (try simp only [bz_lit, pk_mul, nI_add]); rfl; omega))
          exact fin _ e.symm _ _
      · refine g_X12_findWays_10 hl _ _ _ _ _ _ ⟨fun c => ?_, fun c => absurd (show (16 : Int32) ≤ nI 16 by decide) c⟩
        rw [← nI_succ]
        exact ih g _ _ _ (fun j hj => hgg j (by omega))
    · refine g_X12_findWays_2 hl _ _ _ _ _ _ ⟨fun c => ?_, fun c => absurd (show (16 : Int32) ≤ nI 16 by decide) c⟩
      exact p2 g _ _ _ hgg
  · refine g_X12_findWays_108 hl _ _ _ _ _ _ ⟨fun c => absurd ((nI_leI (a := 16) (by omega) (by omega)).mp c) (by omega), fun c => ?_⟩
    have p3 := bz_for (n := 16) (Q := fun a => ∀ g u3 u4, (∀ j, j < 256 → g j = f_tb f_far (S.1 187) k (16 * a) j) → bz_J G κ kX12_findWays (d + 1) (fun v h' => v = none ∧ P h') bc bs 116 [some (.inr (some 186)), some (.inl (nI k)), some (.inl (nI a)), u3, u4] [] (bz_hp E (bz_ur S.1 190 g, S.2))) (fun a ha ih g u3 u4 hgg => ?_) (fun g u3 u4 hgg => ?_)
    · exact p3 g u3 u4 hgg
    · refine g_X12_findWays_116 hl _ _ _ _ _ _ ⟨fun c => absurd ((nI_leI (a := 16) (by omega) (by omega)).mp c) (by omega), fun c => ?_⟩
      have p4 := bz_for (n := 16) (Q := fun b => ∀ g u4, (∀ j, j < 256 → g j = f_tb f_far (S.1 187) k (16 * a + b) j) → bz_J G κ kX12_findWays (d + 1) (fun v h' => v = none ∧ P h') bc bs 124 [some (.inr (some 186)), some (.inl (nI k)), some (.inl (nI a)), some (.inl (nI b)), u4] [] (bz_hp E (bz_ur S.1 190 g, S.2))) (fun b hb ih g u4 hgg => ?_) (fun g u4 hgg => ?_)
      · exact p4 g u4 hgg
      · refine g_X12_findWays_124 hl _ _ _ _ _ _ ⟨fun c => absurd ((nI_leI (a := 16) (by omega) (by omega)).mp c) (by omega), fun c => ?_⟩
        repeat (first | ((with_reducible apply ap_rc); rfl) | ((with_reducible apply ap_nn)) | ((with_reducible apply ap_rR); rfl) | ((with_reducible apply M_ofOrder); rfl; (exact bz_lit _); omega; (first | omega | decide)) | ((with_reducible apply M_ofRider); rfl; (exact bz_lit _); omega; (first | omega | decide)) | ((with_reducible apply ap_rI); exact kd_ord _ (by omega) _ (by decide)) | ((with_reducible apply ap_wI); exact kd_ord _ (by omega) _ (by decide)) | ((with_reducible apply ap_rI); exact kd_rid _ (by omega) _ (by decide)) | ((with_reducible apply ap_wI); exact kd_rid _ (by omega) _ (by decide)) | ((with_reducible apply ap_rc); exact (kd_clO _ (by omega)).1) | ((with_reducible apply ap_rc); exact (kd_clR _ (by omega)).1) | ((with_reducible apply ap_rc); exact (kd_clR _ (by omega)).2.2.1) | ((with_reducible apply ap_rR); exact (kd_ridA _ (by omega)).1) | ((with_reducible apply ap_rN); rfl) | ((with_reducible apply M_in)) | ((with_reducible apply X_isWithin)) | ((with_reducible apply ap_rI); rfl) | ((with_reducible apply ap_wI); rfl) | ((with_reducible apply ap_iA); rfl; (try simp only [bz_lit, pk_mul, nI_add]); rfl; omega) | ((with_reducible apply ap_iW); rfl; (try simp only [bz_lit, pk_mul, nI_add]); rfl; omega))
        dsimp only
        rw [bz_ur_same]
        have e := f_far_min (x := f_wy (S.1 187) k a b) (y := f_wy (S.1 187) k a k) (z := f_wy (S.1 187) k k b) (fun v => f_wy_b hg (by omega)) (fun v => f_wy_b hg (by omega)) (fun v => f_wy_b hg (by omega))
        have e1 : g (16 * a + k) = f_far (f_wy (S.1 187) k a k) := (hgg _ (by omega)).trans (f_tb_c hk ha)
        have e2 : g (16 * k + b) = f_far (f_wy (S.1 187) k k b) := (hgg _ (by omega)).trans (f_tb_r hb)
        have e3 : g (16 * a + b) = f_far (f_wy (S.1 187) k a b) := by
          rw [hgg _ (by omega)]
          unfold f_tb
          rw [if_neg (by omega), show (16 * a + b) / 16 = a by omega, show (16 * a + b) % 16 = b by omega]
        have fin : ∀ v, v = f_far (f_wy (S.1 187) (k + 1) a b) → ∀ u4, bz_J G κ kX12_findWays (d + 1) (fun v h' => v = none ∧ P h') bc bs 124 [some (.inr (some 186)), some (.inl (nI k)), some (.inl (nI a)), some (.inl (nI b + 1)), u4] [] (bz_hp E (bz_u (bz_ur S.1 190 g) 190 (16 * a + b) v, S.2)) := by
          intro v hv u4
          rw [bz_u_of_ur, ← nI_succ]
          refine ih _ _ (f_tb_up hgg ?_)
          rw [hv, show (16 * a + b) / 16 = a by omega, show (16 * a + b) % 16 = b by omega]
        rw [e1, e2, e3]
        refine ⟨fun c1 => ?_, fun c1 => ?_⟩
        · rw [if_pos c1] at e
          repeat (first | ((with_reducible apply ap_rc); rfl) | ((with_reducible apply ap_nn)) | ((with_reducible apply ap_rR); rfl) | ((with_reducible apply M_ofOrder); rfl; (exact bz_lit _); omega; (first | omega | decide)) | ((with_reducible apply M_ofRider); rfl; (exact bz_lit _); omega; (first | omega | decide)) | ((with_reducible apply ap_rI); exact kd_ord _ (by omega) _ (by decide)) | ((with_reducible apply ap_wI); exact kd_ord _ (by omega) _ (by decide)) | ((with_reducible apply ap_rI); exact kd_rid _ (by omega) _ (by decide)) | ((with_reducible apply ap_wI); exact kd_rid _ (by omega) _ (by decide)) | ((with_reducible apply ap_rc); exact (kd_clO _ (by omega)).1) | ((with_reducible apply ap_rc); exact (kd_clR _ (by omega)).1) | ((with_reducible apply ap_rc); exact (kd_clR _ (by omega)).2.2.1) | ((with_reducible apply ap_rR); exact (kd_ridA _ (by omega)).1) | ((with_reducible apply ap_rN); rfl) | ((with_reducible apply M_in)) | ((with_reducible apply X_isWithin)) | ((with_reducible apply ap_rI); rfl) | ((with_reducible apply ap_wI); rfl) | ((with_reducible apply ap_iA); rfl; (try simp only [bz_lit, pk_mul, nI_add]); rfl; omega) | ((with_reducible apply ap_iW); rfl; (try simp only [bz_lit, pk_mul, nI_add]); rfl; omega))
          dsimp only
          rw [bz_ur_same, e3]
          repeat (first | ((with_reducible apply ap_rc); rfl) | ((with_reducible apply ap_nn)) | ((with_reducible apply ap_rR); rfl) | ((with_reducible apply M_ofOrder); rfl; (exact bz_lit _); omega; (first | omega | decide)) | ((with_reducible apply M_ofRider); rfl; (exact bz_lit _); omega; (first | omega | decide)) | ((with_reducible apply ap_rI); exact kd_ord _ (by omega) _ (by decide)) | ((with_reducible apply ap_wI); exact kd_ord _ (by omega) _ (by decide)) | ((with_reducible apply ap_rI); exact kd_rid _ (by omega) _ (by decide)) | ((with_reducible apply ap_wI); exact kd_rid _ (by omega) _ (by decide)) | ((with_reducible apply ap_rc); exact (kd_clO _ (by omega)).1) | ((with_reducible apply ap_rc); exact (kd_clR _ (by omega)).1) | ((with_reducible apply ap_rc); exact (kd_clR _ (by omega)).2.2.1) | ((with_reducible apply ap_rR); exact (kd_ridA _ (by omega)).1) | ((with_reducible apply ap_rN); rfl) | ((with_reducible apply M_in)) | ((with_reducible apply X_isWithin)) | ((with_reducible apply ap_rI); rfl) | ((with_reducible apply ap_wI); rfl) | ((with_reducible apply ap_iA); rfl; (try simp only [bz_lit, pk_mul, nI_add]); rfl; omega) | ((with_reducible apply ap_iW); rfl; (try simp only [bz_lit, pk_mul, nI_add]); rfl; omega))
          exact fin _ e.symm _
        · rw [if_neg c1] at e
          repeat (first | ((with_reducible apply ap_rc); rfl) | ((with_reducible apply ap_nn)) | ((with_reducible apply ap_rR); rfl) | ((with_reducible apply M_ofOrder); rfl; (exact bz_lit _); omega; (first | omega | decide)) | ((with_reducible apply M_ofRider); rfl; (exact bz_lit _); omega; (first | omega | decide)) | ((with_reducible apply ap_rI); exact kd_ord _ (by omega) _ (by decide)) | ((with_reducible apply ap_wI); exact kd_ord _ (by omega) _ (by decide)) | ((with_reducible apply ap_rI); exact kd_rid _ (by omega) _ (by decide)) | ((with_reducible apply ap_wI); exact kd_rid _ (by omega) _ (by decide)) | ((with_reducible apply ap_rc); exact (kd_clO _ (by omega)).1) | ((with_reducible apply ap_rc); exact (kd_clR _ (by omega)).1) | ((with_reducible apply ap_rc); exact (kd_clR _ (by omega)).2.2.1) | ((with_reducible apply ap_rR); exact (kd_ridA _ (by omega)).1) | ((with_reducible apply ap_rN); rfl) | ((with_reducible apply M_in)) | ((with_reducible apply X_isWithin)) | ((with_reducible apply ap_rI); rfl) | ((with_reducible apply ap_wI); rfl) | ((with_reducible apply ap_iA); rfl; (try simp only [bz_lit, pk_mul, nI_add]); rfl; omega) | ((with_reducible apply ap_iW); rfl; (try simp only [bz_lit, pk_mul, nI_add]); rfl; omega))
          exact fin _ e.symm _
      · refine g_X12_findWays_124 hl _ _ _ _ _ _ ⟨fun c => ?_, fun c => absurd (show (16 : Int32) ≤ nI 16 by decide) c⟩
        rw [← nI_succ]
        exact ih g _ _ (fun j hj => hgg j hj)
    · refine g_X12_findWays_116 hl _ _ _ _ _ _ ⟨fun c => ?_, fun c => absurd (show (16 : Int32) ≤ nI 16 by decide) c⟩
      rw [← nI_succ]
      exact ih g _ _ _ (fun j hj => (hgg j hj).trans (f_tb_end _ _ _ hj))
  · refine g_X12_findWays_108 hl _ _ _ _ _ _ ⟨fun c => ?_, fun c => absurd (show (16 : Int32) ≤ nI 16 by decide) c⟩
    refine ⟨Or.inr rfl, ?_⟩
    repeat (first | ((with_reducible apply ap_rc); rfl) | ((with_reducible apply ap_nn)) | ((with_reducible apply ap_rR); rfl) | ((with_reducible apply M_ofOrder); rfl; (exact bz_lit _); omega; (first | omega | decide)) | ((with_reducible apply M_ofRider); rfl; (exact bz_lit _); omega; (first | omega | decide)) | ((with_reducible apply ap_rI); exact kd_ord _ (by omega) _ (by decide)) | ((with_reducible apply ap_wI); exact kd_ord _ (by omega) _ (by decide)) | ((with_reducible apply ap_rI); exact kd_rid _ (by omega) _ (by decide)) | ((with_reducible apply ap_wI); exact kd_rid _ (by omega) _ (by decide)) | ((with_reducible apply ap_rc); exact (kd_clO _ (by omega)).1) | ((with_reducible apply ap_rc); exact (kd_clR _ (by omega)).1) | ((with_reducible apply ap_rc); exact (kd_clR _ (by omega)).2.2.1) | ((with_reducible apply ap_rR); exact (kd_ridA _ (by omega)).1) | ((with_reducible apply ap_rN); rfl) | ((with_reducible apply M_in)) | ((with_reducible apply X_isWithin)) | ((with_reducible apply ap_rI); rfl) | ((with_reducible apply ap_wI); rfl) | ((with_reducible apply ap_iA); rfl; (try simp only [bz_lit, pk_mul, nI_add]); rfl; omega) | ((with_reducible apply ap_iW); rfl; (try simp only [bz_lit, pk_mul, nI_add]); rfl; omega))
    exact ⟨rfl, hP g hgg⟩
end FWM
