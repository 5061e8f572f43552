/-! the class measures all ways -/
theorem f_no_some {o : Option Nat} (h : ¬ f_no o = -1) : ∃ v, o = some v := by
  cases o with
  | none => exact absurd rfl h
  | some v => exact ⟨v, rfl⟩
theorem f_no_none {o : Option Nat} (hb : ∀ v, o = some v → v ≤ 5000) (h : f_no o = -1) : o = none := by
  cases o with
  | none => rfl
  | some v =>
    have := hb v rfl
    have e : (nI v).toInt = (v : Int) := nI_toInt (by omega)
    have h' : nI v = -1 := h
    rw [h'] at e
    have e1 : (-1 : Int32).toInt = -1 := rfl
    omega
theorem f_no_d {s : Nat → Int32} (h : gd_b s) {a b : Nat} (ha : a < 16) (hb : b < 16) : f_no (f_d s a b) = if a = b then 0 else if s (44 + 16 * a + b) = 0 then -1 else s (44 + 16 * a + b) + (if 0 < s (12 + b) - s (12 + a) then s (12 + b) - s (12 + a) else 0) := by
  have e := f_far_d h ha hb
  rw [mx_0]
  unfold f_d at e ⊢
  by_cases q : a = b
  · rw [if_pos q, if_pos q]; rfl
  · rw [if_neg q, if_neg (show ¬ (16 ≤ a ∨ 16 ≤ b) by omega)] at e ⊢
    rw [if_neg q] at e ⊢
    by_cases z : s (44 + 16 * a + b) = 0
    · rw [if_pos z, if_pos z]; rfl
    · rw [if_neg z, if_neg z] at e ⊢
      exact e
section FWX
variable {G : bz_G} {l : Launch} {d : Nat} {E : Nat × (Nat → Int32)} {S : bz_S} {s : Nat → Int32}
theorem X_wayBetween {P : Int32 → bz_H → Prop} {a b : Nat} (ha : a < 16) (hb : b < 16) (hP : P (S.1 11 (16 * a + b)) (bz_hp E S)) : bz_cI G l (d + 1) kX8_wayBetween [.inr (some 7), .inl (nI a), .inl (nI b)] (bz_hp E S) 0 0 P := by
  refine m_X8_wayBetween _ _ _ _ ?_
  unfold w_X8_wayBetween_0
  rw [show 16 * a + b = a * 16 + b by omega] at hP
  repeat (first | ((with_reducible apply ap_rc); rfl) | ((with_reducible apply ap_nn)) | ((with_reducible apply ap_rR); rfl) | ((with_reducible apply M_ofOrder); rfl; (exact bz_lit _); omega; (first | omega | decide)) | ((with_reducible apply M_ofRider); rfl; (exact bz_lit _); omega; (first | omega | decide)) | ((with_reducible apply ap_rI); exact kd_ord _ (by omega) _ (by decide)) | ((with_reducible apply ap_wI); exact kd_ord _ (by omega) _ (by decide)) | ((with_reducible apply ap_rI); exact kd_rid _ (by omega) _ (by decide)) | ((with_reducible apply ap_wI); exact kd_rid _ (by omega) _ (by decide)) | ((with_reducible apply ap_rc); exact (kd_clO _ (by omega)).1) | ((with_reducible apply ap_rc); exact (kd_clR _ (by omega)).1) | ((with_reducible apply ap_rc); exact (kd_clR _ (by omega)).2.2.1) | ((with_reducible apply ap_rR); exact (kd_ridA _ (by omega)).1) | ((with_reducible apply ap_rN); rfl) | ((with_reducible apply M_in)) | ((with_reducible apply X_isWithin)) | ((with_reducible apply ap_rI); rfl) | ((with_reducible apply ap_wI); rfl) | ((with_reducible apply ap_iA); rfl; (try simp only [bz_lit, pk_mul, nI_add]); rfl; omega) | ((with_reducible apply ap_iW); rfl; (try simp only [bz_lit, pk_mul, nI_add]); rfl; omega))
  exact ⟨_, rfl, hP⟩
theorem X_directWay {P : Int32 → bz_H → Prop} {a b : Nat} (ha : a < 16) (hb : b < 16) (hg : gd_b s) (hh : ∀ j, j < 16 → S.1 8 j = s (12 + j)) (hr : ∀ j, j < 256 → S.1 10 j = s (44 + j)) (hP : P (f_no (f_d s a b)) (bz_hp E S)) : bz_cI G l (d + 1) kX8_directWay [.inr (some 7), .inl (nI a), .inl (nI b)] (bz_hp E S) 0 0 P := by
  refine m_X8_directWay _ _ _ _ ?_
  unfold w_X8_directWay_0
  rw [f_no_d hg ha hb] at hP
  refine ⟨fun c => ?_, fun c => ?_⟩
  · rw [if_neg (fun q => c (by rw [q]))] at hP
    repeat (first | ((with_reducible apply ap_rc); rfl) | ((with_reducible apply ap_nn)) | ((with_reducible apply ap_rR); rfl) | ((with_reducible apply M_ofOrder); rfl; (exact bz_lit _); omega; (first | omega | decide)) | ((with_reducible apply M_ofRider); rfl; (exact bz_lit _); omega; (first | omega | decide)) | ((with_reducible apply ap_rI); exact kd_ord _ (by omega) _ (by decide)) | ((with_reducible apply ap_wI); exact kd_ord _ (by omega) _ (by decide)) | ((with_reducible apply ap_rI); exact kd_rid _ (by omega) _ (by decide)) | ((with_reducible apply ap_wI); exact kd_rid _ (by omega) _ (by decide)) | ((with_reducible apply ap_rc); exact (kd_clO _ (by omega)).1) | ((with_reducible apply ap_rc); exact (kd_clR _ (by omega)).1) | ((with_reducible apply ap_rc); exact (kd_clR _ (by omega)).2.2.1) | ((with_reducible apply ap_rR); exact (kd_ridA _ (by omega)).1) | ((with_reducible apply ap_rN); rfl) | ((with_reducible apply M_in)) | ((with_reducible apply X_isWithin)) | ((with_reducible apply ap_rI); rfl) | ((with_reducible apply ap_wI); rfl) | ((with_reducible apply ap_iA); rfl; (try simp only [bz_lit, pk_mul, nI_add]); rfl; omega) | ((with_reducible apply ap_iW); rfl; (try simp only [bz_lit, pk_mul, nI_add]); rfl; omega))
    rw [hr _ (by omega), show 44 + (a * 16 + b) = 44 + 16 * a + b by omega]
    refine ⟨fun c1 => ?_, fun c1 => ?_⟩
    · rw [if_neg c1] at hP
      repeat (first | ((with_reducible apply ap_rc); rfl) | ((with_reducible apply ap_nn)) | ((with_reducible apply ap_rR); rfl) | ((with_reducible apply M_ofOrder); rfl; (exact bz_lit _); omega; (first | omega | decide)) | ((with_reducible apply M_ofRider); rfl; (exact bz_lit _); omega; (first | omega | decide)) | ((with_reducible apply ap_rI); exact kd_ord _ (by omega) _ (by decide)) | ((with_reducible apply ap_wI); exact kd_ord _ (by omega) _ (by decide)) | ((with_reducible apply ap_rI); exact kd_rid _ (by omega) _ (by decide)) | ((with_reducible apply ap_wI); exact kd_rid _ (by omega) _ (by decide)) | ((with_reducible apply ap_rc); exact (kd_clO _ (by omega)).1) | ((with_reducible apply ap_rc); exact (kd_clR _ (by omega)).1) | ((with_reducible apply ap_rc); exact (kd_clR _ (by omega)).2.2.1) | ((with_reducible apply ap_rR); exact (kd_ridA _ (by omega)).1) | ((with_reducible apply ap_rN); rfl) | ((with_reducible apply M_in)) | ((with_reducible apply X_isWithin)) | ((with_reducible apply ap_rI); rfl) | ((with_reducible apply ap_wI); rfl) | ((with_reducible apply ap_iA); rfl; (try simp only [bz_lit, pk_mul, nI_add]); rfl; omega) | ((with_reducible apply ap_iW); rfl; (try simp only [bz_lit, pk_mul, nI_add]); rfl; omega))
      rw [hh a ha, hh b hb]
      exact ⟨_, rfl, hP⟩
    · rw [if_pos c1] at hP
      exact ⟨_, rfl, hP⟩
  · rw [if_pos ((nI_eq (by omega) (by omega)).mp c)] at hP
    exact ⟨_, rfl, hP⟩
theorem f_tb_keep {F : Option Nat → Int32} {s : Nat → Int32} {k m : Nat} {g : Nat → Int32} (hg : ∀ j, j < 256 → g j = f_tb F s k m j) (hv : f_wy s (k + 1) (m / 16) (m % 16) = f_wy s k (m / 16) (m % 16)) : ∀ j, j < 256 → g j = f_tb F s k (m + 1) j := by
  intro j hj
  rw [hg j hj]
  unfold f_tb
  by_cases q : j < m
  · rw [if_pos q, if_pos (by omega)]
  · by_cases e : j = m
    · subst e
      rw [if_neg q, if_pos (by omega), hv]
    · rw [if_neg q, if_neg (by omega)]
theorem f_wy_s (s : Nat → Int32) (k a b : Nat) : f_wy s (k + 1) a b = wy_min (f_wy s k a b) (wy_add (f_wy s k a k) (f_wy s k k b)) := rfl
theorem X_shortenThrough {P : bz_H → Prop} {a k : Nat} (ha : a < 16) (hk : k < 16) (hg : gd_b s) {g0 : Nat → Int32} (h0 : ∀ j, j < 256 → g0 j = f_tb f_no s k (16 * a) j) (hs : ¬ f_no (f_wy s k a k) = -1) (hP : ∀ g, (∀ j, j < 256 → g j = f_tb f_no s k (16 * (a + 1)) j) → P (bz_hp E (bz_ur S.1 11 g, S.2))) : bz_cV G l (d + 2) kX8_shortenThrough [.inr (some 7), .inl (nI a), .inl (nI k)] (bz_hp E (bz_ur S.1 11 g0, S.2)) 0 0 P := by
  obtain ⟨x, ex⟩ := f_no_some hs
  have hx := f_wy_b hg (by omega) ex
  refine m_X8_shortenThrough _ _ _ _ (fun κ bc bs hl => ?_)
  unfold w_X8_shortenThrough_0
  repeat (first | ((with_reducible apply ap_rc); rfl) | ((with_reducible apply ap_nn)) | ((with_reducible apply ap_rR); rfl) | ((with_reducible apply M_ofOrder); rfl; (exact bz_lit _); omega; (first | omega | decide)) | ((with_reducible apply M_ofRider); rfl; (exact bz_lit _); omega; (first | omega | decide)) | ((with_reducible apply ap_rI); exact kd_ord _ (by omega) _ (by decide)) | ((with_reducible apply ap_wI); exact kd_ord _ (by omega) _ (by decide)) | ((with_reducible apply ap_rI); exact kd_rid _ (by omega) _ (by decide)) | ((with_reducible apply ap_wI); exact kd_rid _ (by omega) _ (by decide)) | ((with_reducible apply ap_rc); exact (kd_clO _ (by omega)).1) | ((with_reducible apply ap_rc); exact (kd_clR _ (by omega)).1) | ((with_reducible apply ap_rc); exact (kd_clR _ (by omega)).2.2.1) | ((with_reducible apply ap_rR); exact (kd_ridA _ (by omega)).1) | ((with_reducible apply ap_rN); rfl) | ((with_reducible apply M_in)) | ((with_reducible apply X_isWithin)) | ((with_reducible apply ap_rI); rfl) | ((with_reducible apply ap_wI); rfl) | ((with_reducible apply ap_iA); rfl; (try simp only [bz_lit, pk_mul, nI_add]); rfl; omega) | ((with_reducible apply ap_iW); rfl; (try simp only [bz_lit, pk_mul, nI_add]); rfl; omega))
  refine X_wayBetween ha hk ?_
  dsimp only
  rw [bz_ur_same, h0 _ (by omega), f_tb_c hk ha, ex]
  have main := bz_for (n := 16) (Q := fun b => ∀ g u5 u6, (∀ j, j < 256 → g j = f_tb f_no s k (16 * a + b) j) → bz_J G κ kX8_shortenThrough (d + 1 + 1) (fun v h' => v = none ∧ P h') bc bs 10 [some (.inr (some 7)), some (.inl (nI a)), some (.inl (nI k)), some (.inl (nI x)), some (.inl (nI b)), u5, u6] [] (bz_hp E (bz_ur S.1 11 g, S.2))) (fun b hb ih g u5 u6 hgg => ?_) (fun g u5 u6 hgg => ?_)
  · exact main g0 none none h0
  · refine g_X8_shortenThrough_10 hl _ _ _ _ _ _ _ _ ⟨fun c => absurd ((nI_leI (a := 16) (by omega) (by omega)).mp c) (by omega), fun c => ?_⟩
    repeat (first | ((with_reducible apply ap_rc); rfl) | ((with_reducible apply ap_nn)) | ((with_reducible apply ap_rR); rfl) | ((with_reducible apply M_ofOrder); rfl; (exact bz_lit _); omega; (first | omega | decide)) | ((with_reducible apply M_ofRider); rfl; (exact bz_lit _); omega; (first | omega | decide)) | ((with_reducible apply ap_rI); exact kd_ord _ (by omega) _ (by decide)) | ((with_reducible apply ap_wI); exact kd_ord _ (by omega) _ (by decide)) | ((with_reducible apply ap_rI); exact kd_rid _ (by omega) _ (by decide)) | ((with_reducible apply ap_wI); exact kd_rid _ (by omega) _ (by decide)) | ((with_reducible apply ap_rc); exact (kd_clO _ (by omega)).1) | ((with_reducible apply ap_rc); exact (kd_clR _ (by omega)).1) | ((with_reducible apply ap_rc); exact (kd_clR _ (by omega)).2.2.1) | ((with_reducible apply ap_rR); exact (kd_ridA _ (by omega)).1) | ((with_reducible apply ap_rN); rfl) | ((with_reducible apply M_in)) | ((with_reducible apply X_isWithin)) | ((with_reducible apply ap_rI); rfl) | ((with_reducible apply ap_wI); rfl) | ((with_reducible apply ap_iA); rfl; (try simp only [bz_lit, pk_mul, nI_add]); rfl; omega) | ((with_reducible apply ap_iW); rfl; (try simp only [bz_lit, pk_mul, nI_add]); rfl; omega))
    refine X_wayBetween hk hb ?_
    repeat (first | ((with_reducible apply ap_rc); rfl) | ((with_reducible apply ap_nn)) | ((with_reducible apply ap_rR); rfl) | ((with_reducible apply M_ofOrder); rfl; (exact bz_lit _); omega; (first | omega | decide)) | ((with_reducible apply M_ofRider); rfl; (exact bz_lit _); omega; (first | omega | decide)) | ((with_reducible apply ap_rI); exact kd_ord _ (by omega) _ (by decide)) | ((with_reducible apply ap_wI); exact kd_ord _ (by omega) _ (by decide)) | ((with_reducible apply ap_rI); exact kd_rid _ (by omega) _ (by decide)) | ((with_reducible apply ap_wI); exact kd_rid _ (by omega) _ (by decide)) | ((with_reducible apply ap_rc); exact (kd_clO _ (by omega)).1) | ((with_reducible apply ap_rc); exact (kd_clR _ (by omega)).1) | ((with_reducible apply ap_rc); exact (kd_clR _ (by omega)).2.2.1) | ((with_reducible apply ap_rR); exact (kd_ridA _ (by omega)).1) | ((with_reducible apply ap_rN); rfl) | ((with_reducible apply M_in)) | ((with_reducible apply X_isWithin)) | ((with_reducible apply ap_rI); rfl) | ((with_reducible apply ap_wI); rfl) | ((with_reducible apply ap_iA); rfl; (try simp only [bz_lit, pk_mul, nI_add]); rfl; omega) | ((with_reducible apply ap_iW); rfl; (try simp only [bz_lit, pk_mul, nI_add]); rfl; omega))
    refine X_wayBetween ha hb ?_
    dsimp only
    have e2 : g (16 * k + b) = f_no (f_wy s k k b) := (hgg _ (by omega)).trans (f_tb_r hb)
    have e3 : g (16 * a + b) = f_no (f_wy s k a b) := by
      rw [hgg _ (by omega)]
      unfold f_tb
      rw [if_neg (by omega), show (16 * a + b) / 16 = a by omega, show (16 * a + b) % 16 = b by omega]
    rw [bz_ur_same, e2, e3]
    have d1 : (16 * a + b) / 16 = a := by omega
    have d2 : (16 * a + b) % 16 = b := by omega
    rw [nI_succ] at ih
    have keep : f_wy s (k + 1) a b = f_wy s k a b → ∀ u5 u6, bz_J G κ kX8_shortenThrough (d + 1 + 1) (fun v h' => v = none ∧ P h') bc bs 10 [some (.inr (some 7)), some (.inl (nI a)), some (.inl (nI k)), some (.inl (nI x)), some (.inl (nI b + 1)), u5, u6] [] (bz_hp E (bz_ur S.1 11 g, S.2)) := by
      intro hv u5 u6
      refine ih g u5 u6 (f_tb_keep (m := 16 * a + b) hgg ?_)
      rw [d1, d2]
      exact hv
    have put : ∀ v, v = f_no (f_wy s (k + 1) a b) → ∀ u5 u6, bz_J G κ kX8_shortenThrough (d + 1 + 1) (fun v h' => v = none ∧ P h') bc bs 10 [some (.inr (some 7)), some (.inl (nI a)), some (.inl (nI k)), some (.inl (nI x)), some (.inl (nI b + 1)), u5, u6] [] (bz_hp E (bz_u (bz_ur S.1 11 g) 11 (a * 16 + b) v, S.2)) := by
      intro v hv u5 u6
      rw [show a * 16 + b = 16 * a + b by omega, bz_u_of_ur]
      refine ih _ u5 u6 (f_tb_up (m := 16 * a + b) hgg ?_)
      rw [d1, d2]
      exact hv
    refine ⟨fun c1 => ?_, fun c1 => ⟨fun c2 => ?_, fun c2 => ⟨fun c3 => ?_, fun c3 => ?_⟩⟩⟩
    · have q := f_no_none (fun v hv => Nat.le_trans (f_wy_b hg (by omega) hv) (by decide)) c1
      refine keep ?_ _ _
      rw [f_wy_s, ex, q]
      cases f_wy s k a b <;> rfl
    · obtain ⟨y, ey⟩ := f_no_some c1
      have q := f_no_none (fun v hv => Nat.le_trans (f_wy_b hg (by omega) hv) (by decide)) c2
      rw [ey]
      repeat (first | ((with_reducible apply ap_rc); rfl) | ((with_reducible apply ap_nn)) | ((with_reducible apply ap_rR); rfl) | ((with_reducible apply M_ofOrder); rfl; (exact bz_lit _); omega; (first | omega | decide)) | ((with_reducible apply M_ofRider); rfl; (exact bz_lit _); omega; (first | omega | decide)) | ((with_reducible apply ap_rI); exact kd_ord _ (by omega) _ (by decide)) | ((with_reducible apply ap_wI); exact kd_ord _ (by omega) _ (by decide)) | ((with_reducible apply ap_rI); exact kd_rid _ (by omega) _ (by decide)) | ((with_reducible apply ap_wI); exact kd_rid _ (by omega) _ (by decide)) | ((with_reducible apply ap_rc); exact (kd_clO _ (by omega)).1) | ((with_reducible apply ap_rc); exact (kd_clR _ (by omega)).1) | ((with_reducible apply ap_rc); exact (kd_clR _ (by omega)).2.2.1) | ((with_reducible apply ap_rR); exact (kd_ridA _ (by omega)).1) | ((with_reducible apply ap_rN); rfl) | ((with_reducible apply M_in)) | ((with_reducible apply X_isWithin)) | ((with_reducible apply ap_rI); rfl) | ((with_reducible apply ap_wI); rfl) | ((with_reducible apply ap_iA); rfl; (try simp only [bz_lit, pk_mul, nI_add]); rfl; omega) | ((with_reducible apply ap_iW); rfl; (try simp only [bz_lit, pk_mul, nI_add]); rfl; omega))
      refine put _ ?_ _ _
      rw [f_wy_s, ex, q, ey]
      exact nI_add x y
    · obtain ⟨y, ey⟩ := f_no_some c1
      obtain ⟨z, ez⟩ := f_no_some c2
      have hy := f_wy_b hg (by omega) ey
      have hz := f_wy_b hg (by omega) ez
      rw [ey, ez] at c3
      refine keep ?_ _ _
      rw [f_wy_s, ex, ey, ez]
      have c3' : nI z ≤ nI (x + y) := by rw [← nI_add]; exact c3
      have := (nI_leI (by omega) (by omega)).mp c3'
      show some (if x + y < z then x + y else z) = some z
      rw [if_neg (by omega)]
    · obtain ⟨y, ey⟩ := f_no_some c1
      obtain ⟨z, ez⟩ := f_no_some c2
      have hy := f_wy_b hg (by omega) ey
      have hz := f_wy_b hg (by omega) ez
      rw [ey, ez] at c3
      rw [ey]
      repeat (first | ((with_reducible apply ap_rc); rfl) | ((with_reducible apply ap_nn)) | ((with_reducible apply ap_rR); rfl) | ((with_reducible apply M_ofOrder); rfl; (exact bz_lit _); omega; (first | omega | decide)) | ((with_reducible apply M_ofRider); rfl; (exact bz_lit _); omega; (first | omega | decide)) | ((with_reducible apply ap_rI); exact kd_ord _ (by omega) _ (by decide)) | ((with_reducible apply ap_wI); exact kd_ord _ (by omega) _ (by decide)) | ((with_reducible apply ap_rI); exact kd_rid _ (by omega) _ (by decide)) | ((with_reducible apply ap_wI); exact kd_rid _ (by omega) _ (by decide)) | ((with_reducible apply ap_rc); exact (kd_clO _ (by omega)).1) | ((with_reducible apply ap_rc); exact (kd_clR _ (by omega)).1) | ((with_reducible apply ap_rc); exact (kd_clR _ (by omega)).2.2.1) | ((with_reducible apply ap_rR); exact (kd_ridA _ (by omega)).1) | ((with_reducible apply ap_rN); rfl) | ((with_reducible apply M_in)) | ((with_reducible apply X_isWithin)) | ((with_reducible apply ap_rI); rfl) | ((with_reducible apply ap_wI); rfl) | ((with_reducible apply ap_iA); rfl; (try simp only [bz_lit, pk_mul, nI_add]); rfl; omega) | ((with_reducible apply ap_iW); rfl; (try simp only [bz_lit, pk_mul, nI_add]); rfl; omega))
      refine put _ ?_ _ _
      rw [f_wy_s, ex, ey, ez]
      have c3' : ¬ nI z ≤ nI (x + y) := by rw [← nI_add]; exact c3
      have : ¬ z ≤ x + y := fun q => c3' (nI_le q (by omega))
      show nI x + nI y = nI (if x + y < z then x + y else z)
      rw [if_pos (by omega), nI_add]
  · refine g_X8_shortenThrough_10 hl _ _ _ _ _ _ _ _ ⟨fun c => ⟨rfl, hP g hgg⟩, fun c => absurd (show (16 : Int32) ≤ nI 16 by decide) c⟩
theorem X_measureWays {P : bz_H → Prop} (hg : gd_b s) (hh : ∀ j, j < 16 → S.1 8 j = s (12 + j)) (hr : ∀ j, j < 256 → S.1 10 j = s (44 + j)) (hP : ∀ g, (∀ j, j < 256 → g j = f_tb f_no s 16 0 j) → P (bz_hp E (bz_ur S.1 11 g, S.2))) : bz_cV G l (d + 3) kX8_measureWays [.inr (some 7)] (bz_hp E S) 0 0 P := by
  refine m_X8_measureWays _ _ (fun κ bc bs hl => ?_)
  unfold w_X8_measureWays_0
  have p2 := bz_for (n := 16) (Q := fun k => ∀ g u2, (∀ j, j < 256 → g j = f_tb f_no s k 0 j) → bz_J G κ kX8_measureWays (d + 2 + 1) (fun v h' => v = none ∧ P h') bc bs 47 [some (.inr (some 7)), some (.inl (nI k)), u2] [] (bz_hp E (bz_ur S.1 11 g, S.2))) (fun k hk ih g u2 hgg => ?_) (fun g u2 hgg => ?_)
  · have p1 := bz_for (n := 16) (Q := fun a => ∀ g u2, (∀ j, j < 16 * a → g j = f_tb f_no s 0 0 j) → bz_J G κ kX8_measureWays (d + 2 + 1) (fun v h' => v = none ∧ P h') bc bs 2 [some (.inr (some 7)), some (.inl (nI a)), u2] [] (bz_hp E (bz_ur S.1 11 g, S.2))) (fun a ha ih g u2 hgg => ?_) (fun g u2 hgg => ?_)
    · have := p1 (S.1 11) none (fun j hj => absurd hj (by omega))
      rw [bz_ur_id] at this
      exact this
    · refine g_X8_measureWays_2 hl _ _ _ _ ⟨fun c => absurd ((nI_leI (a := 16) (by omega) (by omega)).mp c) (by omega), fun c => ?_⟩
      have p0 := bz_for (n := 16) (Q := fun b => ∀ g, (∀ j, j < 16 * a + b → g j = f_tb f_no s 0 0 j) → bz_J G κ kX8_measureWays (d + 2 + 1) (fun v h' => v = none ∧ P h') bc bs 10 [some (.inr (some 7)), some (.inl (nI a)), some (.inl (nI b))] [] (bz_hp E (bz_ur S.1 11 g, S.2))) (fun b hb ih g hgg => ?_) (fun g hgg => ?_)
      · exact p0 g (fun j hj => hgg j (by omega))
      · refine g_X8_measureWays_10 hl _ _ _ _ ⟨fun c => absurd ((nI_leI (a := 16) (by omega) (by omega)).mp c) (by omega), fun c => ?_⟩
        repeat (first | ((with_reducible apply ap_rc); rfl) | ((with_reducible apply ap_nn)) | ((with_reducible apply ap_rR); rfl) | ((with_reducible apply M_ofOrder); rfl; (exact bz_lit _); omega; (first | omega | decide)) | ((with_reducible apply M_ofRider); rfl; (exact bz_lit _); omega; (first | omega | decide)) | ((with_reducible apply ap_rI); exact kd_ord _ (by omega) _ (by decide)) | ((with_reducible apply ap_wI); exact kd_ord _ (by omega) _ (by decide)) | ((with_reducible apply ap_rI); exact kd_rid _ (by omega) _ (by decide)) | ((with_reducible apply ap_wI); exact kd_rid _ (by omega) _ (by decide)) | ((with_reducible apply ap_rc); exact (kd_clO _ (by omega)).1) | ((with_reducible apply ap_rc); exact (kd_clR _ (by omega)).1) | ((with_reducible apply ap_rc); exact (kd_clR _ (by omega)).2.2.1) | ((with_reducible apply ap_rR); exact (kd_ridA _ (by omega)).1) | ((with_reducible apply ap_rN); rfl) | ((with_reducible apply M_in)) | ((with_reducible apply X_isWithin)) | ((with_reducible apply ap_rI); rfl) | ((with_reducible apply ap_wI); rfl) | ((with_reducible apply ap_iA); rfl; (try simp only [bz_lit, pk_mul, nI_add]); rfl; omega) | ((with_reducible apply ap_iW); rfl; (try simp only [bz_lit, pk_mul, nI_add]); rfl; omega))
        refine X_directWay (s := s) ha hb hg (fun j hj => by dsimp only; rw [bz_ur_ne _ _ (by decide)]; exact hh j hj) (fun j hj => by dsimp only; rw [bz_ur_ne _ _ (by decide)]; exact hr j hj) ?_
        repeat (first | ((with_reducible apply ap_rc); rfl) | ((with_reducible apply ap_nn)) | ((with_reducible apply ap_rR); rfl) | ((with_reducible apply M_ofOrder); rfl; (exact bz_lit _); omega; (first | omega | decide)) | ((with_reducible apply M_ofRider); rfl; (exact bz_lit _); omega; (first | omega | decide)) | ((with_reducible apply ap_rI); exact kd_ord _ (by omega) _ (by decide)) | ((with_reducible apply ap_wI); exact kd_ord _ (by omega) _ (by decide)) | ((with_reducible apply ap_rI); exact kd_rid _ (by omega) _ (by decide)) | ((with_reducible apply ap_wI); exact kd_rid _ (by omega) _ (by decide)) | ((with_reducible apply ap_rc); exact (kd_clO _ (by omega)).1) | ((with_reducible apply ap_rc); exact (kd_clR _ (by omega)).1) | ((with_reducible apply ap_rc); exact (kd_clR _ (by omega)).2.2.1) | ((with_reducible apply ap_rR); exact (kd_ridA _ (by omega)).1) | ((with_reducible apply ap_rN); rfl) | ((with_reducible apply M_in)) | ((with_reducible apply X_isWithin)) | ((with_reducible apply ap_rI); rfl) | ((with_reducible apply ap_wI); rfl) | ((with_reducible apply ap_iA); rfl; (try simp only [bz_lit, pk_mul, nI_add]); rfl; omega) | ((with_reducible apply ap_iW); rfl; (try simp only [bz_lit, pk_mul, nI_add]); rfl; omega))
        dsimp only
        rw [show a * 16 + b = 16 * a + b by omega, bz_u_of_ur, ← nI_succ]
        refine ih _ (fun j hj => ?_)
        by_cases q : j = 16 * a + b
        · subst q
          rw [pk_us]
          unfold f_tb
          rw [if_neg (by omega), show (16 * a + b) / 16 = a by omega, show (16 * a + b) % 16 = b by omega]
          rfl
        · rw [pk_un q]
          exact hgg j (by omega)
      · refine g_X8_measureWays_10 hl _ _ _ _ ⟨fun c => ?_, fun c => absurd (show (16 : Int32) ≤ nI 16 by decide) c⟩
        rw [← nI_succ]
        exact ih g _ (fun j hj => hgg j (by omega))
    · refine g_X8_measureWays_2 hl _ _ _ _ ⟨fun c => ?_, fun c => absurd (show (16 : Int32) ≤ nI 16 by decide) c⟩
      exact p2 g _ hgg
  · refine g_X8_measureWays_47 hl _ _ _ _ ⟨fun c => absurd ((nI_leI (a := 16) (by omega) (by omega)).mp c) (by omega), fun c => ?_⟩
    have p3 := bz_for (n := 16) (Q := fun a => ∀ g, (∀ j, j < 256 → g j = f_tb f_no s k (16 * a) j) → bz_J G κ kX8_measureWays (d + 2 + 1) (fun v h' => v = none ∧ P h') bc bs 55 [some (.inr (some 7)), some (.inl (nI k)), some (.inl (nI a))] [] (bz_hp E (bz_ur S.1 11 g, S.2))) (fun a ha ih g hgg => ?_) (fun g hgg => ?_)
    · exact p3 g hgg
    · refine g_X8_measureWays_55 hl _ _ _ _ ⟨fun c => absurd ((nI_leI (a := 16) (by omega) (by omega)).mp c) (by omega), fun c => ?_⟩
      rw [nI_succ] at ih
      repeat (first | ((with_reducible apply ap_rc); rfl) | ((with_reducible apply ap_nn)) | ((with_reducible apply ap_rR); rfl) | ((with_reducible apply M_ofOrder); rfl; (exact bz_lit _); omega; (first | omega | decide)) | ((with_reducible apply M_ofRider); rfl; (exact bz_lit _); omega; (first | omega | decide)) | ((with_reducible apply ap_rI); exact kd_ord _ (by omega) _ (by decide)) | ((with_reducible apply ap_wI); exact kd_ord _ (by omega) _ (by decide)) | ((with_reducible apply ap_rI); exact kd_rid _ (by omega) _ (by decide)) | ((with_reducible apply ap_wI); exact kd_rid _ (by omega) _ (by decide)) | ((with_reducible apply ap_rc); exact (kd_clO _ (by omega)).1) | ((with_reducible apply ap_rc); exact (kd_clR _ (by omega)).1) | ((with_reducible apply ap_rc); exact (kd_clR _ (by omega)).2.2.1) | ((with_reducible apply ap_rR); exact (kd_ridA _ (by omega)).1) | ((with_reducible apply ap_rN); rfl) | ((with_reducible apply M_in)) | ((with_reducible apply X_isWithin)) | ((with_reducible apply ap_rI); rfl) | ((with_reducible apply ap_wI); rfl) | ((with_reducible apply ap_iA); rfl; (try simp only [bz_lit, pk_mul, nI_add]); rfl; omega) | ((with_reducible apply ap_iW); rfl; (try simp only [bz_lit, pk_mul, nI_add]); rfl; omega))
      refine X_wayBetween ha hk ?_
      dsimp only
      rw [bz_ur_same, hgg _ (by omega), f_tb_c hk ha]
      refine ⟨fun c1 => ih g (fun j hj => ?_), fun c1 => ?_⟩
      · have q := f_no_none (fun v hv => Nat.le_trans (f_wy_b hg (by omega) hv) (by decide)) c1
        rw [hgg j hj]
        unfold f_tb
        by_cases h1 : j < 16 * a
        · rw [if_pos h1, if_pos (by omega)]
        · by_cases h2 : j < 16 * (a + 1)
          · rw [if_neg h1, if_pos h2, show j / 16 = a by omega, f_wy_s, q]
            cases f_wy s k a (j % 16) <;> rfl
          · rw [if_neg h1, if_neg h2]
      · repeat (first | ((with_reducible apply ap_rc); rfl) | ((with_reducible apply ap_nn)) | ((with_reducible apply ap_rR); rfl) | ((with_reducible apply M_ofOrder); rfl; (exact bz_lit _); omega; (first | omega | decide)) | ((with_reducible apply M_ofRider); rfl; (exact bz_lit _); omega; (first | omega | decide)) | ((with_reducible apply ap_rI); exact kd_ord _ (by omega) _ (by decide)) | ((with_reducible apply ap_wI); exact kd_ord _ (by omega) _ (by decide)) | ((with_reducible apply ap_rI); exact kd_rid _ (by omega) _ (by decide)) | ((with_reducible apply ap_wI); exact kd_rid _ (by omega) _ (by decide)) | ((with_reducible apply ap_rc); exact (kd_clO _ (by omega)).1) | ((with_reducible apply ap_rc); exact (kd_clR _ (by omega)).1) | ((with_reducible apply ap_rc); exact (kd_clR _ (by omega)).2.2.1) | ((with_reducible apply ap_rR); exact (kd_ridA _ (by omega)).1) | ((with_reducible apply ap_rN); rfl) | ((with_reducible apply M_in)) | ((with_reducible apply X_isWithin)) | ((with_reducible apply ap_rI); rfl) | ((with_reducible apply ap_wI); rfl) | ((with_reducible apply ap_iA); rfl; (try simp only [bz_lit, pk_mul, nI_add]); rfl; omega) | ((with_reducible apply ap_iW); rfl; (try simp only [bz_lit, pk_mul, nI_add]); rfl; omega))
        exact X_shortenThrough ha hk hg hgg c1 (fun g' hg' => ih g' hg')
    · refine g_X8_measureWays_55 hl _ _ _ _ ⟨fun c => ?_, fun c => absurd (show (16 : Int32) ≤ nI 16 by decide) c⟩
      rw [← nI_succ]
      exact ih g _ (fun j hj => (hgg j hj).trans (f_tb_end _ _ _ hj))
  · exact g_X8_measureWays_47 hl _ _ _ _ ⟨fun c => ⟨rfl, hP g hgg⟩, fun c => absurd (show (16 : Int32) ≤ nI 16 by decide) c⟩
end FWX
