/-! the class measures all ways -/
theorem f_no_some {o : Option Nat} (h : ¬ f_no o = -1) : ∃ v, o = some v := by
  cases o with
  | none => exact absurd rfl h
  | some v => exact ⟨v, rfl⟩
theorem f_no_none {o : Option Nat} (hb : ∀ v, o = some v → v ≤ 5000) (h : f_no o = -1) : o = none := by
  cases o with
  | none => rfl
  | some v =>
    have := hb v rfl
    have e : (nI v).toInt = (v : Int) := nI_toInt (by omega)
    have h' : nI v = -1 := h
    rw [h'] at e
    have e1 : (-1 : Int32).toInt = -1 := rfl
    omega
theorem f_no_d {s : Nat → Int32} (h : gd_b s) {a b : Nat} (ha : a < 16) (hb : b < 16) : f_no (f_d s a b) = if a = b then 0 else if s (44 + 16 * a + b) = 0 then -1 else s (44 + 16 * a + b) + (if 0 < s (12 + b) - s (12 + a) then s (12 + b) - s (12 + a) else 0) := by
  have e := f_far_d h ha hb
  rw [mx_0]
  unfold f_d at e ⊢
  by_cases q : a = b
  · rw [if_pos q, if_pos q]; rfl
  · rw [if_neg q, if_neg (show ¬ (16 ≤ a ∨ 16 ≤ b) by omega)] at e ⊢
    rw [if_neg q] at e ⊢
    by_cases z : s (44 + 16 * a + b) = 0
    · rw [if_pos z, if_pos z]; rfl
    · rw [if_neg z, if_neg z] at e ⊢
      exact e
section FWX
variable {G : bz_G} {l : Launch} {d : Nat} {E : Nat × (Nat → Int32)} {S : bz_S} {s : Nat → Int32}
theorem X_wayBetween {P : Int32 → bz_H → Prop} {a b : Nat} (ha : a < 16) (hb : b < 16) (hP : P (S.1 11 (16 * a + b)) (bz_hp E S)) : bz_cI G l (d + 1) kX8_wayBetween [.inr (some 7), .inl (nI a), .inl (nI b)] (bz_hp E S) 0 0 P := by
  refine m_X8_wayBetween _ _ _ _ ?_
  unfold w_X8_wayBetween_0
  rw [show 16 * a + b = a * 16 + b by omega] at hP
  repeat (first | ((with_reducible apply ap_rc); rfl) | ((with_reducible apply ap_nn)) | ((with_reducible apply ap_rR); rfl) | ((with_reducible apply M_ofOrder); rfl; (exact bz_lit _); omega; (first | omega | decide)) | ((with_reducible apply M_ofRider); rfl; (exact bz_lit _); omega; (first | omega | decide)) | ((with_reducible apply ap_rI); exact kd_ord _ (by omega) _ (by decide)) | ((with_reducible apply ap_wI); exact kd_ord _ (by omega) _ (by decide)) | ((with_reducible apply ap_rI); exact kd_rid _ (by omega) _ (by decide)) | ((with_reducible apply ap_wI); exact kd_rid _ (by omega) _ (by decide)) | ((with_reducible apply ap_rc); exact (kd_clO _ (by omega)).1) | ((with_reducible apply ap_rc); exact (kd_clR _ (by omega)).1) | ((with_reducible apply ap_rc); exact (kd_clR _ (by omega)).2.2.1) | ((with_reducible apply ap_rR); exact (kd_ridA _ (by omega)).1) | ((with_reducible apply ap_rN); rfl) | ((with_reducible apply M_in)) | ((with_reducible apply X_isWithin)) | ((with_reducible apply ap_rI); rfl) | ((with_reducible apply ap_wI); rfl) | ((with_reducible apply ap_iA); rfl; (try simp only [bz_lit, pk_mul, nI_add]); rfl; omega) | ((with_reducible apply ap_iW); rfl; (try simp only [bz_lit, pk_mul, nI_add]); rfl; omega))
  exact ⟨_, rfl, hP⟩
theorem X_directWay {P : Int32 → bz_H → Prop} {a b : Nat} (ha : a < 16) (hb : b < 16) (hg : gd_b s) (hh : ∀ j, j < 16 → S.1 8 j = s (12 + j)) (hr : ∀ j, j < 256 → S.1 10 j = s (44 + j)) (hP : P (f_no (f_d s a b)) (bz_hp E S)) : bz_cI G l (d + 1) kX8_directWay [.inr (some 7), .inl (nI a), .inl (nI b)] (bz_hp E S) 0 0 P := by
  refine m_X8_directWay _ _ _ _ ?_
  unfold w_X8_directWay_0
  rw [f_no_d hg ha hb] at hP
  refine ⟨fun c => ?_, fun c => ?_⟩
  · rw [if_neg (fun q => c (by rw [q]))] at hP
    repeat (first | ((with_reducible apply ap_rc); rfl) | ((with_reducible apply ap_nn)) | ((with_reducible apply ap_rR); rfl) | ((with_reducible apply M_ofOrder); rfl; (exact bz_lit _); omega; (first | omega | decide)) | ((with_reducible apply M_ofRider); rfl; (exact bz_lit _); omega; (first | omega | decide)) | ((with_reducible apply ap_rI); exact kd_ord _ (by omega) _ (by decide)) | ((with_reducible apply ap_wI); exact kd_ord _ (by omega) _ (by decide)) | ((with_reducible apply ap_rI); exact kd_rid _ (by omega) _ (by decide)) | ((with_reducible apply ap_wI); exact kd_rid _ (by omega) _ (by decide)) | ((with_reducible apply ap_rc); exact (kd_clO _ (by omega)).1) | ((with_reducible apply ap_rc); exact (kd_clR _ (by omega)).1) | ((with_reducible apply ap_rc); exact (kd_clR _ (by omega)).2.2.1) | ((with_reducible apply ap_rR); exact (kd_ridA _ (by omega)).1) | ((with_reducible apply ap_rN); rfl) | ((with_reducible apply M_in)) | ((with_reducible apply X_isWithin)) | ((with_reducible apply ap_rI); rfl) | ((with_reducible apply ap_wI); rfl) | ((with_reducible apply ap_iA); rfl; (try simp only [bz_lit, pk_mul, nI_add]); rfl; omega) | ((with_reducible apply ap_iW); rfl; (try simp only [bz_lit, pk_mul, nI_add]); rfl; omega))
    rw [hr _ (by omega), show 44 + (a * 16 + b) = 44 + 16 * a + b by omega]
    refine ⟨fun c1 => ?_, fun c1 => ?_⟩
    · rw [if_neg c1] at hP
      repeat (first | ((with_reducible apply ap_rc); rfl) | ((with_reducible apply ap_nn)) | ((with_reducible apply ap_rR); rfl) | ((with_reducible apply M_ofOrder); rfl; (exact bz_lit _); omega; (first | omega | decide)) | ((with_reducible apply M_ofRider); rfl; (exact bz_lit _); omega; (first | omega | decide)) | ((with_reducible apply ap_rI); exact kd_ord _ (by omega) _ (by decide)) | ((with_reducible apply ap_wI); exact kd_ord _ (by omega) _ (by decide)) | ((with_reducible apply ap_rI); exact kd_rid _ (by omega) _ (by decide)) | ((with_reducible apply ap_wI); exact kd_rid _ (by omega) _ (by decide)) | ((with_reducible apply ap_rc); exact (kd_clO _ (by omega)).1) | ((with_reducible apply ap_rc); exact (kd_clR _ (by omega)).1) | ((with_reducible apply ap_rc); exact (kd_clR _ (by omega)).2.2.1) | ((with_reducible apply ap_rR); exact (kd_ridA _ (by omega)).1) | ((with_reducible apply ap_rN); rfl) | ((with_reducible apply M_in)) | ((with_reducible apply X_isWithin)) | ((with_reducible apply ap_rI); rfl) | ((with_reducible apply ap_wI); rfl) | ((with_reducible apply ap_iA); rfl; (try simp only [bz_lit, pk_mul, nI_add]); rfl; omega) | ((with_reducible apply ap_iW); rfl; (try simp only [bz_lit, pk_mul, nI_add]); rfl; omega))
      rw [hh a ha, hh b hb]
      exact ⟨_, rfl, hP⟩
    · rw [if_pos c1] at hP
      exact ⟨_, rfl, hP⟩
  · rw [if_pos ((nI_eq (by omega) (by omega)).mp c)] at hP
    exact ⟨_, rfl, hP⟩
end FWX
