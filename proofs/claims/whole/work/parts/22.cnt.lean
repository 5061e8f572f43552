/-! the minutes that count -/
theorem tb_bt : ∀ t, t < 24 → ∀ j, j < 3 → tb_b (894 + 3 * t + j) = ([12, 1440, 1440] : List Nat).getD j 0 := by decide +kernel
theorem gb_t {s : Nat → Int32} (h : gd_b s) {t : Nat} (ht : t < 24) (j : Nat) (hj : j < 3) : bz_lt (s (894 + 3 * t + j)) (([12, 1440, 1440] : List Nat).getD j 0) := by
  rw [← tb_bt t ht j hj]
  exact h _ (by omega) (by omega) (by omega)
def f_min (s : Nat → Int32) (r b : Nat) : Nat → Int32 := f_sum (fun i => if f_app s r (nI (b + i)) = 0 then 0 else 1)
def f_ct (s : Nat → Int32) (r t : Nat) : Int32 := if s (894 + 3 * t + 0) = nI r then f_min s r (s (894 + 3 * t + 1)).toNatClampNeg ((s (894 + 3 * t + 2)).toNatClampNeg - (s (894 + 3 * t + 1)).toNatClampNeg) else 0
def f_wi (s : Nat → Int32) (r : Nat) : Int32 := f_sum (f_ct s r) (s 10).toNatClampNeg
def f_cou (s : Nat → Int32) (r : Nat) : Int32 := f_eng s r - f_wi s r + f_wi s r / 2
section CNT
variable {G : bz_G} {l : Launch} {d : Nat} {E : Nat × (Nat → Int32)} {S : bz_S} {P : Int32 → bz_H → Prop} {s : Nat → Int32}
theorem M_counting {r : Nat} (hr : r < 12) (hg : gd_b (S.1 187)) (hP : P (f_cou (S.1 187) r) (bz_hp E S)) : bz_cI G l (d + 3) kX12_counting [.inr (some 186), .inl (nI r)] (bz_hp E S) 0 0 P := by
  refine m_X12_counting _ _ _ (fun κ bc bs hl => ?_)
  unfold w_X12_counting_0
  obtain ⟨n, hn, en⟩ : bz_lt (S.1 187 10) 25 := hg 10 (by decide) (by decide) (by decide)
  unfold f_cou f_wi at hP
  rw [en, nI_clamp (by omega)] at hP
  have main := bz_for (n := n) (Q := fun k => ∀ u4, bz_J G κ kX12_counting (d + 2 + 1) (fun v h' => ∃ x, v = some (.inl x) ∧ P x h') bc bs 4 [some (.inr (some 186)), some (.inl (nI r)), some (.inl (f_sum (f_ct (S.1 187) r) k)), some (.inl (nI k)), u4] [] (bz_hp E S)) (fun k hk ih => ?_) ?_
  · exact main none
  · intro u4
    refine g_X12_counting_4 hl _ _ _ _ _ _ ?_
    unfold w_X12_counting_4
    repeat (first | ((with_reducible apply ap_rc); rfl) | ((with_reducible apply ap_nn)) | ((with_reducible apply ap_rR); rfl) | ((with_reducible apply M_ofOrder); rfl; (exact bz_lit _); omega; (first | omega | decide)) | ((with_reducible apply M_ofRider); rfl; (exact bz_lit _); omega; (first | omega | decide)) | ((with_reducible apply ap_rI); exact kd_ord _ (by omega) _ (by decide)) | ((with_reducible apply ap_wI); exact kd_ord _ (by omega) _ (by decide)) | ((with_reducible apply ap_rI); exact kd_rid _ (by omega) _ (by decide)) | ((with_reducible apply ap_wI); exact kd_rid _ (by omega) _ (by decide)) | ((with_reducible apply ap_rc); exact (kd_clO _ (by omega)).1) | ((with_reducible apply ap_rc); exact (kd_clR _ (by omega)).1) | ((with_reducible apply ap_rc); exact (kd_clR _ (by omega)).2.2.1) | ((with_reducible apply ap_rR); exact (kd_ridA _ (by omega)).1) | ((with_reducible apply ap_rN); rfl) | ((with_reducible apply M_in)) | ((with_reducible apply X_isWithin)) | ((with_reducible apply ap_rI); rfl) | ((with_reducible apply ap_wI); rfl) | ((with_reducible apply ap_iA); rfl; (try simp only [bz_lit, pk_mul, nI_add]); rfl; omega) | ((with_reducible apply ap_iW); rfl; (try simp only [bz_lit, pk_mul, nI_add]); rfl; omega))
    rw [en]
    refine ⟨fun c => absurd ((nI_leI (by omega) (by omega)).mp c) (by omega), fun c => ?_⟩
    rw [f_sum, nI_succ] at ih
    obtain ⟨b, hb, eb⟩ : bz_lt (S.1 187 (894 + 3 * k + 1)) 1440 := gb_t hg (by omega) 1 (by decide)
    obtain ⟨e, he, ee⟩ : bz_lt (S.1 187 (894 + 3 * k + 2)) 1440 := gb_t hg (by omega) 2 (by decide)
    repeat (first | ((with_reducible apply ap_rc); rfl) | ((with_reducible apply ap_nn)) | ((with_reducible apply ap_rR); rfl) | ((with_reducible apply M_ofOrder); rfl; (exact bz_lit _); omega; (first | omega | decide)) | ((with_reducible apply M_ofRider); rfl; (exact bz_lit _); omega; (first | omega | decide)) | ((with_reducible apply ap_rI); exact kd_ord _ (by omega) _ (by decide)) | ((with_reducible apply ap_wI); exact kd_ord _ (by omega) _ (by decide)) | ((with_reducible apply ap_rI); exact kd_rid _ (by omega) _ (by decide)) | ((with_reducible apply ap_wI); exact kd_rid _ (by omega) _ (by decide)) | ((with_reducible apply ap_rc); exact (kd_clO _ (by omega)).1) | ((with_reducible apply ap_rc); exact (kd_clR _ (by omega)).1) | ((with_reducible apply ap_rc); exact (kd_clR _ (by omega)).2.2.1) | ((with_reducible apply ap_rR); exact (kd_ridA _ (by omega)).1) | ((with_reducible apply ap_rN); rfl) | ((with_reducible apply M_in)) | ((with_reducible apply X_isWithin)) | ((with_reducible apply ap_rI); rfl) | ((with_reducible apply ap_wI); rfl) | ((with_reducible apply ap_iA); rfl; (try simp only [bz_lit, pk_mul, nI_add]); rfl; omega) | ((with_reducible apply ap_iW); rfl; (try simp only [bz_lit, pk_mul, nI_add]); rfl; omega))
    rw [eb]
    by_cases hc : S.1 187 (894 + 3 * k) = nI r
    · rw [show f_ct (S.1 187) r k = _ from if_pos hc, ee, eb, nI_clamp (by omega), nI_clamp (by omega)] at ih
      have inner := bz_for (n := e - b) (Q := fun i => bz_J G κ kX12_counting (d + 2 + 1) (fun v h' => ∃ x, v = some (.inl x) ∧ P x h') bc bs 31 [some (.inr (some 186)), some (.inl (nI r)), some (.inl (f_sum (f_ct (S.1 187) r) k + f_min (S.1 187) r b i)), some (.inl (nI k)), some (.inl (nI (b + i)))] [] (bz_hp E S)) (fun i hi ih2 => ?_) ?_
      · rw [show f_min (S.1 187) r b 0 = 0 from rfl, Int32.add_zero] at inner
        exact inner
      · refine g_X12_counting_31 hl _ _ _ _ _ _ ?_
        unfold w_X12_counting_31
        repeat (first | ((with_reducible apply ap_rc); rfl) | ((with_reducible apply ap_nn)) | ((with_reducible apply ap_rR); rfl) | ((with_reducible apply M_ofOrder); rfl; (exact bz_lit _); omega; (first | omega | decide)) | ((with_reducible apply M_ofRider); rfl; (exact bz_lit _); omega; (first | omega | decide)) | ((with_reducible apply ap_rI); exact kd_ord _ (by omega) _ (by decide)) | ((with_reducible apply ap_wI); exact kd_ord _ (by omega) _ (by decide)) | ((with_reducible apply ap_rI); exact kd_rid _ (by omega) _ (by decide)) | ((with_reducible apply ap_wI); exact kd_rid _ (by omega) _ (by decide)) | ((with_reducible apply ap_rc); exact (kd_clO _ (by omega)).1) | ((with_reducible apply ap_rc); exact (kd_clR _ (by omega)).1) | ((with_reducible apply ap_rc); exact (kd_clR _ (by omega)).2.2.1) | ((with_reducible apply ap_rR); exact (kd_ridA _ (by omega)).1) | ((with_reducible apply ap_rN); rfl) | ((with_reducible apply M_in)) | ((with_reducible apply X_isWithin)) | ((with_reducible apply ap_rI); rfl) | ((with_reducible apply ap_wI); rfl) | ((with_reducible apply ap_iA); rfl; (try simp only [bz_lit, pk_mul, nI_add]); rfl; omega) | ((with_reducible apply ap_iW); rfl; (try simp only [bz_lit, pk_mul, nI_add]); rfl; omega))
        rw [ee]
        refine ⟨fun c => absurd ((nI_leI (by omega) (by omega)).mp c) (by omega), fun c => ?_⟩
        repeat (first | ((with_reducible apply ap_rc); rfl) | ((with_reducible apply ap_nn)) | ((with_reducible apply ap_rR); rfl) | ((with_reducible apply M_ofOrder); rfl; (exact bz_lit _); omega; (first | omega | decide)) | ((with_reducible apply M_ofRider); rfl; (exact bz_lit _); omega; (first | omega | decide)) | ((with_reducible apply ap_rI); exact kd_ord _ (by omega) _ (by decide)) | ((with_reducible apply ap_wI); exact kd_ord _ (by omega) _ (by decide)) | ((with_reducible apply ap_rI); exact kd_rid _ (by omega) _ (by decide)) | ((with_reducible apply ap_wI); exact kd_rid _ (by omega) _ (by decide)) | ((with_reducible apply ap_rc); exact (kd_clO _ (by omega)).1) | ((with_reducible apply ap_rc); exact (kd_clR _ (by omega)).1) | ((with_reducible apply ap_rc); exact (kd_clR _ (by omega)).2.2.1) | ((with_reducible apply ap_rR); exact (kd_ridA _ (by omega)).1) | ((with_reducible apply ap_rN); rfl) | ((with_reducible apply M_in)) | ((with_reducible apply X_isWithin)) | ((with_reducible apply ap_rI); rfl) | ((with_reducible apply ap_wI); rfl) | ((with_reducible apply ap_iA); rfl; (try simp only [bz_lit, pk_mul, nI_add]); rfl; omega) | ((with_reducible apply ap_iW); rfl; (try simp only [bz_lit, pk_mul, nI_add]); rfl; omega))
        refine ⟨fun c1 => absurd hc c1, fun c1 => ?_⟩
        repeat (first | ((with_reducible apply ap_rc); rfl) | ((with_reducible apply ap_nn)) | ((with_reducible apply ap_rR); rfl) | ((with_reducible apply M_ofOrder); rfl; (exact bz_lit _); omega; (first | omega | decide)) | ((with_reducible apply M_ofRider); rfl; (exact bz_lit _); omega; (first | omega | decide)) | ((with_reducible apply ap_rI); exact kd_ord _ (by omega) _ (by decide)) | ((with_reducible apply ap_wI); exact kd_ord _ (by omega) _ (by decide)) | ((with_reducible apply ap_rI); exact kd_rid _ (by omega) _ (by decide)) | ((with_reducible apply ap_wI); exact kd_rid _ (by omega) _ (by decide)) | ((with_reducible apply ap_rc); exact (kd_clO _ (by omega)).1) | ((with_reducible apply ap_rc); exact (kd_clR _ (by omega)).1) | ((with_reducible apply ap_rc); exact (kd_clR _ (by omega)).2.2.1) | ((with_reducible apply ap_rR); exact (kd_ridA _ (by omega)).1) | ((with_reducible apply ap_rN); rfl) | ((with_reducible apply M_in)) | ((with_reducible apply X_isWithin)) | ((with_reducible apply ap_rI); rfl) | ((with_reducible apply ap_wI); rfl) | ((with_reducible apply ap_iA); rfl; (try simp only [bz_lit, pk_mul, nI_add]); rfl; omega) | ((with_reducible apply ap_iW); rfl; (try simp only [bz_lit, pk_mul, nI_add]); rfl; omega))
        refine M_isElsewhere hr hg ?_
        rw [show f_min (S.1 187) r b (i + 1) = f_min (S.1 187) r b i + (if f_app (S.1 187) r (nI (b + i)) = 0 then 0 else 1) from rfl, ← Int32.add_assoc, ← Nat.add_assoc, nI_succ] at ih2
        exact ih2
      · refine g_X12_counting_31 hl _ _ _ _ _ _ ?_
        unfold w_X12_counting_31
        repeat (first | ((with_reducible apply ap_rc); rfl) | ((with_reducible apply ap_nn)) | ((with_reducible apply ap_rR); rfl) | ((with_reducible apply M_ofOrder); rfl; (exact bz_lit _); omega; (first | omega | decide)) | ((with_reducible apply M_ofRider); rfl; (exact bz_lit _); omega; (first | omega | decide)) | ((with_reducible apply ap_rI); exact kd_ord _ (by omega) _ (by decide)) | ((with_reducible apply ap_wI); exact kd_ord _ (by omega) _ (by decide)) | ((with_reducible apply ap_rI); exact kd_rid _ (by omega) _ (by decide)) | ((with_reducible apply ap_wI); exact kd_rid _ (by omega) _ (by decide)) | ((with_reducible apply ap_rc); exact (kd_clO _ (by omega)).1) | ((with_reducible apply ap_rc); exact (kd_clR _ (by omega)).1) | ((with_reducible apply ap_rc); exact (kd_clR _ (by omega)).2.2.1) | ((with_reducible apply ap_rR); exact (kd_ridA _ (by omega)).1) | ((with_reducible apply ap_rN); rfl) | ((with_reducible apply M_in)) | ((with_reducible apply X_isWithin)) | ((with_reducible apply ap_rI); rfl) | ((with_reducible apply ap_wI); rfl) | ((with_reducible apply ap_iA); rfl; (try simp only [bz_lit, pk_mul, nI_add]); rfl; omega) | ((with_reducible apply ap_iW); rfl; (try simp only [bz_lit, pk_mul, nI_add]); rfl; omega))
        rw [ee]
        refine ⟨fun c => ih _, fun c => absurd (nI_le (by omega) (by omega)) c⟩
    · rw [show f_ct (S.1 187) r k = _ from if_neg hc, Int32.add_zero] at ih
      refine g_X12_counting_31 hl _ _ _ _ _ _ ?_
      unfold w_X12_counting_31
      repeat (first | ((with_reducible apply ap_rc); rfl) | ((with_reducible apply ap_nn)) | ((with_reducible apply ap_rR); rfl) | ((with_reducible apply M_ofOrder); rfl; (exact bz_lit _); omega; (first | omega | decide)) | ((with_reducible apply M_ofRider); rfl; (exact bz_lit _); omega; (first | omega | decide)) | ((with_reducible apply ap_rI); exact kd_ord _ (by omega) _ (by decide)) | ((with_reducible apply ap_wI); exact kd_ord _ (by omega) _ (by decide)) | ((with_reducible apply ap_rI); exact kd_rid _ (by omega) _ (by decide)) | ((with_reducible apply ap_wI); exact kd_rid _ (by omega) _ (by decide)) | ((with_reducible apply ap_rc); exact (kd_clO _ (by omega)).1) | ((with_reducible apply ap_rc); exact (kd_clR _ (by omega)).1) | ((with_reducible apply ap_rc); exact (kd_clR _ (by omega)).2.2.1) | ((with_reducible apply ap_rR); exact (kd_ridA _ (by omega)).1) | ((with_reducible apply ap_rN); rfl) | ((with_reducible apply M_in)) | ((with_reducible apply X_isWithin)) | ((with_reducible apply ap_rI); rfl) | ((with_reducible apply ap_wI); rfl) | ((with_reducible apply ap_iA); rfl; (try simp only [bz_lit, pk_mul, nI_add]); rfl; omega) | ((with_reducible apply ap_iW); rfl; (try simp only [bz_lit, pk_mul, nI_add]); rfl; omega))
      refine ⟨fun c => ih _, fun c => ?_⟩
      repeat (first | ((with_reducible apply ap_rc); rfl) | ((with_reducible apply ap_nn)) | ((with_reducible apply ap_rR); rfl) | ((with_reducible apply M_ofOrder); rfl; (exact bz_lit _); omega; (first | omega | decide)) | ((with_reducible apply M_ofRider); rfl; (exact bz_lit _); omega; (first | omega | decide)) | ((with_reducible apply ap_rI); exact kd_ord _ (by omega) _ (by decide)) | ((with_reducible apply ap_wI); exact kd_ord _ (by omega) _ (by decide)) | ((with_reducible apply ap_rI); exact kd_rid _ (by omega) _ (by decide)) | ((with_reducible apply ap_wI); exact kd_rid _ (by omega) _ (by decide)) | ((with_reducible apply ap_rc); exact (kd_clO _ (by omega)).1) | ((with_reducible apply ap_rc); exact (kd_clR _ (by omega)).1) | ((with_reducible apply ap_rc); exact (kd_clR _ (by omega)).2.2.1) | ((with_reducible apply ap_rR); exact (kd_ridA _ (by omega)).1) | ((with_reducible apply ap_rN); rfl) | ((with_reducible apply M_in)) | ((with_reducible apply X_isWithin)) | ((with_reducible apply ap_rI); rfl) | ((with_reducible apply ap_wI); rfl) | ((with_reducible apply ap_iA); rfl; (try simp only [bz_lit, pk_mul, nI_add]); rfl; omega) | ((with_reducible apply ap_iW); rfl; (try simp only [bz_lit, pk_mul, nI_add]); rfl; omega))
      exact ⟨fun c1 => ih _, fun c1 => absurd c1 hc⟩
  · intro u4
    refine g_X12_counting_4 hl _ _ _ _ _ _ ?_
    unfold w_X12_counting_4
    repeat (first | ((with_reducible apply ap_rc); rfl) | ((with_reducible apply ap_nn)) | ((with_reducible apply ap_rR); rfl) | ((with_reducible apply M_ofOrder); rfl; (exact bz_lit _); omega; (first | omega | decide)) | ((with_reducible apply M_ofRider); rfl; (exact bz_lit _); omega; (first | omega | decide)) | ((with_reducible apply ap_rI); exact kd_ord _ (by omega) _ (by decide)) | ((with_reducible apply ap_wI); exact kd_ord _ (by omega) _ (by decide)) | ((with_reducible apply ap_rI); exact kd_rid _ (by omega) _ (by decide)) | ((with_reducible apply ap_wI); exact kd_rid _ (by omega) _ (by decide)) | ((with_reducible apply ap_rc); exact (kd_clO _ (by omega)).1) | ((with_reducible apply ap_rc); exact (kd_clR _ (by omega)).1) | ((with_reducible apply ap_rc); exact (kd_clR _ (by omega)).2.2.1) | ((with_reducible apply ap_rR); exact (kd_ridA _ (by omega)).1) | ((with_reducible apply ap_rN); rfl) | ((with_reducible apply M_in)) | ((with_reducible apply X_isWithin)) | ((with_reducible apply ap_rI); rfl) | ((with_reducible apply ap_wI); rfl) | ((with_reducible apply ap_iA); rfl; (try simp only [bz_lit, pk_mul, nI_add]); rfl; omega) | ((with_reducible apply ap_iW); rfl; (try simp only [bz_lit, pk_mul, nI_add]); rfl; omega))
    rw [en]
    refine ⟨fun c => ?_, fun c => absurd (nI_le (by omega) (by omega)) c⟩
    repeat (first | ((with_reducible apply ap_rc); rfl) | ((with_reducible apply ap_nn)) | ((with_reducible apply ap_rR); rfl) | ((with_reducible apply M_ofOrder); rfl; (exact bz_lit _); omega; (first | omega | decide)) | ((with_reducible apply M_ofRider); rfl; (exact bz_lit _); omega; (first | omega | decide)) | ((with_reducible apply ap_rI); exact kd_ord _ (by omega) _ (by decide)) | ((with_reducible apply ap_wI); exact kd_ord _ (by omega) _ (by decide)) | ((with_reducible apply ap_rI); exact kd_rid _ (by omega) _ (by decide)) | ((with_reducible apply ap_wI); exact kd_rid _ (by omega) _ (by decide)) | ((with_reducible apply ap_rc); exact (kd_clO _ (by omega)).1) | ((with_reducible apply ap_rc); exact (kd_clR _ (by omega)).1) | ((with_reducible apply ap_rc); exact (kd_clR _ (by omega)).2.2.1) | ((with_reducible apply ap_rR); exact (kd_ridA _ (by omega)).1) | ((with_reducible apply ap_rN); rfl) | ((with_reducible apply M_in)) | ((with_reducible apply X_isWithin)) | ((with_reducible apply ap_rI); rfl) | ((with_reducible apply ap_wI); rfl) | ((with_reducible apply ap_iA); rfl; (try simp only [bz_lit, pk_mul, nI_add]); rfl; omega) | ((with_reducible apply ap_iW); rfl; (try simp only [bz_lit, pk_mul, nI_add]); rfl; omega))
    exact M_engaged hg ⟨_, rfl, hP⟩
theorem ap_pt {m f : Int32} {t : Nat} (ht : t < 1440) : bz_in m f (nI t - 1) = if bz_in m f (nI t) = 0 then 0 else if m = nI t then 0 else 1 := by
  have e1 : (nI t - 1).toInt = (t : Int) - 1 := pk_sub_toInt (a := t) (b := 1) (by omega) (by decide)
  have e2 : (nI t).toInt = (t : Int) := nI_toInt (by omega)
  unfold bz_in
  by_cases h1 : m < f
  · rw [if_pos h1, if_pos h1, if_pos rfl]
  · rw [if_neg h1, if_neg h1]
    by_cases h2 : nI t < m
    · have h3 : nI t - 1 < m := by
        rw [Int32.lt_iff_toInt_lt] at h2 ⊢
        omega
      rw [if_pos h3, if_pos h2, if_pos rfl]
    · rw [if_neg h2, if_neg (by decide : ¬ (1 : Int32) = 0)]
      by_cases h4 : m = nI t
      · rw [if_pos h4, if_pos]
        rw [Int32.lt_iff_toInt_lt, h4]
        omega
      · rw [if_neg h4, if_neg]
        intro h5
        rw [Int32.lt_iff_toInt_lt] at h2 h5
        exact h4 (Int32.toInt_inj.mp (by omega))
theorem X_isInApp {r : Nat} {m : Int32} (hr : r < 12) (hg : gd_b s) (hs : sy (wv S.1 6) s) (hP : P (f_app s r m) (bz_hp E S)) : bz_cI G l (d + 4) kX3_isInApp [.inr (some (48 + 3 * r)), .inl m] (bz_hp E S) 0 0 P := by
  refine m_X3_isInApp _ _ _ (fun κ bc bs hl => ?_)
  unfold w_X3_isInApp_0
  obtain ⟨n, hn, en⟩ : bz_lt (s (726 + 9 * r)) 5 := gb_a hg hr 0 (by decide)
  have en' : S.1 (49 + 3 * r) 1 = nI n := (sy_an hs hr).trans en
  unfold f_app at hP
  rw [en, nI_clamp (by omega)] at hP
  obtain ⟨k1, k2, k3⟩ := kd_app r hr
  have k4 := (kd_clR r hr).2.2.1
  have main := bz_for (n := n) (Q := fun k => f_ap s r m k = 0 → bz_J G κ kX3_isInApp (d + 3 + 1) (fun v h' => ∃ x, v = some (.inl x) ∧ P x h') bc bs 2 [some (.inr (some (48 + 3 * r))), some (.inl m), some (.inl (nI k))] [] (bz_hp E S)) (fun k hk ih hz => ?_) ?_
  · exact main rfl
  · refine g_X3_isInApp_2 hl _ _ _ _ ?_
    unfold w_X3_isInApp_2
    repeat (first | ((with_reducible apply ap_rc); rfl) | ((with_reducible apply ap_nn)) | ((with_reducible apply ap_rR); rfl) | ((with_reducible apply M_ofOrder); rfl; (exact bz_lit _); omega; (first | omega | decide)) | ((with_reducible apply M_ofRider); rfl; (exact bz_lit _); omega; (first | omega | decide)) | ((with_reducible apply ap_rI); exact kd_ord _ (by omega) _ (by decide)) | ((with_reducible apply ap_wI); exact kd_ord _ (by omega) _ (by decide)) | ((with_reducible apply ap_rI); exact kd_rid _ (by omega) _ (by decide)) | ((with_reducible apply ap_wI); exact kd_rid _ (by omega) _ (by decide)) | ((with_reducible apply ap_rc); exact (kd_clO _ (by omega)).1) | ((with_reducible apply ap_rc); exact (kd_clR _ (by omega)).1) | ((with_reducible apply ap_rc); exact (kd_clR _ (by omega)).2.2.1) | ((with_reducible apply ap_rR); exact (kd_ridA _ (by omega)).1) | ((with_reducible apply ap_rN); rfl) | ((with_reducible apply M_in)) | ((with_reducible apply X_isWithin)) | ((with_reducible apply ap_rI); rfl) | ((with_reducible apply ap_wI); rfl) | ((with_reducible apply ap_iA); rfl; (try simp only [bz_lit, pk_mul, nI_add]); rfl; omega) | ((with_reducible apply ap_iW); rfl; (try simp only [bz_lit, pk_mul, nI_add]); rfl; omega))
    refine ap_rI k1 ?_
    rw [en']
    refine ⟨fun c => absurd ((nI_leI (by omega) (by omega)).mp c) (by omega), fun c => ?_⟩
    obtain ⟨t, ht, et⟩ : bz_lt (s (726 + 9 * r + (2 + 2 * k))) 1440 := by
      have := gb_a hg hr (2 + 2 * k) (by omega)
      rcases (by omega : k = 0 ∨ k = 1 ∨ k = 2 ∨ k = 3) with rfl | rfl | rfl | rfl <;> exact this
    rw [← Nat.add_assoc] at et
    have e0 : S.1 (50 + 3 * r) (3 * k + 0) = s (726 + 9 * r + 1 + 2 * k) := sy_ap hs hr (by omega) (by decide)
    have e1 : S.1 (50 + 3 * r) (3 * k + 1) = nI t := by
      rw [sy_ap hs hr (by omega) (by decide), ← et]
      congr 1
      omega
    have step : f_ap s r m (k + 1) = if bz_in m (s (726 + 9 * r + 1 + 2 * k)) (nI t) = 0 then 0 else if m = nI t then 0 else 1 := by
      rw [f_ap, if_pos hz, et, ap_pt ht]
    rw [nI_succ] at ih
    repeat (first | ((with_reducible apply ap_rc); rfl) | ((with_reducible apply ap_nn)) | ((with_reducible apply ap_rR); rfl) | ((with_reducible apply M_ofOrder); rfl; (exact bz_lit _); omega; (first | omega | decide)) | ((with_reducible apply M_ofRider); rfl; (exact bz_lit _); omega; (first | omega | decide)) | ((with_reducible apply ap_rI); exact kd_ord _ (by omega) _ (by decide)) | ((with_reducible apply ap_wI); exact kd_ord _ (by omega) _ (by decide)) | ((with_reducible apply ap_rI); exact kd_rid _ (by omega) _ (by decide)) | ((with_reducible apply ap_wI); exact kd_rid _ (by omega) _ (by decide)) | ((with_reducible apply ap_rc); exact (kd_clO _ (by omega)).1) | ((with_reducible apply ap_rc); exact (kd_clR _ (by omega)).1) | ((with_reducible apply ap_rc); exact (kd_clR _ (by omega)).2.2.1) | ((with_reducible apply ap_rR); exact (kd_ridA _ (by omega)).1) | ((with_reducible apply ap_rN); rfl) | ((with_reducible apply M_in)) | ((with_reducible apply X_isWithin)) | ((with_reducible apply ap_rI); rfl) | ((with_reducible apply ap_wI); rfl) | ((with_reducible apply ap_iA); rfl; (try simp only [bz_lit, pk_mul, nI_add]); rfl; omega) | ((with_reducible apply ap_iW); rfl; (try simp only [bz_lit, pk_mul, nI_add]); rfl; omega))
    refine X_spans k2 k3 k4 (by omega) ?_
    rw [e0, e1]
    refine ⟨fun c1 => ih (by rw [step, if_pos c1]), fun c1 => ?_⟩
    repeat (first | ((with_reducible apply ap_rc); rfl) | ((with_reducible apply ap_nn)) | ((with_reducible apply ap_rR); rfl) | ((with_reducible apply M_ofOrder); rfl; (exact bz_lit _); omega; (first | omega | decide)) | ((with_reducible apply M_ofRider); rfl; (exact bz_lit _); omega; (first | omega | decide)) | ((with_reducible apply ap_rI); exact kd_ord _ (by omega) _ (by decide)) | ((with_reducible apply ap_wI); exact kd_ord _ (by omega) _ (by decide)) | ((with_reducible apply ap_rI); exact kd_rid _ (by omega) _ (by decide)) | ((with_reducible apply ap_wI); exact kd_rid _ (by omega) _ (by decide)) | ((with_reducible apply ap_rc); exact (kd_clO _ (by omega)).1) | ((with_reducible apply ap_rc); exact (kd_clR _ (by omega)).1) | ((with_reducible apply ap_rc); exact (kd_clR _ (by omega)).2.2.1) | ((with_reducible apply ap_rR); exact (kd_ridA _ (by omega)).1) | ((with_reducible apply ap_rN); rfl) | ((with_reducible apply M_in)) | ((with_reducible apply X_isWithin)) | ((with_reducible apply ap_rI); rfl) | ((with_reducible apply ap_wI); rfl) | ((with_reducible apply ap_iA); rfl; (try simp only [bz_lit, pk_mul, nI_add]); rfl; omega) | ((with_reducible apply ap_iW); rfl; (try simp only [bz_lit, pk_mul, nI_add]); rfl; omega))
    refine X_cell (j := 1) k2 k3 rfl (by omega) ?_
    rw [e1]
    refine ⟨fun c2 => ih (by rw [step, if_neg c1, if_pos c2]), fun c2 => ⟨_, rfl, ?_⟩⟩
    have h1 : f_ap s r m (k + 1) = 1 := by rw [step, if_neg c1, if_neg c2]
    have h2 := f_ap_st (s := s) (r := r) (m := m) (k := k + 1) (by rw [h1]; decide) (n - (k + 1))
    rw [show k + 1 + (n - (k + 1)) = n by omega, h1] at h2
    rw [h2] at hP
    exact hP
  · intro hz
    refine g_X3_isInApp_2 hl _ _ _ _ ?_
    unfold w_X3_isInApp_2
    repeat (first | ((with_reducible apply ap_rc); rfl) | ((with_reducible apply ap_nn)) | ((with_reducible apply ap_rR); rfl) | ((with_reducible apply M_ofOrder); rfl; (exact bz_lit _); omega; (first | omega | decide)) | ((with_reducible apply M_ofRider); rfl; (exact bz_lit _); omega; (first | omega | decide)) | ((with_reducible apply ap_rI); exact kd_ord _ (by omega) _ (by decide)) | ((with_reducible apply ap_wI); exact kd_ord _ (by omega) _ (by decide)) | ((with_reducible apply ap_rI); exact kd_rid _ (by omega) _ (by decide)) | ((with_reducible apply ap_wI); exact kd_rid _ (by omega) _ (by decide)) | ((with_reducible apply ap_rc); exact (kd_clO _ (by omega)).1) | ((with_reducible apply ap_rc); exact (kd_clR _ (by omega)).1) | ((with_reducible apply ap_rc); exact (kd_clR _ (by omega)).2.2.1) | ((with_reducible apply ap_rR); exact (kd_ridA _ (by omega)).1) | ((with_reducible apply ap_rN); rfl) | ((with_reducible apply M_in)) | ((with_reducible apply X_isWithin)) | ((with_reducible apply ap_rI); rfl) | ((with_reducible apply ap_wI); rfl) | ((with_reducible apply ap_iA); rfl; (try simp only [bz_lit, pk_mul, nI_add]); rfl; omega) | ((with_reducible apply ap_iW); rfl; (try simp only [bz_lit, pk_mul, nI_add]); rfl; omega))
    refine ap_rI k1 ?_
    rw [en']
    rw [hz] at hP
    exact ⟨fun c => ⟨_, rfl, hP⟩, fun c => absurd (nI_le (by omega) (by omega)) c⟩
end CNT
