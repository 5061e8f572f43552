/-! what the class holds of orders and riders -/
theorem tc_bo : ∀ o, o < 24 → ∀ w, w < 12 → tb_c (312 + 12 * o + w) = (tc_o.getD w none).map (fun k => (18 + o, k)) := by decide +kernel
theorem tc_br : ∀ r, r < 12 → ∀ w, w < 8 → tb_c (600 + 8 * r + w) = (tc_r.getD w none).map (fun k => (42 + 3 * r, k)) := by decide +kernel
section XOR
variable {G : bz_G} {l : Launch} {d : Nat} {E : Nat × (Nat → Int32)} {S : bz_S} {P : Int32 → bz_H → Prop} {s : Nat → Int32}
theorem sy_c (h : sy (wv S.1 6) s) (i a k : Nat) (hi : i < 976) (hc : tb_c i = some (a, k)) : S.1 (6 + a) k = s i := h i hi a k hc
theorem sy_o (h : sy (wv S.1 6) s) {o : Nat} (ho : o < 24) (w k : Nat) (hw : w < 12) (hk : tc_o.getD w none = some k) : S.1 (24 + o) k = s (312 + 12 * o + w) := by
  have := h (312 + 12 * o + w) (by omega) (18 + o) k (by rw [tc_bo o ho w hw, hk]; rfl)
  unfold wv at this
  rw [show 6 + (18 + o) = 24 + o by omega] at this
  exact this
theorem sy_r (h : sy (wv S.1 6) s) {r : Nat} (hr : r < 12) (w k : Nat) (hw : w < 8) (hk : tc_r.getD w none = some k) : S.1 (48 + 3 * r) k = s (600 + 8 * r + w) := by
  have := h (600 + 8 * r + w) (by omega) (42 + 3 * r) k (by rw [tc_br r hr w hw, hk]; rfl)
  unfold wv at this
  rw [show 6 + (42 + 3 * r) = 48 + 3 * r by omega] at this
  exact this
theorem tc_3 : (∀ j, j < 16 → tb_c (12 + j) = some (2, j)) ∧ (∀ j, j < 16 → tb_c (28 + j) = some (3, j)) ∧ (∀ j, j < 256 → tb_c (44 + j) = some (4, j)) ∧ (∀ j, j < 72 → tb_c (894 + j) = some (12, j)) ∧ (∀ j, j < 18 → tb_c (708 + j) = some (14, j)) ∧ (∀ j, j < 60 → tb_c (834 + j) = some (16, j)) ∧ (∀ j, j < 10 → tb_c (966 + j) = some (17, j)) := by decide +kernel
theorem tc_k : ∀ k, k < 6 → ∀ j, j < 2 → tb_c (300 + 2 * k + j) = some (7, 3 * k + j) := by decide +kernel
theorem tc_a : ∀ r, r < 12 → tb_c (726 + 9 * r) = some (43 + 3 * r, 1) ∧ ∀ k, k < 4 → ∀ j, j < 2 → tb_c (726 + 9 * r + 1 + 2 * k + j) = some (44 + 3 * r, 3 * k + j) := by decide +kernel
theorem sy_ht (h : sy (wv S.1 6) s) {j : Nat} (hj : j < 16) : S.1 8 j = s (12 + j) := h _ (by omega) 2 j (tc_3.1 j hj)
theorem sy_zn (h : sy (wv S.1 6) s) {j : Nat} (hj : j < 16) : S.1 9 j = s (28 + j) := h _ (by omega) 3 j (tc_3.2.1 j hj)
theorem sy_rd (h : sy (wv S.1 6) s) {j : Nat} (hj : j < 256) : S.1 10 j = s (44 + j) := h _ (by omega) 4 j (tc_3.2.2.1 j hj)
theorem sy_tr (h : sy (wv S.1 6) s) {j : Nat} (hj : j < 72) : S.1 18 j = s (894 + j) := h _ (by omega) 12 j (tc_3.2.2.2.1 j hj)
theorem sy_rn (h : sy (wv S.1 6) s) {j : Nat} (hj : j < 18) : S.1 20 j = s (708 + j) := h _ (by omega) 14 j (tc_3.2.2.2.2.1 j hj)
theorem sy_sg (h : sy (wv S.1 6) s) {j : Nat} (hj : j < 60) : S.1 22 j = s (834 + j) := h _ (by omega) 16 j (tc_3.2.2.2.2.2.1 j hj)
theorem sy_sp (h : sy (wv S.1 6) s) {j : Nat} (hj : j < 10) : S.1 23 j = s (966 + j) := h _ (by omega) 17 j (tc_3.2.2.2.2.2.2 j hj)
theorem sy_kt (h : sy (wv S.1 6) s) {k j : Nat} (hk : k < 6) (hj : j < 2) : S.1 13 (3 * k + j) = s (300 + 2 * k + j) := h _ (by omega) 7 _ (tc_k k hk j hj)
theorem sy_an (h : sy (wv S.1 6) s) {r : Nat} (hr : r < 12) : S.1 (49 + 3 * r) 1 = s (726 + 9 * r) := by
  have := h _ (by omega) _ _ (tc_a r hr).1
  unfold wv at this
  rw [show 6 + (43 + 3 * r) = 49 + 3 * r by omega] at this
  exact this
theorem sy_ap (h : sy (wv S.1 6) s) {r k j : Nat} (hr : r < 12) (hk : k < 4) (hj : j < 2) : S.1 (50 + 3 * r) (3 * k + j) = s (726 + 9 * r + 1 + 2 * k + j) := by
  have := h _ (by omega) _ _ ((tc_a r hr).2 k hk j hj)
  unfold wv at this
  rw [show 6 + (44 + 3 * r) = 50 + 3 * r by omega] at this
  exact this
theorem ap_qO {P : Option Nat → Prop} {x : Int32} {o : Nat} (hx : x = nI o) (ho : o < 24) (hP : P (some (24 + o))) : bz_rQ (bz_hp E S) 14 x P := by
  subst hx
  refine ap_rQ rfl (by decide) (vp_in_nI ho (by decide)) ?_
  rw [nI_clamp (by omega), if_neg (by decide), if_pos ho, Nat.one_mul]
  exact hP
theorem ap_qR {P : Option Nat → Prop} {x : Int32} {r : Nat} (hx : x = nI r) (hr : r < 12) (hP : P (some (48 + 3 * r))) : bz_rQ (bz_hp E S) 15 x P := by
  subst hx
  refine ap_rQ rfl (by decide) (vp_in_nI hr (by decide)) ?_
  rw [nI_clamp (by omega), if_neg (by decide), if_pos hr]
  exact hP
theorem ap_qS {P : Option Nat → Prop} {x : Int32} {r : Nat} (hx : x = nI r) (hr : r < 4) (hP : P (some (166 + 2 * r))) : bz_rQ (bz_hp E S) 165 x P := by
  subst hx
  refine ap_rQ rfl (by decide) (vp_in_nI hr (by decide)) ?_
  rw [nI_clamp (by omega), if_neg (by decide), if_pos hr]
  exact hP
theorem ap_qT {P : Option Nat → Prop} {x : Int32} {t : Nat} (hx : x = nI t) (ht : t < 8) (hP : P (S.2.1 16 t)) : bz_rQ (bz_hp E S) 16 x P := by
  subst hx
  refine ap_rQ rfl (by decide) (vp_in_nI ht (by decide)) ?_
  rw [nI_clamp (by omega), if_pos rfl]
  exact hP
theorem X_cell {a b n i j : Nat} {y : Int32} (h1 : bz_rf a 4 0 = some (some b)) (h2 : bz_ln b = some n) (hy : y = nI j) (hi : 3 * i + j < n ∧ n < 100000) (hP : P (S.1 b (3 * i + j)) (bz_hp E S)) : bz_cI G l (d + 2) kX4_cell [.inr (some a), .inl (nI i), .inl y] (bz_hp E S) 0 0 P := by
  subst hy
  refine m_X4_cell _ _ _ _ ?_
  unfold w_X4_cell_0
  refine ap_rR h1 (ap_nn (ap_rN h2 (X_isWithin ?_)))
  have e : (3 : Int32) * nI i + nI j = nI (3 * i + j) := by rw [show (3 : Int32) = nI 3 from rfl, pk_mul, nI_add]
  rw [e]
  have hin : bz_in (nI (3 * i + j)) 0 (nI n - 1) = 1 := bz_in_1 ⟨nI_pos (by omega), by
    rw [show nI n - 1 = nI (n - 1) from pk_sub (a := n) (b := 1) (by omega)]
    exact nI_nlt (by omega) (by omega)⟩
  refine ⟨fun c => absurd (hin.symm.trans c) (by decide), fun _ => ap_rR h1 (ap_nn (ap_iA h2 rfl hi ⟨_, rfl, hP⟩))⟩
theorem X_spans {a b n i : Nat} {m : Int32} (h1 : bz_rf a 4 0 = some (some b)) (h2 : bz_ln b = some n) (h3 : bz_cls a = some 4) (hi : 3 * i + 1 < n ∧ n < 100000) (hP : P (bz_in m (S.1 b (3 * i + 0)) (S.1 b (3 * i + 1))) (bz_hp E S)) : bz_cI G l (d + 3) kX4_spans [.inr (some a), .inl (nI i), .inl m] (bz_hp E S) 0 0 P := by
  refine m_X4_spans _ _ _ _ ?_
  unfold w_X4_spans_0
  unfold bz_in at hP
  refine ap_rc h3 (X_cell (j := 0) h1 h2 rfl (by omega) ⟨fun c => ?_, fun c => ap_rc h3 (X_cell (j := 1) h1 h2 rfl (by omega) ?_)⟩)
  · rw [if_pos c] at hP
    exact ⟨_, rfl, hP⟩
  · rw [if_neg c] at hP
    exact ⟨_, rfl, hP⟩
theorem X_isGivenTo {o r : Nat} (ho : o < 24) (hs : sy (wv S.1 6) s) (hP : P (f_his s r o) (bz_hp E S)) : bz_cI G l (d + 1) kX2_isGivenTo [.inr (some (24 + o)), .inl (nI r)] (bz_hp E S) 0 0 P := by
  refine m_X2_isGivenTo _ _ _ ?_
  unfold w_X2_isGivenTo_0
  unfold f_his at hP
  rw [← sy_o hs ho 5 7 (by decide) rfl, ← sy_o hs ho 6 8 (by decide) rfl] at hP
  repeat (first | ((with_reducible apply ap_rc); rfl) | ((with_reducible apply ap_nn)) | ((with_reducible apply ap_rR); rfl) | ((with_reducible apply M_ofOrder); rfl; (exact bz_lit _); omega; (first | omega | decide)) | ((with_reducible apply M_ofRider); rfl; (exact bz_lit _); omega; (first | omega | decide)) | ((with_reducible apply ap_rI); exact kd_ord _ (by omega) _ (by decide)) | ((with_reducible apply ap_wI); exact kd_ord _ (by omega) _ (by decide)) | ((with_reducible apply ap_rI); exact kd_rid _ (by omega) _ (by decide)) | ((with_reducible apply ap_wI); exact kd_rid _ (by omega) _ (by decide)) | ((with_reducible apply ap_rc); exact (kd_clO _ (by omega)).1) | ((with_reducible apply ap_rc); exact (kd_clR _ (by omega)).1) | ((with_reducible apply ap_rc); exact (kd_clR _ (by omega)).2.2.1) | ((with_reducible apply ap_rR); exact (kd_ridA _ (by omega)).1) | ((with_reducible apply ap_rN); rfl) | ((with_reducible apply M_in)) | ((with_reducible apply X_isWithin)) | ((with_reducible apply ap_rI); rfl) | ((with_reducible apply ap_wI); rfl) | ((with_reducible apply ap_iA); rfl; (try simp only [bz_lit, pk_mul, nI_add]); rfl; omega) | ((with_reducible apply ap_iW); rfl; (try simp only [bz_lit, pk_mul, nI_add]); rfl; omega))
  refine ⟨fun c => ?_, fun c => ?_⟩
  · rw [if_neg c] at hP
    exact ⟨_, rfl, hP⟩
  · rw [if_pos c] at hP
    repeat (first | ((with_reducible apply ap_rc); rfl) | ((with_reducible apply ap_nn)) | ((with_reducible apply ap_rR); rfl) | ((with_reducible apply M_ofOrder); rfl; (exact bz_lit _); omega; (first | omega | decide)) | ((with_reducible apply M_ofRider); rfl; (exact bz_lit _); omega; (first | omega | decide)) | ((with_reducible apply ap_rI); exact kd_ord _ (by omega) _ (by decide)) | ((with_reducible apply ap_wI); exact kd_ord _ (by omega) _ (by decide)) | ((with_reducible apply ap_rI); exact kd_rid _ (by omega) _ (by decide)) | ((with_reducible apply ap_wI); exact kd_rid _ (by omega) _ (by decide)) | ((with_reducible apply ap_rc); exact (kd_clO _ (by omega)).1) | ((with_reducible apply ap_rc); exact (kd_clR _ (by omega)).1) | ((with_reducible apply ap_rc); exact (kd_clR _ (by omega)).2.2.1) | ((with_reducible apply ap_rR); exact (kd_ridA _ (by omega)).1) | ((with_reducible apply ap_rN); rfl) | ((with_reducible apply M_in)) | ((with_reducible apply X_isWithin)) | ((with_reducible apply ap_rI); rfl) | ((with_reducible apply ap_wI); rfl) | ((with_reducible apply ap_iA); rfl; (try simp only [bz_lit, pk_mul, nI_add]); rfl; omega) | ((with_reducible apply ap_iW); rfl; (try simp only [bz_lit, pk_mul, nI_add]); rfl; omega))
    exact ⟨_, rfl, hP⟩
theorem X_payFor {o : Nat} (ho : o < 24) (hg : gd_b s) (hs : sy (wv S.1 6) s) (hP : P (f_pay s o) (bz_hp E S)) : bz_cI G l (d + 4) kX10_payFor [.inr (some 6), .inr (some (24 + o))] (bz_hp E S) 0 0 P := by
  refine m_X10_payFor _ _ _ (fun κ bc bs hl => ?_)
  unfold w_X10_payFor_0
  obtain ⟨n, hn, en⟩ : bz_lt (s 7) 7 := hg 7 (by decide) (by decide) (by decide)
  have en' : S.1 19 1 = nI n := (sy_c hs 7 13 1 (by decide) rfl).trans en
  unfold f_pay at hP
  rw [en, nI_clamp (by omega), ← sy_o hs ho 9 13 (by decide) rfl] at hP
  refine bz_for (n := n) (Q := fun k => bz_J G κ kX10_payFor (d + 3 + 1) (fun v h' => ∃ x, v = some (.inl x) ∧ P x h') bc bs 4 [some (.inr (some 6)), some (.inr (some (24 + o))), some (.inl (f_sum (f_mo s (s (312 + 12 * o + 7))) k)), some (.inl (nI k))] [] (bz_hp E S)) (fun k hk ih => ?_) ?_
  · refine g_X10_payFor_4 hl _ _ _ _ _ ?_
    unfold w_X10_payFor_4
    repeat (first | ((with_reducible apply ap_rc); rfl) | ((with_reducible apply ap_nn)) | ((with_reducible apply ap_rR); rfl) | ((with_reducible apply M_ofOrder); rfl; (exact bz_lit _); omega; (first | omega | decide)) | ((with_reducible apply M_ofRider); rfl; (exact bz_lit _); omega; (first | omega | decide)) | ((with_reducible apply ap_rI); exact kd_ord _ (by omega) _ (by decide)) | ((with_reducible apply ap_wI); exact kd_ord _ (by omega) _ (by decide)) | ((with_reducible apply ap_rI); exact kd_rid _ (by omega) _ (by decide)) | ((with_reducible apply ap_wI); exact kd_rid _ (by omega) _ (by decide)) | ((with_reducible apply ap_rc); exact (kd_clO _ (by omega)).1) | ((with_reducible apply ap_rc); exact (kd_clR _ (by omega)).1) | ((with_reducible apply ap_rc); exact (kd_clR _ (by omega)).2.2.1) | ((with_reducible apply ap_rR); exact (kd_ridA _ (by omega)).1) | ((with_reducible apply ap_rN); rfl) | ((with_reducible apply M_in)) | ((with_reducible apply X_isWithin)) | ((with_reducible apply ap_rI); rfl) | ((with_reducible apply ap_wI); rfl) | ((with_reducible apply ap_iA); rfl; (try simp only [bz_lit, pk_mul, nI_add]); rfl; omega) | ((with_reducible apply ap_iW); rfl; (try simp only [bz_lit, pk_mul, nI_add]); rfl; omega))
    rw [en']
    refine ⟨fun c => absurd ((nI_leI (by omega) (by omega)).mp c) (by omega), fun c => ?_⟩
    rw [f_sum, nI_succ] at ih
    repeat (first | ((with_reducible apply ap_rc); rfl) | ((with_reducible apply ap_nn)) | ((with_reducible apply ap_rR); rfl) | ((with_reducible apply M_ofOrder); rfl; (exact bz_lit _); omega; (first | omega | decide)) | ((with_reducible apply M_ofRider); rfl; (exact bz_lit _); omega; (first | omega | decide)) | ((with_reducible apply ap_rI); exact kd_ord _ (by omega) _ (by decide)) | ((with_reducible apply ap_wI); exact kd_ord _ (by omega) _ (by decide)) | ((with_reducible apply ap_rI); exact kd_rid _ (by omega) _ (by decide)) | ((with_reducible apply ap_wI); exact kd_rid _ (by omega) _ (by decide)) | ((with_reducible apply ap_rc); exact (kd_clO _ (by omega)).1) | ((with_reducible apply ap_rc); exact (kd_clR _ (by omega)).1) | ((with_reducible apply ap_rc); exact (kd_clR _ (by omega)).2.2.1) | ((with_reducible apply ap_rR); exact (kd_ridA _ (by omega)).1) | ((with_reducible apply ap_rN); rfl) | ((with_reducible apply M_in)) | ((with_reducible apply X_isWithin)) | ((with_reducible apply ap_rI); rfl) | ((with_reducible apply ap_wI); rfl) | ((with_reducible apply ap_iA); rfl; (try simp only [bz_lit, pk_mul, nI_add]); rfl; omega) | ((with_reducible apply ap_iW); rfl; (try simp only [bz_lit, pk_mul, nI_add]); rfl; omega))
    refine X_spans rfl rfl rfl (by omega) ⟨fun c1 => ?_, fun c1 => ?_⟩
    · rw [sy_rn hs (by omega), sy_rn hs (by omega), sy_o hs ho 7 9 (by decide) rfl] at c1
      rw [show f_mo s _ k = 0 from if_pos c1, Int32.add_zero] at ih
      exact ih
    · rw [sy_rn hs (by omega), sy_rn hs (by omega), sy_o hs ho 7 9 (by decide) rfl] at c1
      rw [show f_mo s _ k = _ from if_neg c1] at ih
      repeat (first | ((with_reducible apply ap_rc); rfl) | ((with_reducible apply ap_nn)) | ((with_reducible apply ap_rR); rfl) | ((with_reducible apply M_ofOrder); rfl; (exact bz_lit _); omega; (first | omega | decide)) | ((with_reducible apply M_ofRider); rfl; (exact bz_lit _); omega; (first | omega | decide)) | ((with_reducible apply ap_rI); exact kd_ord _ (by omega) _ (by decide)) | ((with_reducible apply ap_wI); exact kd_ord _ (by omega) _ (by decide)) | ((with_reducible apply ap_rI); exact kd_rid _ (by omega) _ (by decide)) | ((with_reducible apply ap_wI); exact kd_rid _ (by omega) _ (by decide)) | ((with_reducible apply ap_rc); exact (kd_clO _ (by omega)).1) | ((with_reducible apply ap_rc); exact (kd_clR _ (by omega)).1) | ((with_reducible apply ap_rc); exact (kd_clR _ (by omega)).2.2.1) | ((with_reducible apply ap_rR); exact (kd_ridA _ (by omega)).1) | ((with_reducible apply ap_rN); rfl) | ((with_reducible apply M_in)) | ((with_reducible apply X_isWithin)) | ((with_reducible apply ap_rI); rfl) | ((with_reducible apply ap_wI); rfl) | ((with_reducible apply ap_iA); rfl; (try simp only [bz_lit, pk_mul, nI_add]); rfl; omega) | ((with_reducible apply ap_iW); rfl; (try simp only [bz_lit, pk_mul, nI_add]); rfl; omega))
      refine X_cell (j := 2) rfl rfl rfl (by omega) ?_
      rw [sy_rn hs (by omega)]
      exact ih
  · refine g_X10_payFor_4 hl _ _ _ _ _ ?_
    unfold w_X10_payFor_4
    repeat (first | ((with_reducible apply ap_rc); rfl) | ((with_reducible apply ap_nn)) | ((with_reducible apply ap_rR); rfl) | ((with_reducible apply M_ofOrder); rfl; (exact bz_lit _); omega; (first | omega | decide)) | ((with_reducible apply M_ofRider); rfl; (exact bz_lit _); omega; (first | omega | decide)) | ((with_reducible apply ap_rI); exact kd_ord _ (by omega) _ (by decide)) | ((with_reducible apply ap_wI); exact kd_ord _ (by omega) _ (by decide)) | ((with_reducible apply ap_rI); exact kd_rid _ (by omega) _ (by decide)) | ((with_reducible apply ap_wI); exact kd_rid _ (by omega) _ (by decide)) | ((with_reducible apply ap_rc); exact (kd_clO _ (by omega)).1) | ((with_reducible apply ap_rc); exact (kd_clR _ (by omega)).1) | ((with_reducible apply ap_rc); exact (kd_clR _ (by omega)).2.2.1) | ((with_reducible apply ap_rR); exact (kd_ridA _ (by omega)).1) | ((with_reducible apply ap_rN); rfl) | ((with_reducible apply M_in)) | ((with_reducible apply X_isWithin)) | ((with_reducible apply ap_rI); rfl) | ((with_reducible apply ap_wI); rfl) | ((with_reducible apply ap_iA); rfl; (try simp only [bz_lit, pk_mul, nI_add]); rfl; omega) | ((with_reducible apply ap_iW); rfl; (try simp only [bz_lit, pk_mul, nI_add]); rfl; omega))
    rw [en']
    refine ⟨fun c => ?_, fun c => absurd (nI_le (by omega) (by omega)) c⟩
    repeat (first | ((with_reducible apply ap_rc); rfl) | ((with_reducible apply ap_nn)) | ((with_reducible apply ap_rR); rfl) | ((with_reducible apply M_ofOrder); rfl; (exact bz_lit _); omega; (first | omega | decide)) | ((with_reducible apply M_ofRider); rfl; (exact bz_lit _); omega; (first | omega | decide)) | ((with_reducible apply ap_rI); exact kd_ord _ (by omega) _ (by decide)) | ((with_reducible apply ap_wI); exact kd_ord _ (by omega) _ (by decide)) | ((with_reducible apply ap_rI); exact kd_rid _ (by omega) _ (by decide)) | ((with_reducible apply ap_wI); exact kd_rid _ (by omega) _ (by decide)) | ((with_reducible apply ap_rc); exact (kd_clO _ (by omega)).1) | ((with_reducible apply ap_rc); exact (kd_clR _ (by omega)).1) | ((with_reducible apply ap_rc); exact (kd_clR _ (by omega)).2.2.1) | ((with_reducible apply ap_rR); exact (kd_ridA _ (by omega)).1) | ((with_reducible apply ap_rN); rfl) | ((with_reducible apply M_in)) | ((with_reducible apply X_isWithin)) | ((with_reducible apply ap_rI); rfl) | ((with_reducible apply ap_wI); rfl) | ((with_reducible apply ap_iA); rfl; (try simp only [bz_lit, pk_mul, nI_add]); rfl; omega) | ((with_reducible apply ap_iW); rfl; (try simp only [bz_lit, pk_mul, nI_add]); rfl; omega))
    exact ⟨_, rfl, hP⟩
end XOR
