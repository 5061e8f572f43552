/-! looking an order, a rider, a text up; other apps -/
section LOO
variable {G : bz_G} {l : Launch} {d : Nat} {E : Nat × (Nat → Int32)} {S : bz_S} {P : Int32 → bz_H → Prop} {Q : Option Nat → bz_H → Prop} {s : Nat → Int32}
theorem X_orderAt {v : Int32} (hg : gd_b s) (hs : sy (wv S.1 6) s) (hN : bz_in v 0 (s 2 - 1) = 0 → Q none (bz_hp E S)) (hY : ¬ bz_in v 0 (s 2 - 1) = 0 → ∀ o, o < 24 → o < (s 2).toNatClampNeg → v = nI o → Q (some (24 + o)) (bz_hp E S)) : bz_cR G l (d + 2) kX10_orderAt [.inr (some 6), .inl v] (bz_hp E S) 0 0 Q := by
  refine m_X10_orderAt _ _ _ ?_
  unfold w_X10_orderAt_0
  obtain ⟨n, hn, en⟩ : bz_lt (s 2) 25 := hg 2 (by decide) (by decide) (by decide)
  have en' : S.1 6 9 = s 2 := sy_c hs 2 0 9 (by decide) rfl
  repeat (first | ((with_reducible apply ap_rc); rfl) | ((with_reducible apply ap_nn)) | ((with_reducible apply ap_rR); rfl) | ((with_reducible apply M_ofOrder); rfl; (exact bz_lit _); omega; (first | omega | decide)) | ((with_reducible apply M_ofRider); rfl; (exact bz_lit _); omega; (first | omega | decide)) | ((with_reducible apply ap_rI); exact kd_ord _ (by omega) _ (by decide)) | ((with_reducible apply ap_wI); exact kd_ord _ (by omega) _ (by decide)) | ((with_reducible apply ap_rI); exact kd_rid _ (by omega) _ (by decide)) | ((with_reducible apply ap_wI); exact kd_rid _ (by omega) _ (by decide)) | ((with_reducible apply ap_rc); exact (kd_clO _ (by omega)).1) | ((with_reducible apply ap_rc); exact (kd_clR _ (by omega)).1) | ((with_reducible apply ap_rc); exact (kd_clR _ (by omega)).2.2.1) | ((with_reducible apply ap_rR); exact (kd_ridA _ (by omega)).1) | ((with_reducible apply ap_rN); rfl) | ((with_reducible apply M_in)) | ((with_reducible apply X_isWithin)) | ((with_reducible apply ap_rI); rfl) | ((with_reducible apply ap_wI); rfl) | ((with_reducible apply ap_iA); rfl; (try simp only [bz_lit, pk_mul, nI_add]); rfl; omega) | ((with_reducible apply ap_iW); rfl; (try simp only [bz_lit, pk_mul, nI_add]); rfl; omega))
  rw [en']
  refine ⟨fun c => ⟨_, rfl, hN c⟩, fun c => ?_⟩
  obtain ⟨o, ho, e⟩ := bz_in_n (n := n) (by rw [en]) (by omega) c
  repeat (first | ((with_reducible apply ap_rc); rfl) | ((with_reducible apply ap_nn)) | ((with_reducible apply ap_rR); rfl) | ((with_reducible apply M_ofOrder); rfl; (exact bz_lit _); omega; (first | omega | decide)) | ((with_reducible apply M_ofRider); rfl; (exact bz_lit _); omega; (first | omega | decide)) | ((with_reducible apply ap_rI); exact kd_ord _ (by omega) _ (by decide)) | ((with_reducible apply ap_wI); exact kd_ord _ (by omega) _ (by decide)) | ((with_reducible apply ap_rI); exact kd_rid _ (by omega) _ (by decide)) | ((with_reducible apply ap_wI); exact kd_rid _ (by omega) _ (by decide)) | ((with_reducible apply ap_rc); exact (kd_clO _ (by omega)).1) | ((with_reducible apply ap_rc); exact (kd_clR _ (by omega)).1) | ((with_reducible apply ap_rc); exact (kd_clR _ (by omega)).2.2.1) | ((with_reducible apply ap_rR); exact (kd_ridA _ (by omega)).1) | ((with_reducible apply ap_rN); rfl) | ((with_reducible apply M_in)) | ((with_reducible apply X_isWithin)) | ((with_reducible apply ap_rI); rfl) | ((with_reducible apply ap_wI); rfl) | ((with_reducible apply ap_iA); rfl; (try simp only [bz_lit, pk_mul, nI_add]); rfl; omega) | ((with_reducible apply ap_iW); rfl; (try simp only [bz_lit, pk_mul, nI_add]); rfl; omega))
  refine ap_qO e (by omega) ⟨_, rfl, hY c o (by omega) (by rw [en, nI_clamp (by omega)]; exact ho) e⟩
theorem X_riderAt {v : Int32} (hg : gd_b s) (hs : sy (wv S.1 6) s) (hN : bz_in v 0 (s 3 - 1) = 0 → Q none (bz_hp E S)) (hY : ¬ bz_in v 0 (s 3 - 1) = 0 → ∀ r, r < 12 → r < (s 3).toNatClampNeg → v = nI r → Q (some (48 + 3 * r)) (bz_hp E S)) : bz_cR G l (d + 2) kX10_riderAt [.inr (some 6), .inl v] (bz_hp E S) 0 0 Q := by
  refine m_X10_riderAt _ _ _ ?_
  unfold w_X10_riderAt_0
  obtain ⟨n, hn, en⟩ : bz_lt (s 3) 13 := hg 3 (by decide) (by decide) (by decide)
  have en' : S.1 6 10 = s 3 := sy_c hs 3 0 10 (by decide) rfl
  repeat (first | ((with_reducible apply ap_rc); rfl) | ((with_reducible apply ap_nn)) | ((with_reducible apply ap_rR); rfl) | ((with_reducible apply M_ofOrder); rfl; (exact bz_lit _); omega; (first | omega | decide)) | ((with_reducible apply M_ofRider); rfl; (exact bz_lit _); omega; (first | omega | decide)) | ((with_reducible apply ap_rI); exact kd_ord _ (by omega) _ (by decide)) | ((with_reducible apply ap_wI); exact kd_ord _ (by omega) _ (by decide)) | ((with_reducible apply ap_rI); exact kd_rid _ (by omega) _ (by decide)) | ((with_reducible apply ap_wI); exact kd_rid _ (by omega) _ (by decide)) | ((with_reducible apply ap_rc); exact (kd_clO _ (by omega)).1) | ((with_reducible apply ap_rc); exact (kd_clR _ (by omega)).1) | ((with_reducible apply ap_rc); exact (kd_clR _ (by omega)).2.2.1) | ((with_reducible apply ap_rR); exact (kd_ridA _ (by omega)).1) | ((with_reducible apply ap_rN); rfl) | ((with_reducible apply M_in)) | ((with_reducible apply X_isWithin)) | ((with_reducible apply ap_rI); rfl) | ((with_reducible apply ap_wI); rfl) | ((with_reducible apply ap_iA); rfl; (try simp only [bz_lit, pk_mul, nI_add]); rfl; omega) | ((with_reducible apply ap_iW); rfl; (try simp only [bz_lit, pk_mul, nI_add]); rfl; omega))
  rw [en']
  refine ⟨fun c => ⟨_, rfl, hN c⟩, fun c => ?_⟩
  obtain ⟨o, ho, e⟩ := bz_in_n (n := n) (by rw [en]) (by omega) c
  repeat (first | ((with_reducible apply ap_rc); rfl) | ((with_reducible apply ap_nn)) | ((with_reducible apply ap_rR); rfl) | ((with_reducible apply M_ofOrder); rfl; (exact bz_lit _); omega; (first | omega | decide)) | ((with_reducible apply M_ofRider); rfl; (exact bz_lit _); omega; (first | omega | decide)) | ((with_reducible apply ap_rI); exact kd_ord _ (by omega) _ (by decide)) | ((with_reducible apply ap_wI); exact kd_ord _ (by omega) _ (by decide)) | ((with_reducible apply ap_rI); exact kd_rid _ (by omega) _ (by decide)) | ((with_reducible apply ap_wI); exact kd_rid _ (by omega) _ (by decide)) | ((with_reducible apply ap_rc); exact (kd_clO _ (by omega)).1) | ((with_reducible apply ap_rc); exact (kd_clR _ (by omega)).1) | ((with_reducible apply ap_rc); exact (kd_clR _ (by omega)).2.2.1) | ((with_reducible apply ap_rR); exact (kd_ridA _ (by omega)).1) | ((with_reducible apply ap_rN); rfl) | ((with_reducible apply M_in)) | ((with_reducible apply X_isWithin)) | ((with_reducible apply ap_rI); rfl) | ((with_reducible apply ap_wI); rfl) | ((with_reducible apply ap_iA); rfl; (try simp only [bz_lit, pk_mul, nI_add]); rfl; omega) | ((with_reducible apply ap_iW); rfl; (try simp only [bz_lit, pk_mul, nI_add]); rfl; omega))
  refine ap_qR e (by omega) ⟨_, rfl, hY c o (by omega) (by rw [en, nI_clamp (by omega)]; exact ho) e⟩
theorem X_textAt {v : Int32} (hg : gd_b s) (hs : sy (wv S.1 6) s) (hN : bz_in v 0 (s 4 - 1) = 0 → Q none (bz_hp E S)) (hY : ¬ bz_in v 0 (s 4 - 1) = 0 → ∀ t, t < 8 → t < (s 4).toNatClampNeg → v = nI t → Q (S.2.1 16 t) (bz_hp E S)) : bz_cR G l (d + 2) kX10_textAt [.inr (some 6), .inl v] (bz_hp E S) 0 0 Q := by
  refine m_X10_textAt _ _ _ ?_
  unfold w_X10_textAt_0
  obtain ⟨n, hn, en⟩ : bz_lt (s 4) 9 := hg 4 (by decide) (by decide) (by decide)
  have en' : S.1 6 11 = s 4 := sy_c hs 4 0 11 (by decide) rfl
  repeat (first | ((with_reducible apply ap_rc); rfl) | ((with_reducible apply ap_nn)) | ((with_reducible apply ap_rR); rfl) | ((with_reducible apply M_ofOrder); rfl; (exact bz_lit _); omega; (first | omega | decide)) | ((with_reducible apply M_ofRider); rfl; (exact bz_lit _); omega; (first | omega | decide)) | ((with_reducible apply ap_rI); exact kd_ord _ (by omega) _ (by decide)) | ((with_reducible apply ap_wI); exact kd_ord _ (by omega) _ (by decide)) | ((with_reducible apply ap_rI); exact kd_rid _ (by omega) _ (by decide)) | ((with_reducible apply ap_wI); exact kd_rid _ (by omega) _ (by decide)) | ((with_reducible apply ap_rc); exact (kd_clO _ (by omega)).1) | ((with_reducible apply ap_rc); exact (kd_clR _ (by omega)).1) | ((with_reducible apply ap_rc); exact (kd_clR _ (by omega)).2.2.1) | ((with_reducible apply ap_rR); exact (kd_ridA _ (by omega)).1) | ((with_reducible apply ap_rN); rfl) | ((with_reducible apply M_in)) | ((with_reducible apply X_isWithin)) | ((with_reducible apply ap_rI); rfl) | ((with_reducible apply ap_wI); rfl) | ((with_reducible apply ap_iA); rfl; (try simp only [bz_lit, pk_mul, nI_add]); rfl; omega) | ((with_reducible apply ap_iW); rfl; (try simp only [bz_lit, pk_mul, nI_add]); rfl; omega))
  rw [en']
  refine ⟨fun c => ⟨_, rfl, hN c⟩, fun c => ?_⟩
  obtain ⟨o, ho, e⟩ := bz_in_n (n := n) (by rw [en]) (by omega) c
  repeat (first | ((with_reducible apply ap_rc); rfl) | ((with_reducible apply ap_nn)) | ((with_reducible apply ap_rR); rfl) | ((with_reducible apply M_ofOrder); rfl; (exact bz_lit _); omega; (first | omega | decide)) | ((with_reducible apply M_ofRider); rfl; (exact bz_lit _); omega; (first | omega | decide)) | ((with_reducible apply ap_rI); exact kd_ord _ (by omega) _ (by decide)) | ((with_reducible apply ap_wI); exact kd_ord _ (by omega) _ (by decide)) | ((with_reducible apply ap_rI); exact kd_rid _ (by omega) _ (by decide)) | ((with_reducible apply ap_wI); exact kd_rid _ (by omega) _ (by decide)) | ((with_reducible apply ap_rc); exact (kd_clO _ (by omega)).1) | ((with_reducible apply ap_rc); exact (kd_clR _ (by omega)).1) | ((with_reducible apply ap_rc); exact (kd_clR _ (by omega)).2.2.1) | ((with_reducible apply ap_rR); exact (kd_ridA _ (by omega)).1) | ((with_reducible apply ap_rN); rfl) | ((with_reducible apply M_in)) | ((with_reducible apply X_isWithin)) | ((with_reducible apply ap_rI); rfl) | ((with_reducible apply ap_wI); rfl) | ((with_reducible apply ap_iA); rfl; (try simp only [bz_lit, pk_mul, nI_add]); rfl; omega) | ((with_reducible apply ap_iW); rfl; (try simp only [bz_lit, pk_mul, nI_add]); rfl; omega))
  refine ap_qT e (by omega) ⟨_, rfl, hY c o (by omega) (by rw [en, nI_clamp (by omega)]; exact ho) e⟩
end LOO
/-- whether a minute lies within one of the first k other apps -/
def f_ap (s : Nat → Int32) (r : Nat) (m : Int32) : Nat → Int32
  | 0 => 0
  | k + 1 => if f_ap s r m k = 0 then bz_in m (s (726 + 9 * r + 1 + 2 * k)) (s (726 + 9 * r + 2 + 2 * k) - 1) else f_ap s r m k
def f_app (s : Nat → Int32) (r : Nat) (m : Int32) : Int32 := f_ap s r m (s (726 + 9 * r)).toNatClampNeg
theorem f_ap01 (s : Nat → Int32) (r : Nat) (m : Int32) : ∀ k, f_ap s r m k = 0 ∨ f_ap s r m k = 1
  | 0 => Or.inl rfl
  | k + 1 => by
    rw [f_ap]
    split
    · exact bz_in01 _ _ _
    · exact f_ap01 s r m k
theorem f_ap_st {s : Nat → Int32} {r : Nat} {m : Int32} {k : Nat} (h : ¬ f_ap s r m k = 0) : ∀ n, f_ap s r m (k + n) = f_ap s r m k
  | 0 => rfl
  | n + 1 => by
    have := f_ap_st h n
    rw [← Nat.add_assoc, f_ap, this, if_neg h]
section ELS
variable {G : bz_G} {l : Launch} {d : Nat} {E : Nat × (Nat → Int32)} {S : bz_S} {P : Int32 → bz_H → Prop} {s : Nat → Int32}
theorem M_isElsewhere {r : Nat} {m : Int32} (hr : r < 12) (hg : gd_b (S.1 187)) (hP : P (f_app (S.1 187) r m) (bz_hp E S)) : bz_cI G l (d + 2) kX12_isElsewhere [.inr (some 186), .inl (nI r), .inl m] (bz_hp E S) 0 0 P := by
  refine m_X12_isElsewhere _ _ _ _ (fun κ bc bs hl => ?_)
  unfold w_X12_isElsewhere_0
  obtain ⟨n, hn, en⟩ : bz_lt (S.1 187 (726 + 9 * r)) 5 := gb_a hg hr 0 (by decide)
  unfold f_app at hP
  rw [en, nI_clamp (by omega)] at hP
  rw [show (726 : Int32) + 9 * nI r = nI (726 + 9 * r) by simp only [bz_lit, pk_mul, nI_add]]
  refine bz_for (n := n) (Q := fun k => bz_J G κ kX12_isElsewhere (d + 1 + 1) (fun v h' => ∃ x, v = some (.inl x) ∧ P x h') bc bs 15 [some (.inr (some 186)), some (.inl (nI r)), some (.inl m), some (.inl (nI (726 + 9 * r))), some (.inl (f_ap (S.1 187) r m k)), some (.inl (nI k))] [] (bz_hp E S)) (fun k hk ih => ?_) ?_
  · refine g_X12_isElsewhere_15 hl _ _ _ _ _ _ _ ?_
    unfold w_X12_isElsewhere_15
    repeat (first | ((with_reducible apply ap_rc); rfl) | ((with_reducible apply ap_nn)) | ((with_reducible apply ap_rR); rfl) | ((with_reducible apply M_ofOrder); rfl; (exact bz_lit _); omega; (first | omega | decide)) | ((with_reducible apply M_ofRider); rfl; (exact bz_lit _); omega; (first | omega | decide)) | ((with_reducible apply ap_rI); exact kd_ord _ (by omega) _ (by decide)) | ((with_reducible apply ap_wI); exact kd_ord _ (by omega) _ (by decide)) | ((with_reducible apply ap_rI); exact kd_rid _ (by omega) _ (by decide)) | ((with_reducible apply ap_wI); exact kd_rid _ (by omega) _ (by decide)) | ((with_reducible apply ap_rc); exact (kd_clO _ (by omega)).1) | ((with_reducible apply ap_rc); exact (kd_clR _ (by omega)).1) | ((with_reducible apply ap_rc); exact (kd_clR _ (by omega)).2.2.1) | ((with_reducible apply ap_rR); exact (kd_ridA _ (by omega)).1) | ((with_reducible apply ap_rN); rfl) | ((with_reducible apply M_in)) | ((with_reducible apply X_isWithin)) | ((with_reducible apply ap_rI); rfl) | ((with_reducible apply ap_wI); rfl) | ((with_reducible apply ap_iA); rfl; (try simp only [bz_lit, pk_mul, nI_add]); rfl; omega) | ((with_reducible apply ap_iW); rfl; (try simp only [bz_lit, pk_mul, nI_add]); rfl; omega))
    rw [en]
    refine ⟨fun c => absurd ((nI_leI (by omega) (by omega)).mp c) (by omega), fun c => ⟨fun c1 => ⟨f_ap01 _ _ _ _, _, rfl, ?_⟩, fun c1 => ?_⟩⟩
    · have := f_ap_st c1 (n - k)
      rw [show k + (n - k) = n by omega] at this
      rw [this] at hP
      exact hP
    · rw [f_ap, if_pos c1, nI_succ] at ih
      repeat (first | ((with_reducible apply ap_rc); rfl) | ((with_reducible apply ap_nn)) | ((with_reducible apply ap_rR); rfl) | ((with_reducible apply M_ofOrder); rfl; (exact bz_lit _); omega; (first | omega | decide)) | ((with_reducible apply M_ofRider); rfl; (exact bz_lit _); omega; (first | omega | decide)) | ((with_reducible apply ap_rI); exact kd_ord _ (by omega) _ (by decide)) | ((with_reducible apply ap_wI); exact kd_ord _ (by omega) _ (by decide)) | ((with_reducible apply ap_rI); exact kd_rid _ (by omega) _ (by decide)) | ((with_reducible apply ap_wI); exact kd_rid _ (by omega) _ (by decide)) | ((with_reducible apply ap_rc); exact (kd_clO _ (by omega)).1) | ((with_reducible apply ap_rc); exact (kd_clR _ (by omega)).1) | ((with_reducible apply ap_rc); exact (kd_clR _ (by omega)).2.2.1) | ((with_reducible apply ap_rR); exact (kd_ridA _ (by omega)).1) | ((with_reducible apply ap_rN); rfl) | ((with_reducible apply M_in)) | ((with_reducible apply X_isWithin)) | ((with_reducible apply ap_rI); rfl) | ((with_reducible apply ap_wI); rfl) | ((with_reducible apply ap_iA); rfl; (try simp only [bz_lit, pk_mul, nI_add]); rfl; omega) | ((with_reducible apply ap_iW); rfl; (try simp only [bz_lit, pk_mul, nI_add]); rfl; omega))
      exact ih
  · refine g_X12_isElsewhere_15 hl _ _ _ _ _ _ _ ?_
    unfold w_X12_isElsewhere_15
    repeat (first | ((with_reducible apply ap_rc); rfl) | ((with_reducible apply ap_nn)) | ((with_reducible apply ap_rR); rfl) | ((with_reducible apply M_ofOrder); rfl; (exact bz_lit _); omega; (first | omega | decide)) | ((with_reducible apply M_ofRider); rfl; (exact bz_lit _); omega; (first | omega | decide)) | ((with_reducible apply ap_rI); exact kd_ord _ (by omega) _ (by decide)) | ((with_reducible apply ap_wI); exact kd_ord _ (by omega) _ (by decide)) | ((with_reducible apply ap_rI); exact kd_rid _ (by omega) _ (by decide)) | ((with_reducible apply ap_wI); exact kd_rid _ (by omega) _ (by decide)) | ((with_reducible apply ap_rc); exact (kd_clO _ (by omega)).1) | ((with_reducible apply ap_rc); exact (kd_clR _ (by omega)).1) | ((with_reducible apply ap_rc); exact (kd_clR _ (by omega)).2.2.1) | ((with_reducible apply ap_rR); exact (kd_ridA _ (by omega)).1) | ((with_reducible apply ap_rN); rfl) | ((with_reducible apply M_in)) | ((with_reducible apply X_isWithin)) | ((with_reducible apply ap_rI); rfl) | ((with_reducible apply ap_wI); rfl) | ((with_reducible apply ap_iA); rfl; (try simp only [bz_lit, pk_mul, nI_add]); rfl; omega) | ((with_reducible apply ap_iW); rfl; (try simp only [bz_lit, pk_mul, nI_add]); rfl; omega))
    rw [en]
    exact ⟨fun c => ⟨f_ap01 _ _ _ _, _, rfl, hP⟩, fun c => absurd (nI_le (by omega) (by omega)) c⟩
end ELS
