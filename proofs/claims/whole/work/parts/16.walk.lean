/-! walking with places as natural numbers -/
theorem bz_lit (n : Nat) : (OfNat.ofNat n : Int32) = nI (OfNat.ofNat n) := rfl
section WLK
variable {E : Nat × (Nat → Int32)} {S : bz_S} {a i n : Nat}
theorem ap_iA {P : Int32 → Prop} {j : Int32} (h : bz_ln a = some n) (hj : j = nI i) (hi : i < n ∧ n < 100000) (hP : P (S.1 a i)) : bz_rA (bz_hp E S) a j P := by
  subst hj
  refine ap_rA h (vp_in_nI hi.1 (by omega)) ?_
  rw [nI_clamp (by omega)]
  exact hP
theorem ap_iW {P : bz_H → Prop} {j v : Int32} (h : bz_ln a = some n) (hj : j = nI i) (hi : i < n ∧ n < 100000) (hP : P (bz_hp E (bz_u S.1 a i v, S.2))) : bz_wA (bz_hp E S) a j v P := by
  subst hj
  refine ap_wA h (vp_in_nI hi.1 (by omega)) ?_
  rw [nI_clamp (by omega)]
  exact hP
end WLK
/-- a number below n -/
def bz_lt (v : Int32) (n : Nat) : Prop := ∃ k, k < n ∧ v = nI k
def f_ka (s : Nat → Int32) (o : Nat) : Int32 := s (300 + 2 * (s (312 + 12 * o + 0)).toNatClampNeg)
def f_rdy (s : Nat → Int32) (o : Nat) : Int32 := s (312 + 12 * o + 2) + s (300 + 2 * (s (312 + 12 * o + 0)).toNatClampNeg + 1) + s (312 + 12 * o + 4)
section HLP
variable {G : bz_G} {l : Launch} {d : Nat} {E : Nat × (Nat → Int32)} {S : bz_S} {P : Int32 → bz_H → Prop}
theorem M_kitchenAt {o : Nat} (ho : o < 24) (hk : bz_lt (S.1 187 (312 + 12 * o + 0)) 6) (hP : P (f_ka (S.1 187) o) (bz_hp E S)) : bz_cI G l (d + 2) kX12_kitchenAt [.inr (some 186), .inl (nI o)] (bz_hp E S) 0 0 P := by
  refine m_X12_kitchenAt _ _ _ ?_
  unfold w_X12_kitchenAt_0
  repeat (first | ((with_reducible apply ap_rc); rfl) | ((with_reducible apply ap_nn)) | ((with_reducible apply ap_rR); rfl) | ((with_reducible apply M_ofOrder); rfl; (exact bz_lit _); omega; (first | omega | decide)) | ((with_reducible apply M_ofRider); rfl; (exact bz_lit _); omega; (first | omega | decide)) | ((with_reducible apply ap_rI); exact kd_ord _ (by omega) _ (by decide)) | ((with_reducible apply ap_wI); exact kd_ord _ (by omega) _ (by decide)) | ((with_reducible apply ap_rI); exact kd_rid _ (by omega) _ (by decide)) | ((with_reducible apply ap_wI); exact kd_rid _ (by omega) _ (by decide)) | ((with_reducible apply ap_rc); exact (kd_clO _ (by omega)).1) | ((with_reducible apply ap_rc); exact (kd_clR _ (by omega)).1) | ((with_reducible apply ap_rc); exact (kd_clR _ (by omega)).2.2.1) | ((with_reducible apply ap_rR); exact (kd_ridA _ (by omega)).1) | ((with_reducible apply ap_rN); rfl) | ((with_reducible apply M_in)) | ((with_reducible apply X_isWithin)) | ((with_reducible apply ap_rI); rfl) | ((with_reducible apply ap_wI); rfl) | ((with_reducible apply ap_iA); rfl; (try simp only [bz_lit, pk_mul, nI_add]); rfl; omega) | ((with_reducible apply ap_iW); rfl; (try simp only [bz_lit, pk_mul, nI_add]); rfl; omega))
  unfold f_ka at hP
  obtain ⟨k, hk, e⟩ := hk
  rw [e] at hP ⊢
  rw [nI_clamp (by omega)] at hP
  repeat (first | ((with_reducible apply ap_rc); rfl) | ((with_reducible apply ap_nn)) | ((with_reducible apply ap_rR); rfl) | ((with_reducible apply M_ofOrder); rfl; (exact bz_lit _); omega; (first | omega | decide)) | ((with_reducible apply M_ofRider); rfl; (exact bz_lit _); omega; (first | omega | decide)) | ((with_reducible apply ap_rI); exact kd_ord _ (by omega) _ (by decide)) | ((with_reducible apply ap_wI); exact kd_ord _ (by omega) _ (by decide)) | ((with_reducible apply ap_rI); exact kd_rid _ (by omega) _ (by decide)) | ((with_reducible apply ap_wI); exact kd_rid _ (by omega) _ (by decide)) | ((with_reducible apply ap_rc); exact (kd_clO _ (by omega)).1) | ((with_reducible apply ap_rc); exact (kd_clR _ (by omega)).1) | ((with_reducible apply ap_rc); exact (kd_clR _ (by omega)).2.2.1) | ((with_reducible apply ap_rR); exact (kd_ridA _ (by omega)).1) | ((with_reducible apply ap_rN); rfl) | ((with_reducible apply M_in)) | ((with_reducible apply X_isWithin)) | ((with_reducible apply ap_rI); rfl) | ((with_reducible apply ap_wI); rfl) | ((with_reducible apply ap_iA); rfl; (try simp only [bz_lit, pk_mul, nI_add]); rfl; omega) | ((with_reducible apply ap_iW); rfl; (try simp only [bz_lit, pk_mul, nI_add]); rfl; omega))
  exact ⟨_, rfl, hP⟩
theorem M_ready {o : Nat} (ho : o < 24) (hk : bz_lt (S.1 187 (312 + 12 * o + 0)) 6) (hP : P (f_rdy (S.1 187) o) (bz_hp E S)) : bz_cI G l (d + 2) kX12_ready [.inr (some 186), .inl (nI o)] (bz_hp E S) 0 0 P := by
  refine m_X12_ready _ _ _ ?_
  unfold w_X12_ready_0
  repeat (first | ((with_reducible apply ap_rc); rfl) | ((with_reducible apply ap_nn)) | ((with_reducible apply ap_rR); rfl) | ((with_reducible apply M_ofOrder); rfl; (exact bz_lit _); omega; (first | omega | decide)) | ((with_reducible apply M_ofRider); rfl; (exact bz_lit _); omega; (first | omega | decide)) | ((with_reducible apply ap_rI); exact kd_ord _ (by omega) _ (by decide)) | ((with_reducible apply ap_wI); exact kd_ord _ (by omega) _ (by decide)) | ((with_reducible apply ap_rI); exact kd_rid _ (by omega) _ (by decide)) | ((with_reducible apply ap_wI); exact kd_rid _ (by omega) _ (by decide)) | ((with_reducible apply ap_rc); exact (kd_clO _ (by omega)).1) | ((with_reducible apply ap_rc); exact (kd_clR _ (by omega)).1) | ((with_reducible apply ap_rc); exact (kd_clR _ (by omega)).2.2.1) | ((with_reducible apply ap_rR); exact (kd_ridA _ (by omega)).1) | ((with_reducible apply ap_rN); rfl) | ((with_reducible apply M_in)) | ((with_reducible apply X_isWithin)) | ((with_reducible apply ap_rI); rfl) | ((with_reducible apply ap_wI); rfl) | ((with_reducible apply ap_iA); rfl; (try simp only [bz_lit, pk_mul, nI_add]); rfl; omega) | ((with_reducible apply ap_iW); rfl; (try simp only [bz_lit, pk_mul, nI_add]); rfl; omega))
  unfold f_rdy at hP
  obtain ⟨k, hk, e⟩ := hk
  rw [e] at hP ⊢
  rw [nI_clamp (by omega)] at hP
  repeat (first | ((with_reducible apply ap_rc); rfl) | ((with_reducible apply ap_nn)) | ((with_reducible apply ap_rR); rfl) | ((with_reducible apply M_ofOrder); rfl; (exact bz_lit _); omega; (first | omega | decide)) | ((with_reducible apply M_ofRider); rfl; (exact bz_lit _); omega; (first | omega | decide)) | ((with_reducible apply ap_rI); exact kd_ord _ (by omega) _ (by decide)) | ((with_reducible apply ap_wI); exact kd_ord _ (by omega) _ (by decide)) | ((with_reducible apply ap_rI); exact kd_rid _ (by omega) _ (by decide)) | ((with_reducible apply ap_wI); exact kd_rid _ (by omega) _ (by decide)) | ((with_reducible apply ap_rc); exact (kd_clO _ (by omega)).1) | ((with_reducible apply ap_rc); exact (kd_clR _ (by omega)).1) | ((with_reducible apply ap_rc); exact (kd_clR _ (by omega)).2.2.1) | ((with_reducible apply ap_rR); exact (kd_ridA _ (by omega)).1) | ((with_reducible apply ap_rN); rfl) | ((with_reducible apply M_in)) | ((with_reducible apply X_isWithin)) | ((with_reducible apply ap_rI); rfl) | ((with_reducible apply ap_wI); rfl) | ((with_reducible apply ap_iA); rfl; (try simp only [bz_lit, pk_mul, nI_add]); rfl; omega) | ((with_reducible apply ap_iW); rfl; (try simp only [bz_lit, pk_mul, nI_add]); rfl; omega))
  exact ⟨_, rfl, hP⟩
end HLP
