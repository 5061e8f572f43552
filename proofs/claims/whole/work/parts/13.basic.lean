/-! values that both sides share, and the small methods -/
def bz_in (v lo hi : Int32) : Int32 := if v < lo then 0 else if hi < v then 0 else 1
theorem bz_in01 (v lo hi : Int32) : bz_in v lo hi = 0 ∨ bz_in v lo hi = 1 := by
  unfold bz_in
  split
  · exact Or.inl rfl
  · split
    · exact Or.inl rfl
    · exact Or.inr rfl
theorem bz_in_t {v lo hi : Int32} (h : ¬ bz_in v lo hi = 0) : ¬ v < lo ∧ ¬ hi < v := by
  unfold bz_in at h
  by_cases h1 : v < lo
  · rw [if_pos h1] at h; exact absurd rfl h
  · rw [if_neg h1] at h
    by_cases h2 : hi < v
    · rw [if_pos h2] at h; exact absurd rfl h
    · exact ⟨h1, h2⟩
/-- inside 0 .. n - 1: a natural number -/
theorem bz_in_n {v hi : Int32} {n : Nat} (hn : hi = nI n - 1) (h0 : n < 2 ^ 30) (h : ¬ bz_in v 0 hi = 0) : ∃ j, j < n ∧ v = nI j := by
  obtain ⟨h1, h2⟩ := bz_in_t h
  obtain ⟨j, hj, rfl⟩ := nI_of h1
  refine ⟨j, ?_, rfl⟩
  subst hn
  have e1 : (nI n - 1).toInt = (n : Int) - 1 := pk_sub_toInt (a := n) (b := 1) h0 (by decide)
  have e2 : (nI j).toInt = (j : Int) := nI_toInt hj
  have h3 : ¬ (nI n - 1).toInt < (nI j).toInt := fun q => h2 (Int32.lt_iff_toInt_lt.mpr q)
  rw [e1, e2] at h3
  omega
theorem bz_in_k {v lo hi : Int32} {a b : Nat} (ha : lo = nI a) (hb : hi = nI b) (h0 : b < 2 ^ 30) (h1 : a < 2 ^ 30) (h : ¬ bz_in v lo hi = 0) : ∃ j, a ≤ j ∧ j ≤ b ∧ v = nI j := by
  obtain ⟨h2, h3⟩ := bz_in_t h
  subst ha; subst hb
  have e1 : (nI a).toInt = (a : Int) := nI_toInt (by omega)
  have e2 : (nI b).toInt = (b : Int) := nI_toInt (by omega)
  have h4 : ¬ v.toInt < (nI a).toInt := fun q => h2 (Int32.lt_iff_toInt_lt.mpr q)
  have h5 : ¬ (nI b).toInt < v.toInt := fun q => h3 (Int32.lt_iff_toInt_lt.mpr q)
  rw [e1] at h4; rw [e2] at h5
  have h6 : ¬ v < 0 := fun q => by
    have := Int32.lt_iff_toInt_lt.mp q
    have e0 : (0 : Int32).toInt = 0 := rfl
    omega
  obtain ⟨j, hj, rfl⟩ := nI_of h6
  have e3 : (nI j).toInt = (j : Int) := nI_toInt hj
  exact ⟨j, by omega, by omega, rfl⟩
theorem bz_in_1 {v lo hi : Int32} (h : ¬ v < lo ∧ ¬ hi < v) : bz_in v lo hi = 1 := by
  unfold bz_in
  rw [if_neg h.1, if_neg h.2]
def bz_rd (a b m : Int32) : Int32 := if bz_in a 0 15 = 0 then 0 else if bz_in b 0 15 = 0 then 0 else if a = b then 0 else if bz_in m 1 60 = 0 then 0 else 1
theorem bz_u_same (μ : Nat → Nat → Int32) (a k : Nat) (v : Int32) : bz_u μ a k v a k = v := by
  unfold bz_u; rw [if_pos rfl]; exact pk_us
theorem bz_u_cell (μ : Nat → Nat → Int32) {a b : Nat} (k : Nat) (v : Int32) (h : b ≠ a) : bz_u μ a k v b = μ b := by
  unfold bz_u; rw [if_neg h]
theorem bz_u_row (μ : Nat → Nat → Int32) (a k : Nat) (v : Int32) : bz_u μ a k v a = upd (μ a) k v := by
  unfold bz_u; rw [if_pos rfl]
theorem bz_u_ne (μ : Nat → Nat → Int32) {a b k j : Nat} (v : Int32) (h : b ≠ a ∨ j ≠ k) : bz_u μ a k v b j = μ b j := by
  unfold bz_u
  by_cases hb : b = a
  · subst hb; rw [if_pos rfl, pk_un (h.resolve_left (fun q => q rfl))]
  · rw [if_neg hb]
section BAS
variable {G : bz_G} {l : Launch} {d : Nat} {E : Nat × (Nat → Int32)} {S : bz_S} {h : bz_H} {P : Int32 → bz_H → Prop}
theorem X_isWithin {v lo hi : Int32} (hP : P (bz_in v lo hi) h) : bz_cI G l (d + 1) kX11_isWithin [.inl v, .inl lo, .inl hi] h 0 0 P := m_X11_isWithin _ _ _ _ ⟨_, rfl, hP⟩
theorem M_in {v lo hi : Int32} (hP : P (bz_in v lo hi) h) : bz_cI G l (d + 1) kX12_in [.inl v, .inl lo, .inl hi] h 0 0 P := m_X12_in _ _ _ _ ⟨_, rfl, hP⟩
theorem X_isCrossing {v : Int32} (hP : P (bz_in v 0 15) h) : bz_cI G l (d + 2) kX11_isCrossing [.inl v] h 0 0 P := m_X11_isCrossing _ _ (X_isWithin ⟨bz_in01 _ _ _, _, rfl, hP⟩)
theorem M_isCrossing {v : Int32} (hP : P (bz_in v 0 15) h) : bz_cI G l (d + 2) kX12_isCrossing [.inl v] h 0 0 P := m_X12_isCrossing _ _ (M_in ⟨bz_in01 _ _ _, _, rfl, hP⟩)
theorem X_isMinute {v : Int32} (hP : P (bz_in v 0 1439) h) : bz_cI G l (d + 2) kX11_isMinute [.inl v] h 0 0 P := m_X11_isMinute _ _ (X_isWithin ⟨bz_in01 _ _ _, _, rfl, hP⟩)
theorem M_isMinute {v : Int32} (hP : P (bz_in v 0 1439) h) : bz_cI G l (d + 2) kX12_isMinute [.inl v] h 0 0 P := m_X12_isMinute _ _ (M_in ⟨bz_in01 _ _ _, _, rfl, hP⟩)
theorem M_isSpot {v : Int32} (hP : P (bz_in v 0 9) h) : bz_cI G l (d + 2) kX12_isSpot [.inl v] h 0 0 P := m_X12_isSpot _ _ (M_in ⟨bz_in01 _ _ _, _, rfl, hP⟩)
theorem M_isSheet {v : Int32} (hP : P (bz_in v 0 3) h) : bz_cI G l (d + 2) kX12_isSheet [.inl v] h 0 0 P := m_X12_isSheet _ _ (M_in ⟨bz_in01 _ _ _, _, rfl, hP⟩)
theorem X_isRoad {a b m : Int32} (hP : P (bz_rd a b m) h) : bz_cI G l (d + 3) kX11_isRoad [.inl a, .inl b, .inl m] h 0 0 P := by
  refine m_X11_isRoad _ _ _ _ (X_isCrossing ⟨fun c1 => ⟨_, rfl, ?_⟩, fun c1 => X_isCrossing ⟨fun c2 => ⟨_, rfl, ?_⟩, fun c2 => ⟨fun c3 => ⟨_, rfl, ?_⟩, fun c3 => X_isWithin ⟨_, rfl, ?_⟩⟩⟩⟩)
  · unfold bz_rd at hP; rw [if_pos c1] at hP; exact hP
  · unfold bz_rd at hP; rw [if_neg c1, if_pos c2] at hP; exact hP
  · unfold bz_rd at hP; rw [if_neg c1, if_neg c2, if_pos c3] at hP; exact hP
  · unfold bz_rd at hP; rw [if_neg c1, if_neg c2, if_neg c3] at hP; exact hP
theorem M_isRoad {a b m : Int32} (hP : P (bz_rd a b m) h) : bz_cI G l (d + 3) kX12_isRoad [.inl a, .inl b, .inl m] h 0 0 P := by
  refine m_X12_isRoad _ _ _ _ (M_isCrossing ⟨fun c1 => ⟨_, rfl, ?_⟩, fun c1 => M_isCrossing ⟨fun c2 => ⟨_, rfl, ?_⟩, fun c2 => ⟨fun c3 => ⟨_, rfl, ?_⟩, fun c3 => M_in ⟨_, rfl, ?_⟩⟩⟩⟩)
  · unfold bz_rd at hP; rw [if_pos c1] at hP; exact hP
  · unfold bz_rd at hP; rw [if_neg c1, if_pos c2] at hP; exact hP
  · unfold bz_rd at hP; rw [if_neg c1, if_neg c2, if_pos c3] at hP; exact hP
  · unfold bz_rd at hP; rw [if_neg c1, if_neg c2, if_neg c3] at hP; exact hP
theorem X_finding {c : Int32} (k : Nat) (hk : k < 7) (hc : -1000001 - c = nI k) (hP : P c (bz_hp E (bz_u S.1 174 k (S.1 174 k + 1), S.2))) : bz_cI G l (d + 2) kX11_finding [.inr (some 5), .inl c] (bz_hp E S) 0 0 P := by
  refine m_X11_finding _ _ _ ?_
  unfold w_X11_finding_0
  rw [hc]
  have hin : bz_in (nI k) 0 6 = 1 := bz_in_1 ⟨nI_pos (by omega), nI_nlt (a := 6) (b := k) (by omega) (by decide)⟩
  refine X_isWithin ?_
  rw [hin]
  refine ⟨fun c => absurd c (by decide), fun _ => ?_⟩
  have hi : vp_in (nI k) 7 := vp_in_nI hk (by decide)
  refine ap_rR rfl (ap_nn (ap_rA rfl hi (ap_wA rfl hi ⟨_, rfl, ?_⟩)))
  rw [nI_clamp (by omega)]
  exact hP
theorem M_finding {c : Int32} (k : Nat) (hk : k < 7) (hc : c = nI k) (hP : P (-1000001 - c) (bz_hp E (bz_u S.1 189 k (S.1 189 k + 1), S.2))) : bz_cI G l (d + 1) kX12_finding [.inr (some 186), .inl c] (bz_hp E S) 0 0 P := by
  refine m_X12_finding _ _ _ ?_
  subst hc
  have hi : vp_in (nI k) 7 := vp_in_nI hk (by decide)
  refine ap_rR rfl (ap_nn (ap_rA rfl hi (ap_wA rfl hi ⟨_, rfl, ?_⟩)))
  rw [nI_clamp (by omega)]
  exact hP
theorem M_isOrder {v : Int32} (hP : P (bz_in v 0 (S.1 187 2 - 1)) (bz_hp E S)) : bz_cI G l (d + 2) kX12_isOrder [.inr (some 186), .inl v] (bz_hp E S) 0 0 P :=
  m_X12_isOrder _ _ _ (ap_rR rfl (ap_nn (ap_rA rfl (vp_in_nI (n := 2) (by decide) (by decide)) (M_in ⟨bz_in01 _ _ _, _, rfl, hP⟩))))
theorem M_isRider {v : Int32} (hP : P (bz_in v 0 (S.1 187 3 - 1)) (bz_hp E S)) : bz_cI G l (d + 2) kX12_isRider [.inr (some 186), .inl v] (bz_hp E S) 0 0 P :=
  m_X12_isRider _ _ _ (ap_rR rfl (ap_nn (ap_rA rfl (vp_in_nI (n := 3) (by decide) (by decide)) (M_in ⟨bz_in01 _ _ _, _, rfl, hP⟩))))
theorem M_isText {v : Int32} (hP : P (bz_in v 0 (S.1 187 4 - 1)) (bz_hp E S)) : bz_cI G l (d + 2) kX12_isText [.inr (some 186), .inl v] (bz_hp E S) 0 0 P :=
  m_X12_isText _ _ _ (ap_rR rfl (ap_nn (ap_rA rfl (vp_in_nI (n := 4) (by decide) (by decide)) (M_in ⟨bz_in01 _ _ _, _, rfl, hP⟩))))
theorem M_become {x v : Int32} {i : Nat} (hx : x = nI i) (hi : i < 2296) (hP : P (S.1 187 i) (bz_hp E (bz_u S.1 187 i v, S.2))) : bz_cI G l (d + 1) kX12_become [.inr (some 186), .inl x, .inl v] (bz_hp E S) 0 0 P := by
  subst hx
  have hin : vp_in (nI i) 2296 := vp_in_nI hi (by decide)
  refine m_X12_become _ _ _ _ (ap_rR rfl (ap_nn (ap_rA rfl hin (ap_rR rfl (ap_nn (ap_wA rfl hin ⟨_, rfl, ?_⟩))))))
  rw [nI_clamp (by omega)]
  exact hP
theorem M_ofOrder {x y : Int32} {o w : Nat} (hx : x = nI o) (hy : y = nI w) (ho : o < 24) (hw : w < 12) (hP : P (S.1 187 (312 + 12 * o + w)) (bz_hp E S)) : bz_cI G l (d + 1) kX12_ofOrder [.inr (some 186), .inl x, .inl y] (bz_hp E S) 0 0 P := by
  subst hx; subst hy
  have e : (312 : Int32) + 12 * nI o + nI w = nI (312 + 12 * o + w) := by
    rw [show (12 : Int32) = nI 12 from rfl, pk_mul, show (312 : Int32) = nI 312 from rfl, nI_add, nI_add]
  refine m_X12_ofOrder _ _ _ _ (ap_rR rfl (ap_nn ?_))
  rw [e]
  refine ap_rA rfl (vp_in_nI (by omega) (by decide)) ⟨_, rfl, ?_⟩
  rw [nI_clamp (by omega)]
  exact hP
theorem M_ofRider {x y : Int32} {r w : Nat} (hx : x = nI r) (hy : y = nI w) (hr : r < 12) (hw : w < 8) (hP : P (S.1 187 (600 + 8 * r + w)) (bz_hp E S)) : bz_cI G l (d + 1) kX12_ofRider [.inr (some 186), .inl x, .inl y] (bz_hp E S) 0 0 P := by
  subst hx; subst hy
  have e : (600 : Int32) + 8 * nI r + nI w = nI (600 + 8 * r + w) := by
    rw [show (8 : Int32) = nI 8 from rfl, pk_mul, show (600 : Int32) = nI 600 from rfl, nI_add, nI_add]
  refine m_X12_ofRider _ _ _ _ (ap_rR rfl (ap_nn ?_))
  rw [e]
  refine ap_rA rfl (vp_in_nI (by omega) (by decide)) ⟨_, rfl, ?_⟩
  rw [nI_clamp (by omega)]
  exact hP
end BAS
