/-! reading the class in the reference's words -/
section REA
variable {E : Nat × (Nat → Int32)} {S : bz_S} {s : Nat → Int32} {P : Int32 → Prop} {o r : Nat}
theorem xo_0 (ht : tw S s) (ho : o < 24) (hP : P (s (312 + 12 * o + 0))) : bz_rI (bz_hp E S) (24 + o) 2 0 P := by
  refine ap_rI (kd_ord o ho 0 (by decide)) ?_
  rw [sy_o (tw_s ht) ho 0 0 (by decide) rfl]
  exact hP
theorem xo_2 (ht : tw S s) (ho : o < 24) (hP : P (s (312 + 12 * o + 1))) : bz_rI (bz_hp E S) (24 + o) 2 2 P := by
  refine ap_rI (kd_ord o ho 2 (by decide)) ?_
  rw [sy_o (tw_s ht) ho 1 2 (by decide) rfl]
  exact hP
theorem xo_3 (ht : tw S s) (ho : o < 24) (hP : P (s (312 + 12 * o + 2))) : bz_rI (bz_hp E S) (24 + o) 2 3 P := by
  refine ap_rI (kd_ord o ho 3 (by decide)) ?_
  rw [sy_o (tw_s ht) ho 2 3 (by decide) rfl]
  exact hP
theorem xo_5 (ht : tw S s) (ho : o < 24) (hP : P (s (312 + 12 * o + 4))) : bz_rI (bz_hp E S) (24 + o) 2 5 P := by
  refine ap_rI (kd_ord o ho 5 (by decide)) ?_
  rw [sy_o (tw_s ht) ho 4 5 (by decide) rfl]
  exact hP
theorem xo_7 (ht : tw S s) (ho : o < 24) (hP : P (s (312 + 12 * o + 5))) : bz_rI (bz_hp E S) (24 + o) 2 7 P := by
  refine ap_rI (kd_ord o ho 7 (by decide)) ?_
  rw [sy_o (tw_s ht) ho 5 7 (by decide) rfl]
  exact hP
theorem xo_8 (ht : tw S s) (ho : o < 24) (hP : P (s (312 + 12 * o + 6))) : bz_rI (bz_hp E S) (24 + o) 2 8 P := by
  refine ap_rI (kd_ord o ho 8 (by decide)) ?_
  rw [sy_o (tw_s ht) ho 6 8 (by decide) rfl]
  exact hP
theorem xo_9 (ht : tw S s) (ho : o < 24) (hP : P (s (312 + 12 * o + 7))) : bz_rI (bz_hp E S) (24 + o) 2 9 P := by
  refine ap_rI (kd_ord o ho 9 (by decide)) ?_
  rw [sy_o (tw_s ht) ho 7 9 (by decide) rfl]
  exact hP
theorem xo_10 (ht : tw S s) (ho : o < 24) (hP : P (s (312 + 12 * o + 8))) : bz_rI (bz_hp E S) (24 + o) 2 10 P := by
  refine ap_rI (kd_ord o ho 10 (by decide)) ?_
  rw [sy_o (tw_s ht) ho 8 10 (by decide) rfl]
  exact hP
theorem xo_13 (ht : tw S s) (ho : o < 24) (hP : P (s (312 + 12 * o + 9))) : bz_rI (bz_hp E S) (24 + o) 2 13 P := by
  refine ap_rI (kd_ord o ho 13 (by decide)) ?_
  rw [sy_o (tw_s ht) ho 9 13 (by decide) rfl]
  exact hP
theorem xr_1 (ht : tw S s) (hr : r < 12) (hP : P (s (600 + 8 * r + 0))) : bz_rI (bz_hp E S) (48 + 3 * r) 3 1 P := by
  refine ap_rI (kd_rid r hr 1 (by decide)) ?_
  rw [sy_r (tw_s ht) hr 0 1 (by decide) rfl]
  exact hP
theorem xr_4 (ht : tw S s) (hr : r < 12) (hP : P (s (600 + 8 * r + 1))) : bz_rI (bz_hp E S) (48 + 3 * r) 3 4 P := by
  refine ap_rI (kd_rid r hr 4 (by decide)) ?_
  rw [sy_r (tw_s ht) hr 1 4 (by decide) rfl]
  exact hP
theorem xr_5 (ht : tw S s) (hr : r < 12) (hP : P (s (600 + 8 * r + 2))) : bz_rI (bz_hp E S) (48 + 3 * r) 3 5 P := by
  refine ap_rI (kd_rid r hr 5 (by decide)) ?_
  rw [sy_r (tw_s ht) hr 2 5 (by decide) rfl]
  exact hP
theorem xr_6 (ht : tw S s) (hr : r < 12) (hP : P (s (600 + 8 * r + 3))) : bz_rI (bz_hp E S) (48 + 3 * r) 3 6 P := by
  refine ap_rI (kd_rid r hr 6 (by decide)) ?_
  rw [sy_r (tw_s ht) hr 3 6 (by decide) rfl]
  exact hP
theorem xr_2 (ht : tw S s) (hr : r < 12) (hP : P (s (600 + 8 * r + 4))) : bz_rI (bz_hp E S) (48 + 3 * r) 3 2 P := by
  refine ap_rI (kd_rid r hr 2 (by decide)) ?_
  rw [sy_r (tw_s ht) hr 4 2 (by decide) rfl]
  exact hP
theorem xr_3 (ht : tw S s) (hr : r < 12) (hP : P (s (600 + 8 * r + 5))) : bz_rI (bz_hp E S) (48 + 3 * r) 3 3 P := by
  refine ap_rI (kd_rid r hr 3 (by decide)) ?_
  rw [sy_r (tw_s ht) hr 5 3 (by decide) rfl]
  exact hP
theorem xw_9 (ht : tw S s) (hP : P (s 2)) : bz_rI (bz_hp E S) 6 10 9 P := by
  refine ap_rI rfl ?_
  rw [show S.1 6 9 = s 2 from sy_c (tw_s ht) 2 0 9 (by decide) rfl]
  exact hP
theorem xw_10 (ht : tw S s) (hP : P (s 3)) : bz_rI (bz_hp E S) 6 10 10 P := by
  refine ap_rI rfl ?_
  rw [show S.1 6 10 = s 3 from sy_c (tw_s ht) 3 0 10 (by decide) rfl]
  exact hP
theorem xw_11 (ht : tw S s) (hP : P (s 4)) : bz_rI (bz_hp E S) 6 10 11 P := by
  refine ap_rI rfl ?_
  rw [show S.1 6 11 = s 4 from sy_c (tw_s ht) 4 0 11 (by decide) rfl]
  exact hP
theorem xw_12 (ht : tw S s) (hP : P (s 0)) : bz_rI (bz_hp E S) 6 10 12 P := by
  refine ap_rI rfl ?_
  rw [show S.1 6 12 = s 0 from sy_c (tw_s ht) 0 0 12 (by decide) rfl]
  exact hP
theorem xw_13 (ht : tw S s) (hP : P (s 5)) : bz_rI (bz_hp E S) 6 10 13 P := by
  refine ap_rI rfl ?_
  rw [show S.1 6 13 = s 5 from sy_c (tw_s ht) 5 0 13 (by decide) rfl]
  exact hP
theorem xw_14 (ht : tw S s) (hP : P (s 6)) : bz_rI (bz_hp E S) 6 10 14 P := by
  refine ap_rI rfl ?_
  rw [show S.1 6 14 = s 6 from sy_c (tw_s ht) 6 0 14 (by decide) rfl]
  exact hP
theorem xw_15 (ht : tw S s) (hP : P (s 8)) : bz_rI (bz_hp E S) 6 10 15 P := by
  refine ap_rI rfl ?_
  rw [show S.1 6 15 = s 8 from sy_c (tw_s ht) 8 0 15 (by decide) rfl]
  exact hP
theorem xn_12 (ht : tw S s) (hP : P (s 1)) : bz_rI (bz_hp E S) 12 4 1 P := by
  refine ap_rI rfl ?_
  rw [show S.1 12 1 = s 1 from sy_c (tw_s ht) 1 6 1 (by decide) rfl]
  exact hP
theorem xn_17 (ht : tw S s) (hP : P (s 10)) : bz_rI (bz_hp E S) 17 4 1 P := by
  refine ap_rI rfl ?_
  rw [show S.1 17 1 = s 10 from sy_c (tw_s ht) 10 11 1 (by decide) rfl]
  exact hP
theorem xn_19 (ht : tw S s) (hP : P (s 7)) : bz_rI (bz_hp E S) 19 4 1 P := by
  refine ap_rI rfl ?_
  rw [show S.1 19 1 = s 7 from sy_c (tw_s ht) 7 13 1 (by decide) rfl]
  exact hP
theorem xn_21 (ht : tw S s) (hP : P (s 9)) : bz_rI (bz_hp E S) 21 4 1 P := by
  refine ap_rI rfl ?_
  rw [show S.1 21 1 = s 9 from sy_c (tw_s ht) 9 15 1 (by decide) rfl]
  exact hP
theorem ap_sA {i : Nat} {j : Int32} (hs : S.1 187 = s) (hj : j = nI i) (hi : i < 2296) (hP : P (s i)) : bz_rA (bz_hp E S) 187 j P := by
  refine ap_iA rfl hj (by omega) ?_
  rw [hs]
  exact hP
end REA
section REB
variable {G : bz_G} {l : Launch} {d : Nat} {E : Nat × (Nat → Int32)} {S : bz_S} {s : Nat → Int32} {P : Int32 → bz_H → Prop} {Q : Option Nat → bz_H → Prop}
theorem ms_isOrder {v : Int32} (hs : S.1 187 = s) (hP : P (bz_in v 0 (s 2 - 1)) (bz_hp E S)) : bz_cI G l (d + 2) kX12_isOrder [.inr (some 186), .inl v] (bz_hp E S) 0 0 P := M_isOrder (by rw [hs]; exact hP)
theorem ms_isRider {v : Int32} (hs : S.1 187 = s) (hP : P (bz_in v 0 (s 3 - 1)) (bz_hp E S)) : bz_cI G l (d + 2) kX12_isRider [.inr (some 186), .inl v] (bz_hp E S) 0 0 P := M_isRider (by rw [hs]; exact hP)
theorem ms_isText {v : Int32} (hs : S.1 187 = s) (hP : P (bz_in v 0 (s 4 - 1)) (bz_hp E S)) : bz_cI G l (d + 2) kX12_isText [.inr (some 186), .inl v] (bz_hp E S) 0 0 P := M_isText (by rw [hs]; exact hP)
theorem ms_ofOrder {x y : Int32} {o w : Nat} (hs : S.1 187 = s) (hx : x = nI o) (hy : y = nI w) (ho : o < 24) (hw : w < 12) (hP : P (s (312 + 12 * o + w)) (bz_hp E S)) : bz_cI G l (d + 1) kX12_ofOrder [.inr (some 186), .inl x, .inl y] (bz_hp E S) 0 0 P := M_ofOrder hx hy ho hw (by rw [hs]; exact hP)
theorem ms_ofRider {x y : Int32} {r w : Nat} (hs : S.1 187 = s) (hx : x = nI r) (hy : y = nI w) (hr : r < 12) (hw : w < 8) (hP : P (s (600 + 8 * r + w)) (bz_hp E S)) : bz_cI G l (d + 1) kX12_ofRider [.inr (some 186), .inl x, .inl y] (bz_hp E S) 0 0 P := M_ofRider hx hy hr hw (by rw [hs]; exact hP)
theorem ms_isGiven {x : Int32} {o : Nat} (hs : S.1 187 = s) (hx : x = nI o) (ho : o < 24) (hP : P (f_is s o 1) (bz_hp E S)) : bz_cI G l (d + 2) kX12_isGiven [.inr (some 186), .inl x] (bz_hp E S) 0 0 P := by
  subst hx
  exact M_isGiven ho (by rw [hs]; exact hP)
theorem ms_isWaiting {x : Int32} {o : Nat} (hs : S.1 187 = s) (hx : x = nI o) (ho : o < 24) (hP : P (f_is s o 0) (bz_hp E S)) : bz_cI G l (d + 2) kX12_isWaiting [.inr (some 186), .inl x] (bz_hp E S) 0 0 P := by
  subst hx
  exact M_isWaiting ho (by rw [hs]; exact hP)
theorem X_oA {v : Int32} (ht : tw S s) (hN : bz_in v 0 (s 2 - 1) = 0 → Q none (bz_hp E S)) (hY : ¬ bz_in v 0 (s 2 - 1) = 0 → ∀ o, o < 24 → o < (s 2).toNatClampNeg → v = nI o → Q (some (24 + o)) (bz_hp E S)) : bz_cR G l (d + 2) kX10_orderAt [.inr (some 6), .inl v] (bz_hp E S) 0 0 Q := X_orderAt (tw_b ht) (tw_s ht) hN hY
theorem X_rA {v : Int32} (ht : tw S s) (hN : bz_in v 0 (s 3 - 1) = 0 → Q none (bz_hp E S)) (hY : ¬ bz_in v 0 (s 3 - 1) = 0 → ∀ r, r < 12 → r < (s 3).toNatClampNeg → v = nI r → Q (some (48 + 3 * r)) (bz_hp E S)) : bz_cR G l (d + 2) kX10_riderAt [.inr (some 6), .inl v] (bz_hp E S) 0 0 Q := X_riderAt (tw_b ht) (tw_s ht) hN hY
theorem X_tA {v : Int32} (ht : tw S s) (hN : bz_in v 0 (s 4 - 1) = 0 → Q none (bz_hp E S)) (hY : ¬ bz_in v 0 (s 4 - 1) = 0 → ∀ t, t < 8 → t < (s 4).toNatClampNeg → v = nI t → Q (S.2.1 16 t) (bz_hp E S)) : bz_cR G l (d + 2) kX10_textAt [.inr (some 6), .inl v] (bz_hp E S) 0 0 Q := X_textAt (tw_b ht) (tw_s ht) hN hY
/-- the whole reference behind a finding of the class on its arguments -/
theorem cr_in {v : Int32} (h : ¬ bz_in v 0 15 = 0) : ∃ a, a < 16 ∧ v = nI a := by
  obtain ⟨j, -, h2, h3⟩ := bz_in_k (a := 0) (b := 15) rfl rfl (by decide) (by decide) h
  exact ⟨j, by omega, h3⟩
end REB
