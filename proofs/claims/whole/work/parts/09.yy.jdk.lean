abbrev kJ0_coder_7d493 : bz_M := (yJ0_coder_7d493, cJ0_coder_7d493, 1, (some .byte))
theorem sc_J0_coder_7d493 : bz_SC kJ0_coder_7d493 0 := ⟨bz_mem 99 (by decide +kernel) (by decide +kernel), bz_mem 885 (by decide +kernel) (by decide +kernel), by decide +kernel, by decide⟩
theorem sf_compact : Cond.fieldLink RJ0 38 "java/lang/String" "COMPACT_STRINGS" "Z" ∈ bz_tbl := bz_mem 876 (by decide +kernel) (by decide +kernel)
theorem sf_coder : Cond.fieldLink RJ0 15 "java/lang/String" "coder" "B" ∈ bz_tbl := bz_mem 1827 (by decide +kernel) (by decide +kernel)
abbrev kJ0_length_8abf5 : bz_M := (yJ0_length_8abf5, cJ0_length_8abf5, 1, (some .int))
theorem sc_J0_length_8abf5 : bz_SC kJ0_length_8abf5 0 := ⟨bz_mem 99 (by decide +kernel) (by decide +kernel), bz_mem 881 (by decide +kernel) (by decide +kernel), by decide +kernel, by decide⟩
theorem sf_value : Cond.fieldLink RJ0 9 "java/lang/String" "value" "[B" ∈ bz_tbl := bz_mem 1828 (by decide +kernel) (by decide +kernel)
theorem ml_J0_335 : Cond.methodLink RJ0 335 yJ0_coder_7d493 ∈ bz_tbl := bz_mem 882 (by decide +kernel) (by decide +kernel)
theorem im_J0_coder_7d493 : Cond.instanceMethod yJ0_coder_7d493 ∈ bz_tbl := bz_mem 883 (by decide +kernel) (by decide +kernel)
theorem se_J0_coder_7d493 : Cond.selects RJ0 yJ0_coder_7d493 yJ0_coder_7d493 ∈ bz_tbl := bz_mem 884 (by decide +kernel) (by decide +kernel)
abbrev kJ0_isLatin1_aae02 : bz_M := (yJ0_isLatin1_aae02, cJ0_isLatin1_aae02, 1, (some .boolean))
theorem sc_J0_isLatin1_aae02 : bz_SC kJ0_isLatin1_aae02 0 := ⟨bz_mem 99 (by decide +kernel) (by decide +kernel), bz_mem 875 (by decide +kernel) (by decide +kernel), by decide +kernel, by decide⟩
abbrev kJ1_canEncode_9a6ad : bz_M := (yJ1_canEncode_9a6ad, cJ1_canEncode_9a6ad, 1, (some .boolean))
theorem sc_J1_canEncode_9a6ad : bz_SC kJ1_canEncode_9a6ad 1 := ⟨bz_mem 100 (by decide +kernel) (by decide +kernel), bz_mem 891 (by decide +kernel) (by decide +kernel), by decide +kernel, by decide⟩
abbrev kJ1_indexOfChar_4cfef : bz_M := (yJ1_indexOfChar_4cfef, cJ1_indexOfChar_4cfef, 6, (some .int))
theorem sc_J1_indexOfChar_4cfef : bz_SC kJ1_indexOfChar_4cfef 4 := ⟨bz_mem 100 (by decide +kernel) (by decide +kernel), bz_mem 896 (by decide +kernel) (by decide +kernel), by decide +kernel, by decide⟩
abbrev kJ1_indexOf_4cfef : bz_M := (yJ1_indexOf_4cfef, cJ1_indexOf_4cfef, 4, (some .int))
theorem sc_J1_indexOf_4cfef : bz_SC kJ1_indexOf_4cfef 4 := ⟨bz_mem 100 (by decide +kernel) (by decide +kernel), bz_mem 888 (by decide +kernel) (by decide +kernel), by decide +kernel, by decide⟩
theorem ml_J1_88 : Cond.methodLink RJ1 88 yJ1_canEncode_9a6ad ∈ bz_tbl := bz_mem 889 (by decide +kernel) (by decide +kernel)
theorem ss_J1_canEncode_9a6ad : Cond.static yJ1_canEncode_9a6ad ∈ bz_tbl := bz_mem 890 (by decide +kernel) (by decide +kernel)
theorem ml_J1_92 : Cond.methodLink RJ1 92 Lib.Math.max.name ∈ bz_tbl := bz_mem 892 (by decide +kernel) (by decide +kernel)
theorem ml_J1_38 : Cond.methodLink RJ1 38 Lib.Math.min.name ∈ bz_tbl := bz_mem 893 (by decide +kernel) (by decide +kernel)
theorem ml_J1_95 : Cond.methodLink RJ1 95 yJ1_indexOfChar_4cfef ∈ bz_tbl := bz_mem 894 (by decide +kernel) (by decide +kernel)
theorem ss_J1_indexOfChar_4cfef : Cond.static yJ1_indexOfChar_4cfef ∈ bz_tbl := bz_mem 895 (by decide +kernel) (by decide +kernel)
abbrev kJ0_indexOf_7cf53 : bz_M := (yJ0_indexOf_7cf53, cJ0_indexOf_7cf53, 3, (some .int))
theorem sc_J0_indexOf_7cf53 : bz_SC kJ0_indexOf_7cf53 2 := ⟨bz_mem 99 (by decide +kernel) (by decide +kernel), bz_mem 871 (by decide +kernel) (by decide +kernel), by decide +kernel, by decide⟩
theorem ml_J0_492 : Cond.methodLink RJ0 492 yJ0_isLatin1_aae02 ∈ bz_tbl := bz_mem 872 (by decide +kernel) (by decide +kernel)
theorem im_J0_isLatin1_aae02 : Cond.instanceMethod yJ0_isLatin1_aae02 ∈ bz_tbl := bz_mem 873 (by decide +kernel) (by decide +kernel)
theorem se_J0_isLatin1_aae02 : Cond.selects RJ0 yJ0_isLatin1_aae02 yJ0_isLatin1_aae02 ∈ bz_tbl := bz_mem 874 (by decide +kernel) (by decide +kernel)
theorem ml_J0_505 : Cond.methodLink RJ0 505 yJ0_length_8abf5 ∈ bz_tbl := bz_mem 878 (by decide +kernel) (by decide +kernel)
theorem im_J0_length_8abf5 : Cond.instanceMethod yJ0_length_8abf5 ∈ bz_tbl := bz_mem 879 (by decide +kernel) (by decide +kernel)
theorem se_J0_length_8abf5 : Cond.selects RJ0 yJ0_length_8abf5 yJ0_length_8abf5 ∈ bz_tbl := bz_mem 880 (by decide +kernel) (by decide +kernel)
abbrev kJ2_indexOf_4cfef : bz_M := (yJ2_indexOf_4cfef, cJ2_indexOf_4cfef, 4, (some .int))
theorem sc_J2_indexOf_4cfef : bz_SC kJ2_indexOf_4cfef 4 := ⟨bz_mem 101 (by decide +kernel) (by decide +kernel), bz_mem 899 (by decide +kernel) (by decide +kernel), by decide +kernel, by decide⟩
theorem ml_J0_640 : Cond.methodLink RJ0 640 yJ2_indexOf_4cfef ∈ bz_tbl := bz_mem 897 (by decide +kernel) (by decide +kernel)
theorem ss_J2_indexOf_4cfef : Cond.static yJ2_indexOf_4cfef ∈ bz_tbl := bz_mem 898 (by decide +kernel) (by decide +kernel)
theorem ml_J0_637 : Cond.methodLink RJ0 637 yJ1_indexOf_4cfef ∈ bz_tbl := bz_mem 886 (by decide +kernel) (by decide +kernel)
theorem ss_J1_indexOf_4cfef : Cond.static yJ1_indexOf_4cfef ∈ bz_tbl := bz_mem 887 (by decide +kernel) (by decide +kernel)
theorem ml_J0_633 : Cond.methodLink RJ0 633 yJ0_indexOf_7cf53 ∈ bz_tbl := bz_mem 868 (by decide +kernel) (by decide +kernel)
theorem im_J0_indexOf_7cf53 : Cond.instanceMethod yJ0_indexOf_7cf53 ∈ bz_tbl := bz_mem 869 (by decide +kernel) (by decide +kernel)
theorem se_J0_indexOf_7cf53 : Cond.selects RJ0 yJ0_indexOf_7cf53 yJ0_indexOf_7cf53 ∈ bz_tbl := bz_mem 870 (by decide +kernel) (by decide +kernel)
def w_J0_coder_7d493_0 (G : bz_G) (l : Launch) (d : Nat) (F : Option bz_V → bz_H → Prop)  (h : bz_H) : Prop := ((1 : Int32) = 0 → F (some (.inl 1)) h) ∧ (¬ ((1 : Int32) = 0) → F (some (.inl 0)) h)
set_option maxRecDepth 20000 in
set_option maxHeartbeats 4000000 in
theorem g_J0_coder_7d493_0 {G : bz_G} {κ : bz_K} {l : Launch} {d : Nat} {F : Option bz_V → bz_H → Prop} {bc bs : Nat} (hl : κ.2.1 = l)  (h : bz_H) (hP0 : w_J0_coder_7d493_0 G l d F h) : bz_J G κ kJ0_coder_7d493 (d + 1) F bc bs 0 [some (.inr (some 3))] [] h := by
  subst hl
  unfold w_J0_coder_7d493_0 at hP0
  refine bz_getsC (pc := 0) dJ0_coder_7d493_0 sf_compact ?_
  refine bz_if_eq (tgt := 13) (pc := 3) dJ0_coder_7d493_3 rfl (fun c => ?_) (fun c => ?_)
  · have hP1 := hP0.1 c
    clear hP0
    refine bz_iconst (pc := 13) dJ0_coder_7d493_13 ci_1 ?_
    exact bz_retI (pc := 14) dJ0_coder_7d493_14 rfl (by first | rfl | decide) hP1
  · have hP2 := hP0.2 c
    clear hP0
    refine bz_aload_n (pc := 6) dJ0_coder_7d493_6 rfl rfl ?_
    refine bz_strC (pc := 7) dJ0_coder_7d493_7 sf_coder ?_
    refine bz_goto (tgt := 14) (pc := 10) dJ0_coder_7d493_10 rfl ?_
    exact bz_retI (pc := 14) dJ0_coder_7d493_14 rfl (by first | rfl | decide) hP2
theorem m_J0_coder_7d493 {G : bz_G} {l : Launch} {d mc ms : Nat} {F : Option bz_V → bz_H → Prop}  (h : bz_H) (hP : w_J0_coder_7d493_0 G l d F h) : bz_Call G l (d + 1) kJ0_coder_7d493 [.inr (some 3)] h mc ms F :=
  bz_body (by decide) (Nat.le_of_ble_eq_true rfl) (fun κ hl => g_J0_coder_7d493_0 hl  h hP)
def w_J0_length_8abf5_0 (G : bz_G) (l : Launch) (d : Nat) (F : Option bz_V → bz_H → Prop)  (h : bz_H) : Prop := bz_cI G l d kJ0_coder_7d493 [.inr (some 3)] h 0 0 (fun x_1 h_2 => F (some (.inl (7 >>> (x_1 &&& 31)))) h_2)
set_option maxRecDepth 20000 in
set_option maxHeartbeats 4000000 in
theorem g_J0_length_8abf5_0 {G : bz_G} {κ : bz_K} {l : Launch} {d : Nat} {F : Option bz_V → bz_H → Prop} {bc bs : Nat} (hl : κ.2.1 = l)  (h : bz_H) (hP0 : w_J0_length_8abf5_0 G l d F h) : bz_J G κ kJ0_length_8abf5 (d + 1) F bc bs 0 [some (.inr (some 3))] [] h := by
  subst hl
  unfold w_J0_length_8abf5_0 at hP0
  refine bz_aload_n (pc := 0) dJ0_length_8abf5_0 rfl rfl ?_
  refine bz_strV (pc := 1) dJ0_length_8abf5_1 sf_value ?_
  refine bz_strL (pc := 4) dJ0_length_8abf5_4 ?_
  refine bz_aload_n (pc := 5) dJ0_length_8abf5_5 rfl rfl ?_
  refine bz_kIStr (as := []) (st := [.inl 7]) (n := 0) (mc := 0) (ms := 0) (yc := kJ0_coder_7d493) (bc := bc) (bs := bs) (pc := 6) dJ0_length_8abf5_6 sc_J0_coder_7d493 ml_J0_335 im_J0_coder_7d493 se_J0_coder_7d493 rfl rfl (Nat.le_of_ble_eq_true rfl) hP0 (fun x_1 h_2 hP1 => ?_)
  clear hP0
  refine bz_ishr (pc := 9) dJ0_length_8abf5_9 ?_
  exact bz_retI (pc := 10) dJ0_length_8abf5_10 rfl rfl hP1
theorem m_J0_length_8abf5 {G : bz_G} {l : Launch} {d mc ms : Nat} {F : Option bz_V → bz_H → Prop}  (h : bz_H) (hP : w_J0_length_8abf5_0 G l d F h) : bz_Call G l (d + 1) kJ0_length_8abf5 [.inr (some 3)] h mc ms F :=
  bz_body (by decide) (Nat.le_of_ble_eq_true rfl) (fun κ hl => g_J0_length_8abf5_0 hl  h hP)
def w_J0_isLatin1_aae02_0 (G : bz_G) (l : Launch) (d : Nat) (F : Option bz_V → bz_H → Prop)  (h : bz_H) : Prop := ((1 : Int32) = 0 → F (some (.inl 0)) h) ∧ (¬ ((1 : Int32) = 0) → F (some (.inl (if (0 : Int32) = 0 then 1 else 0))) h)
set_option maxRecDepth 20000 in
set_option maxHeartbeats 4000000 in
theorem g_J0_isLatin1_aae02_0 {G : bz_G} {κ : bz_K} {l : Launch} {d : Nat} {F : Option bz_V → bz_H → Prop} {bc bs : Nat} (hl : κ.2.1 = l)  (h : bz_H) (hP0 : w_J0_isLatin1_aae02_0 G l d F h) : bz_J G κ kJ0_isLatin1_aae02 (d + 1) F bc bs 0 [some (.inr (some 3))] [] h := by
  subst hl
  unfold w_J0_isLatin1_aae02_0 at hP0
  refine bz_getsC (pc := 0) dJ0_isLatin1_aae02_0 sf_compact ?_
  refine bz_if_eq (tgt := 17) (pc := 3) dJ0_isLatin1_aae02_3 rfl (fun c => ?_) (fun c => ?_)
  · have hP1 := hP0.1 c
    clear hP0
    refine bz_iconst (pc := 17) dJ0_isLatin1_aae02_17 ci_0 ?_
    exact bz_retI (pc := 18) dJ0_isLatin1_aae02_18 rfl rfl hP1
  · have hP2 := hP0.2 c
    clear hP0
    refine bz_aload_n (pc := 6) dJ0_isLatin1_aae02_6 rfl rfl ?_
    refine bz_strC (pc := 7) dJ0_isLatin1_aae02_7 sf_coder ?_
    have hJ : bz_J G κ kJ0_isLatin1_aae02 (d + 1) F bc bs 18 [some (.inr (some 3))] [.inl (if (0 : Int32) = 0 then 1 else 0)] h := by
      exact bz_retI (pc := 18) dJ0_isLatin1_aae02_18 rfl (by (repeat' split) <;> rfl) hP2
    refine bz_if_ne (tgt := 17) (pc := 10) dJ0_isLatin1_aae02_10 rfl (fun c => ?_) (fun c => ?_)
    · have e9 : ((if (0 : Int32) = 0 then 1 else 0) : Int32) = (0) := if_neg c
      rw [e9] at hJ
      refine bz_iconst (pc := 17) dJ0_isLatin1_aae02_17 ci_0 ?_
      exact hJ
    · have e9 : ((if (0 : Int32) = 0 then 1 else 0) : Int32) = (1) := if_pos c
      rw [e9] at hJ
      refine bz_iconst (pc := 13) dJ0_isLatin1_aae02_13 ci_1 ?_
      refine bz_goto (tgt := 18) (pc := 14) dJ0_isLatin1_aae02_14 rfl ?_
      exact hJ
theorem m_J0_isLatin1_aae02 {G : bz_G} {l : Launch} {d mc ms : Nat} {F : Option bz_V → bz_H → Prop}  (h : bz_H) (hP : w_J0_isLatin1_aae02_0 G l d F h) : bz_Call G l (d + 1) kJ0_isLatin1_aae02 [.inr (some 3)] h mc ms F :=
  bz_body (by decide) (Nat.le_of_ble_eq_true rfl) (fun κ hl => g_J0_isLatin1_aae02_0 hl  h hP)
def w_J1_canEncode_9a6ad_0 (G : bz_G) (l : Launch) (d : Nat) (F : Option bz_V → bz_H → Prop) (x0 : Int32) (h : bz_H) : Prop := F (some (.inl (if x0 < 0 then 0 else if 255 < x0 then 0 else 1))) h
set_option maxRecDepth 20000 in
set_option maxHeartbeats 4000000 in
theorem g_J1_canEncode_9a6ad_0 {G : bz_G} {κ : bz_K} {l : Launch} {d : Nat} {F : Option bz_V → bz_H → Prop} {bc bs : Nat} (hl : κ.2.1 = l) (x0 : Int32) (h : bz_H) (hP0 : w_J1_canEncode_9a6ad_0 G l d F x0 h) : bz_J G κ kJ1_canEncode_9a6ad (d + 1) F bc bs 0 [some (.inl x0)] [] h := by
  subst hl
  unfold w_J1_canEncode_9a6ad_0 at hP0
  refine bz_iload_n (pc := 0) dJ1_canEncode_9a6ad_0 rfl rfl ?_
  have hJ : bz_J G κ kJ1_canEncode_9a6ad (d + 1) F bc bs 16 [some (.inl x0)] [.inl (if x0 < 0 then 0 else if 255 < x0 then 0 else 1)] h := by
    exact bz_retI (pc := 16) dJ1_canEncode_9a6ad_16 rfl (by (repeat' split) <;> rfl) hP0
  refine bz_if_lt (tgt := 15) (pc := 1) dJ1_canEncode_9a6ad_1 rfl (fun c => ?_) (fun c => ?_)
  · have e9 : ((if x0 < 0 then 0 else if 255 < x0 then 0 else 1) : Int32) = (0) := if_pos c
    rw [e9] at hJ
    refine bz_iconst (pc := 15) dJ1_canEncode_9a6ad_15 ci_0 ?_
    exact hJ
  · have e9 : ((if x0 < 0 then 0 else if 255 < x0 then 0 else 1) : Int32) = (if 255 < x0 then 0 else 1) := if_neg c
    rw [e9] at hJ
    refine bz_iload_n (pc := 4) dJ1_canEncode_9a6ad_4 rfl rfl ?_
    refine bz_sipush (pc := 5) dJ1_canEncode_9a6ad_5 cs_255 ?_
    refine bz_icmp_gt (tgt := 15) (pc := 8) dJ1_canEncode_9a6ad_8 rfl (fun c => ?_) (fun c => ?_)
    · have e9 : ((if 255 < x0 then 0 else 1) : Int32) = (0) := if_pos c
      rw [e9] at hJ
      refine bz_iconst (pc := 15) dJ1_canEncode_9a6ad_15 ci_0 ?_
      exact hJ
    · have e9 : ((if 255 < x0 then 0 else 1) : Int32) = (1) := if_neg c
      rw [e9] at hJ
      refine bz_iconst (pc := 11) dJ1_canEncode_9a6ad_11 ci_1 ?_
      refine bz_goto (tgt := 16) (pc := 12) dJ1_canEncode_9a6ad_12 rfl ?_
      exact hJ
theorem m_J1_canEncode_9a6ad {G : bz_G} {l : Launch} {d mc ms : Nat} {F : Option bz_V → bz_H → Prop} (x0 : Int32) (h : bz_H) (hP : w_J1_canEncode_9a6ad_0 G l d F x0 h) : bz_Call G l (d + 1) kJ1_canEncode_9a6ad [.inl x0] h mc ms F :=
  bz_body (by decide) (Nat.le_of_ble_eq_true rfl) (fun κ hl => g_J1_canEncode_9a6ad_0 hl x0 h hP)
def w_J1_indexOfChar_4cfef_0 (G : bz_G) (κ : bz_K) (l : Launch) (d : Nat) (F : Option bz_V → bz_H → Prop) (bc bs : Nat) (x1 : Int32) (x2 : Int32) (x3 : Int32) (h : bz_H) : Prop := bz_J G κ kJ1_indexOfChar_4cfef (d + 1) F bc bs 7 [some (.inr (some 4)), some (.inl x1), some (.inl x2), some (.inl x3), some (.inl x1.toInt8.toInt32), some (.inl x2)] [] h
set_option maxRecDepth 20000 in
set_option maxHeartbeats 4000000 in
theorem g_J1_indexOfChar_4cfef_0 {G : bz_G} {κ : bz_K} {l : Launch} {d : Nat} {F : Option bz_V → bz_H → Prop} {bc bs : Nat} (hl : κ.2.1 = l) (x1 : Int32) (x2 : Int32) (x3 : Int32) (h : bz_H) (hP0 : w_J1_indexOfChar_4cfef_0 G κ l d F bc bs x1 x2 x3 h) : bz_J G κ kJ1_indexOfChar_4cfef (d + 1) F bc bs 0 [some (.inr (some 4)), some (.inl x1), some (.inl x2), some (.inl x3), none, none] [] h := by
  subst hl
  unfold w_J1_indexOfChar_4cfef_0 at hP0
  refine bz_iload_n (pc := 0) dJ1_indexOfChar_4cfef_0 rfl rfl ?_
  refine bz_i2b (pc := 1) dJ1_indexOfChar_4cfef_1 ?_
  refine bz_s_istore (pc := 2) dJ1_indexOfChar_4cfef_2 (Nat.le_of_ble_eq_true rfl) [some (.inr (some 4)), some (.inl x1), some (.inl x2), some (.inl x3), some (.inl x1.toInt8.toInt32), none] rfl ?_
  refine bz_iload_n (pc := 4) dJ1_indexOfChar_4cfef_4 rfl rfl ?_
  refine bz_s_istore (pc := 5) dJ1_indexOfChar_4cfef_5 (Nat.le_of_ble_eq_true rfl) [some (.inr (some 4)), some (.inl x1), some (.inl x2), some (.inl x3), some (.inl x1.toInt8.toInt32), some (.inl x2)] rfl ?_
  exact hP0
def w_J1_indexOfChar_4cfef_7 (G : bz_G) (κ : bz_K) (l : Launch) (d : Nat) (F : Option bz_V → bz_H → Prop) (bc bs : Nat) (x1 : Int32) (x2 : Int32) (x3 : Int32) (x4 : Int32) (x5 : Int32) (h : bz_H) : Prop := (x3 ≤ x5 → F (some (.inl (-1))) h) ∧ (¬ (x3 ≤ x5) → vp_in x5 7 ∧ ((¬ (([100, 119, 104, 114, 108, 99, 110] : List Int32).getD x5.toNatClampNeg 0) = x4 → bz_J G κ kJ1_indexOfChar_4cfef (d + 1) F bc bs 7 [some (.inr (some 4)), some (.inl x1), some (.inl x2), some (.inl x3), some (.inl x4), some (.inl (x5 + 1))] [] h) ∧ ((([100, 119, 104, 114, 108, 99, 110] : List Int32).getD x5.toNatClampNeg 0) = x4 → F (some (.inl x5)) h)))
set_option maxRecDepth 20000 in
set_option maxHeartbeats 4000000 in
theorem g_J1_indexOfChar_4cfef_7 {G : bz_G} {κ : bz_K} {l : Launch} {d : Nat} {F : Option bz_V → bz_H → Prop} {bc bs : Nat} (hl : κ.2.1 = l) (x1 : Int32) (x2 : Int32) (x3 : Int32) (x4 : Int32) (x5 : Int32) (h : bz_H) (hP0 : w_J1_indexOfChar_4cfef_7 G κ l d F bc bs x1 x2 x3 x4 x5 h) : bz_J G κ kJ1_indexOfChar_4cfef (d + 1) F bc bs 7 [some (.inr (some 4)), some (.inl x1), some (.inl x2), some (.inl x3), some (.inl x4), some (.inl x5)] [] h := by
  subst hl
  unfold w_J1_indexOfChar_4cfef_7 at hP0
  refine bz_iload (pc := 7) dJ1_indexOfChar_4cfef_7 rfl ?_
  refine bz_iload_n (pc := 9) dJ1_indexOfChar_4cfef_9 rfl rfl ?_
  refine bz_icmp_ge (tgt := 31) (pc := 10) dJ1_indexOfChar_4cfef_10 rfl (fun c => ?_) (fun c => ?_)
  · have hP1 := hP0.1 c
    clear hP0
    refine bz_iconst (pc := 31) dJ1_indexOfChar_4cfef_31 ci_m1 ?_
    exact bz_retI (pc := 32) dJ1_indexOfChar_4cfef_32 rfl rfl hP1
  · have hP2 := hP0.2 c
    clear hP0
    refine bz_aload_n (pc := 13) dJ1_indexOfChar_4cfef_13 rfl rfl ?_
    refine bz_iload (pc := 14) dJ1_indexOfChar_4cfef_14 rfl ?_
    obtain ⟨hb, hP3⟩ := hP2
    refine bz_strB (pc := 16) dJ1_indexOfChar_4cfef_16 hb rfl ?_
    refine bz_iload (pc := 17) dJ1_indexOfChar_4cfef_17 rfl ?_
    refine bz_icmp_ne (tgt := 25) (pc := 19) dJ1_indexOfChar_4cfef_19 rfl (fun c => ?_) (fun c => ?_)
    · have hP4 := hP3.1 c
      clear hP3
      refine bz_s_iinc (pc := 25) dJ1_indexOfChar_4cfef_25 (Nat.le_of_ble_eq_true rfl) rfl rfl [some (.inr (some 4)), some (.inl x1), some (.inl x2), some (.inl x3), some (.inl x4), some (.inl (x5 + 1))] rfl ?_
      refine bz_goto (tgt := 7) (pc := 28) dJ1_indexOfChar_4cfef_28 rfl ?_
      exact hP4
    · have hP5 := hP3.2 c
      clear hP3
      refine bz_iload (pc := 22) dJ1_indexOfChar_4cfef_22 rfl ?_
      exact bz_retI (pc := 24) dJ1_indexOfChar_4cfef_24 rfl rfl hP5
theorem m_J1_indexOfChar_4cfef {G : bz_G} {l : Launch} {d mc ms : Nat} {F : Option bz_V → bz_H → Prop} (x1 : Int32) (x2 : Int32) (x3 : Int32) (h : bz_H) (hP : ∀ (κ : bz_K) (bc bs : Nat), κ.2.1 = l → w_J1_indexOfChar_4cfef_0 G κ l d F bc bs x1 x2 x3 h) : bz_Call G l (d + 1) kJ1_indexOfChar_4cfef [.inr (some 4), .inl x1, .inl x2, .inl x3] h mc ms F :=
  bz_body (by decide) (Nat.le_of_ble_eq_true rfl) (fun κ hl => g_J1_indexOfChar_4cfef_0 hl x1 x2 x3 h (hP κ mc ms hl))
def w_J1_indexOf_4cfef_0 (G : bz_G) (l : Launch) (d : Nat) (F : Option bz_V → bz_H → Prop) (x1 : Int32) (x2 : Int32) (x3 : Int32) (h : bz_H) : Prop := bz_cI G l d kJ1_canEncode_9a6ad [.inl x1] h 0 0 (fun x_1 h_2 => (¬ x_1 = 0 → ((if x2 < 0 then 0 else x2 : Int32) < (if 7 < x3 then 7 else x3) → bz_cI G l d kJ1_indexOfChar_4cfef [.inr (some 4), .inl x1, .inl (if x2 < 0 then 0 else x2), .inl (if 7 < x3 then 7 else x3)] h_2 0 0 (fun x_3 h_4 => F (some (.inl x_3)) h_4)) ∧ (¬ ((if x2 < 0 then 0 else x2 : Int32) < (if 7 < x3 then 7 else x3)) → F (some (.inl (-1))) h_2)) ∧ (x_1 = 0 → F (some (.inl (-1))) h_2))
set_option maxRecDepth 20000 in
set_option maxHeartbeats 4000000 in
theorem g_J1_indexOf_4cfef_0 {G : bz_G} {κ : bz_K} {l : Launch} {d : Nat} {F : Option bz_V → bz_H → Prop} {bc bs : Nat} (hl : κ.2.1 = l) (x1 : Int32) (x2 : Int32) (x3 : Int32) (h : bz_H) (hP0 : w_J1_indexOf_4cfef_0 G l d F x1 x2 x3 h) : bz_J G κ kJ1_indexOf_4cfef (d + 1) F bc bs 0 [some (.inr (some 4)), some (.inl x1), some (.inl x2), some (.inl x3)] [] h := by
  subst hl
  unfold w_J1_indexOf_4cfef_0 at hP0
  refine bz_iload_n (pc := 0) dJ1_indexOf_4cfef_0 rfl rfl ?_
  refine bz_kIS (as := [.inl x1]) (st := []) (n := 1) (mc := 0) (ms := 0) (bc := bc) (bs := bs) (yc := kJ1_canEncode_9a6ad) (pc := 1) dJ1_indexOf_4cfef_1 sc_J1_canEncode_9a6ad ml_J1_88 ss_J1_canEncode_9a6ad rfl (Nat.le_of_ble_eq_true rfl) hP0 (fun x_1 h_2 hP1 => ?_)
  clear hP0
  refine bz_if_ne (tgt := 9) (pc := 4) dJ1_indexOf_4cfef_4 rfl (fun c => ?_) (fun c => ?_)
  · have hP2 := hP1.1 c
    clear hP1
    refine bz_iload_n (pc := 9) dJ1_indexOf_4cfef_9 rfl rfl ?_
    refine bz_iconst (pc := 10) dJ1_indexOf_4cfef_10 ci_0 ?_
    refine bz_mmax (pc := 11) dJ1_indexOf_4cfef_11 ml_J1_92 mt_max mt_init mt_code_max (Nat.succ_pos d) (Nat.le_of_ble_eq_true rfl) ?_
    refine bz_s_istore_n (pc := 14) dJ1_indexOf_4cfef_14 rfl (Nat.le_of_ble_eq_true rfl) [some (.inr (some 4)), some (.inl x1), some (.inl (if x2 < 0 then 0 else x2)), some (.inl x3)] rfl ?_
    refine bz_iload_n (pc := 15) dJ1_indexOf_4cfef_15 rfl rfl ?_
    refine bz_aload_n (pc := 16) dJ1_indexOf_4cfef_16 rfl rfl ?_
    refine bz_strL (pc := 17) dJ1_indexOf_4cfef_17 ?_
    refine bz_mmin (pc := 18) dJ1_indexOf_4cfef_18 ml_J1_38 mt_min mt_init mt_code_min (Nat.succ_pos d) (Nat.le_of_ble_eq_true rfl) ?_
    refine bz_s_istore_n (pc := 21) dJ1_indexOf_4cfef_21 rfl (Nat.le_of_ble_eq_true rfl) [some (.inr (some 4)), some (.inl x1), some (.inl (if x2 < 0 then 0 else x2)), some (.inl (if 7 < x3 then 7 else x3))] rfl ?_
    refine bz_iload_n (pc := 22) dJ1_indexOf_4cfef_22 rfl rfl ?_
    refine bz_iload_n (pc := 23) dJ1_indexOf_4cfef_23 rfl rfl ?_
    refine bz_icmp_lt (tgt := 29) (pc := 24) dJ1_indexOf_4cfef_24 rfl (fun c => ?_) (fun c => ?_)
    · have hP3 := hP2.1 c
      clear hP2
      refine bz_aload_n (pc := 29) dJ1_indexOf_4cfef_29 rfl rfl ?_
      refine bz_iload_n (pc := 30) dJ1_indexOf_4cfef_30 rfl rfl ?_
      refine bz_iload_n (pc := 31) dJ1_indexOf_4cfef_31 rfl rfl ?_
      refine bz_iload_n (pc := 32) dJ1_indexOf_4cfef_32 rfl rfl ?_
      refine bz_kIS (as := [.inr (some 4), .inl x1, .inl (if x2 < 0 then 0 else x2), .inl (if 7 < x3 then 7 else x3)]) (st := []) (n := 4) (mc := 0) (ms := 0) (bc := bc) (bs := bs) (yc := kJ1_indexOfChar_4cfef) (pc := 33) dJ1_indexOf_4cfef_33 sc_J1_indexOfChar_4cfef ml_J1_95 ss_J1_indexOfChar_4cfef rfl (Nat.le_of_ble_eq_true rfl) hP3 (fun x_3 h_4 hP4 => ?_)
      clear hP3
      exact bz_retI (pc := 36) dJ1_indexOf_4cfef_36 rfl rfl hP4
    · have hP5 := hP2.2 c
      clear hP2
      refine bz_iconst (pc := 27) dJ1_indexOf_4cfef_27 ci_m1 ?_
      exact bz_retI (pc := 28) dJ1_indexOf_4cfef_28 rfl rfl hP5
  · have hP6 := hP1.2 c
    clear hP1
    refine bz_iconst (pc := 7) dJ1_indexOf_4cfef_7 ci_m1 ?_
    exact bz_retI (pc := 8) dJ1_indexOf_4cfef_8 rfl rfl hP6
theorem m_J1_indexOf_4cfef {G : bz_G} {l : Launch} {d mc ms : Nat} {F : Option bz_V → bz_H → Prop} (x1 : Int32) (x2 : Int32) (x3 : Int32) (h : bz_H) (hP : w_J1_indexOf_4cfef_0 G l d F x1 x2 x3 h) : bz_Call G l (d + 1) kJ1_indexOf_4cfef [.inr (some 4), .inl x1, .inl x2, .inl x3] h mc ms F :=
  bz_body (by decide) (Nat.le_of_ble_eq_true rfl) (fun κ hl => g_J1_indexOf_4cfef_0 hl x1 x2 x3 h hP)
def w_J0_indexOf_7cf53_0 (G : bz_G) (l : Launch) (d : Nat) (F : Option bz_V → bz_H → Prop) (x1 : Int32) (x2 : Int32) (h : bz_H) : Prop := bz_cI G l d kJ0_isLatin1_aae02 [.inr (some 3)] h 0 0 (fun x_1 h_2 => (x_1 = 0 → bz_cI G l d kJ0_length_8abf5 [.inr (some 3)] h_2 0 0 (fun x_3 h_4 => bz_cI G l d kJ2_indexOf_4cfef [.inr (some 4), .inl x1, .inl x2, .inl x_3] h_4 0 0 (fun x_5 h_6 => F (some (.inl x_5)) h_6))) ∧ (¬ (x_1 = 0) → bz_cI G l d kJ0_length_8abf5 [.inr (some 3)] h_2 0 0 (fun x_7 h_8 => bz_cI G l d kJ1_indexOf_4cfef [.inr (some 4), .inl x1, .inl x2, .inl x_7] h_8 0 0 (fun x_9 h_10 => F (some (.inl x_9)) h_10))))
set_option maxRecDepth 20000 in
set_option maxHeartbeats 4000000 in
theorem g_J0_indexOf_7cf53_0 {G : bz_G} {κ : bz_K} {l : Launch} {d : Nat} {F : Option bz_V → bz_H → Prop} {bc bs : Nat} (hl : κ.2.1 = l) (x1 : Int32) (x2 : Int32) (h : bz_H) (hP0 : w_J0_indexOf_7cf53_0 G l d F x1 x2 h) : bz_J G κ kJ0_indexOf_7cf53 (d + 1) F bc bs 0 [some (.inr (some 3)), some (.inl x1), some (.inl x2)] [] h := by
  subst hl
  unfold w_J0_indexOf_7cf53_0 at hP0
  refine bz_aload_n (pc := 0) dJ0_indexOf_7cf53_0 rfl rfl ?_
  refine bz_kIStr (as := []) (st := []) (n := 0) (mc := 0) (ms := 0) (yc := kJ0_isLatin1_aae02) (bc := bc) (bs := bs) (pc := 1) dJ0_indexOf_7cf53_1 sc_J0_isLatin1_aae02 ml_J0_492 im_J0_isLatin1_aae02 se_J0_isLatin1_aae02 rfl rfl (Nat.le_of_ble_eq_true rfl) hP0 (fun x_1 h_2 hP1 => ?_)
  clear hP0
  refine bz_if_eq (tgt := 23) (pc := 4) dJ0_indexOf_7cf53_4 rfl (fun c => ?_) (fun c => ?_)
  · have hP2 := hP1.1 c
    clear hP1
    refine bz_aload_n (pc := 23) dJ0_indexOf_7cf53_23 rfl rfl ?_
    refine bz_strV (pc := 24) dJ0_indexOf_7cf53_24 sf_value ?_
    refine bz_iload_n (pc := 27) dJ0_indexOf_7cf53_27 rfl rfl ?_
    refine bz_iload_n (pc := 28) dJ0_indexOf_7cf53_28 rfl rfl ?_
    refine bz_aload_n (pc := 29) dJ0_indexOf_7cf53_29 rfl rfl ?_
    refine bz_kIStr (as := []) (st := [.inl x2, .inl x1, .inr (some 4)]) (n := 0) (mc := 0) (ms := 0) (yc := kJ0_length_8abf5) (bc := bc) (bs := bs) (pc := 30) dJ0_indexOf_7cf53_30 sc_J0_length_8abf5 ml_J0_505 im_J0_length_8abf5 se_J0_length_8abf5 rfl rfl (Nat.le_of_ble_eq_true rfl) hP2 (fun x_3 h_4 hP3 => ?_)
    clear hP2
    refine bz_kIS (as := [.inr (some 4), .inl x1, .inl x2, .inl x_3]) (st := []) (n := 4) (mc := 0) (ms := 0) (bc := bc) (bs := bs) (yc := kJ2_indexOf_4cfef) (pc := 33) dJ0_indexOf_7cf53_33 sc_J2_indexOf_4cfef ml_J0_640 ss_J2_indexOf_4cfef rfl (Nat.le_of_ble_eq_true rfl) hP3 (fun x_5 h_6 hP4 => ?_)
    clear hP3
    exact bz_retI (pc := 36) dJ0_indexOf_7cf53_36 rfl rfl hP4
  · have hP5 := hP1.2 c
    clear hP1
    refine bz_aload_n (pc := 7) dJ0_indexOf_7cf53_7 rfl rfl ?_
    refine bz_strV (pc := 8) dJ0_indexOf_7cf53_8 sf_value ?_
    refine bz_iload_n (pc := 11) dJ0_indexOf_7cf53_11 rfl rfl ?_
    refine bz_iload_n (pc := 12) dJ0_indexOf_7cf53_12 rfl rfl ?_
    refine bz_aload_n (pc := 13) dJ0_indexOf_7cf53_13 rfl rfl ?_
    refine bz_kIStr (as := []) (st := [.inl x2, .inl x1, .inr (some 4)]) (n := 0) (mc := 0) (ms := 0) (yc := kJ0_length_8abf5) (bc := bc) (bs := bs) (pc := 14) dJ0_indexOf_7cf53_14 sc_J0_length_8abf5 ml_J0_505 im_J0_length_8abf5 se_J0_length_8abf5 rfl rfl (Nat.le_of_ble_eq_true rfl) hP5 (fun x_7 h_8 hP6 => ?_)
    clear hP5
    refine bz_kIS (as := [.inr (some 4), .inl x1, .inl x2, .inl x_7]) (st := []) (n := 4) (mc := 0) (ms := 0) (bc := bc) (bs := bs) (yc := kJ1_indexOf_4cfef) (pc := 17) dJ0_indexOf_7cf53_17 sc_J1_indexOf_4cfef ml_J0_637 ss_J1_indexOf_4cfef rfl (Nat.le_of_ble_eq_true rfl) hP6 (fun x_9 h_10 hP7 => ?_)
    clear hP6
    refine bz_goto (tgt := 36) (pc := 20) dJ0_indexOf_7cf53_20 rfl ?_
    exact bz_retI (pc := 36) dJ0_indexOf_7cf53_36 rfl rfl hP7
theorem m_J0_indexOf_7cf53 {G : bz_G} {l : Launch} {d mc ms : Nat} {F : Option bz_V → bz_H → Prop} (x1 : Int32) (x2 : Int32) (h : bz_H) (hP : w_J0_indexOf_7cf53_0 G l d F x1 x2 h) : bz_Call G l (d + 1) kJ0_indexOf_7cf53 [.inr (some 3), .inl x1, .inl x2] h mc ms F :=
  bz_body (by decide) (Nat.le_of_ble_eq_true rfl) (fun κ hl => g_J0_indexOf_7cf53_0 hl x1 x2 h hP)
def w_J0_indexOf_0f7a4_0 (G : bz_G) (l : Launch) (d : Nat) (F : Option bz_V → bz_H → Prop) (x1 : Int32) (h : bz_H) : Prop := bz_cI G l d kJ0_indexOf_7cf53 [.inr (some 3), .inl x1, .inl 0] h 0 0 (fun x_1 h_2 => F (some (.inl x_1)) h_2)
set_option maxRecDepth 20000 in
set_option maxHeartbeats 4000000 in
theorem g_J0_indexOf_0f7a4_0 {G : bz_G} {κ : bz_K} {l : Launch} {d : Nat} {F : Option bz_V → bz_H → Prop} {bc bs : Nat} (hl : κ.2.1 = l) (x1 : Int32) (h : bz_H) (hP0 : w_J0_indexOf_0f7a4_0 G l d F x1 h) : bz_J G κ kJ0_indexOf_0f7a4 (d + 1) F bc bs 0 [some (.inr (some 3)), some (.inl x1)] [] h := by
  subst hl
  unfold w_J0_indexOf_0f7a4_0 at hP0
  refine bz_aload_n (pc := 0) dJ0_indexOf_0f7a4_0 rfl rfl ?_
  refine bz_iload_n (pc := 1) dJ0_indexOf_0f7a4_1 rfl rfl ?_
  refine bz_iconst (pc := 2) dJ0_indexOf_0f7a4_2 ci_0 ?_
  refine bz_kIStr (as := [.inl x1, .inl 0]) (st := []) (n := 2) (mc := 0) (ms := 0) (yc := kJ0_indexOf_7cf53) (bc := bc) (bs := bs) (pc := 3) dJ0_indexOf_0f7a4_3 sc_J0_indexOf_7cf53 ml_J0_633 im_J0_indexOf_7cf53 se_J0_indexOf_7cf53 rfl rfl (Nat.le_of_ble_eq_true rfl) hP0 (fun x_1 h_2 hP1 => ?_)
  clear hP0
  exact bz_retI (pc := 6) dJ0_indexOf_0f7a4_6 rfl rfl hP1
theorem m_J0_indexOf_0f7a4 {G : bz_G} {l : Launch} {d mc ms : Nat} {F : Option bz_V → bz_H → Prop} (x1 : Int32) (h : bz_H) (hP : w_J0_indexOf_0f7a4_0 G l d F x1 h) : bz_Call G l (d + 1) kJ0_indexOf_0f7a4 [.inr (some 3), .inl x1] h mc ms F :=
  bz_body (by decide) (Nat.le_of_ble_eq_true rfl) (fun κ hl => g_J0_indexOf_0f7a4_0 hl x1 h hP)
