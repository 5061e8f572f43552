def w_X9_setOut_0 (G : bz_G) (l : Launch) (d : Nat) (F : Option bz_V → bz_H → Prop) (a0 : Nat) (x1 : Int32) (x2 : Int32) (x3 : Int32) (h : bz_H) : Prop := bz_wI h a0 9 3 x1 (fun h_1 => bz_wI h_1 a0 9 4 x2 (fun h_2 => bz_wI h_2 a0 9 6 x3 (fun h_3 => bz_b 0 (bz_wI h_3 a0 9 5 0 (fun h_4 => F none h_4)))))
set_option maxRecDepth 20000 in
set_option maxHeartbeats 4000000 in
theorem g_X9_setOut_0 {G : bz_G} {κ : bz_K} {l : Launch} {d : Nat} {F : Option bz_V → bz_H → Prop} {bc bs : Nat} (hl : κ.2.1 = l) (a0 : Nat) (x1 : Int32) (x2 : Int32) (x3 : Int32) (h : bz_H) (hP0 : w_X9_setOut_0 G l d F a0 x1 x2 x3 h) : bz_J G κ kX9_setOut (d + 1) F bc bs 0 [some (.inr (some a0)), some (.inl x1), some (.inl x2), some (.inl x3)] [] h := by
  subst hl
  unfold w_X9_setOut_0 at hP0
  refine bz_aload_n (pc := 0) dX9_setOut_0 rfl rfl ?_
  refine bz_iload_n (pc := 1) dX9_setOut_1 rfl rfl ?_
  refine bz_rw_wI (pc := 2) dX9_setOut_2 fl_X9_22 (fun q h9 => by cases h9; rfl) rfl hP0 (fun h_1 hP1 => ?_)
  clear hP0
  refine bz_aload_n (pc := 5) dX9_setOut_5 rfl rfl ?_
  refine bz_iload_n (pc := 6) dX9_setOut_6 rfl rfl ?_
  refine bz_rw_wI (pc := 7) dX9_setOut_7 fl_X9_26 (fun q h9 => by cases h9; rfl) rfl hP1 (fun h_2 hP2 => ?_)
  clear hP1
  refine bz_aload_n (pc := 10) dX9_setOut_10 rfl rfl ?_
  refine bz_iload_n (pc := 11) dX9_setOut_11 rfl rfl ?_
  refine bz_rw_wI (pc := 12) dX9_setOut_12 fl_X9_29 (fun q h9 => by cases h9; rfl) rfl hP2 (fun h_3 hP3 => ?_)
  clear hP2
  refine bz_aload_n (pc := 15) dX9_setOut_15 rfl rfl ?_
  refine bz_iconst (pc := 16) dX9_setOut_16 ci_0 ?_
  refine bz_rw_wZ (pc := 17) dX9_setOut_17 fl_X9_32 (fun q h9 => by cases h9; rfl) rfl hP3 (fun h_4 hP4 => ?_)
  clear hP3
  exact bz_retV (pc := 20) dX9_setOut_20 rfl hP4
theorem m_X9_setOut {G : bz_G} {l : Launch} {d mc ms : Nat} {F : Option bz_V → bz_H → Prop} (a0 : Nat) (x1 : Int32) (x2 : Int32) (x3 : Int32) (h : bz_H) (hP : w_X9_setOut_0 G l d F a0 x1 x2 x3 h) : bz_Call G l (d + 1) kX9_setOut [.inr (some a0), .inl x1, .inl x2, .inl x3] h mc ms F :=
  bz_body (by decide) (Nat.le_of_ble_eq_true rfl) (fun κ hl => g_X9_setOut_0 hl a0 x1 x2 x3 h hP)
def w_X9_takeTried_0 (G : bz_G) (l : Launch) (d : Nat) (F : Option bz_V → bz_H → Prop) (a0 : Nat) (x1 : Int32) (x2 : Int32) (x3 : Int32) (x4 : Int32) (h : bz_H) : Prop := bz_b 1 (bz_wI h a0 9 5 1 (fun h_1 => bz_wI h_1 a0 9 9 x1 (fun h_2 => bz_wI h_2 a0 9 7 x2 (fun h_3 => bz_wI h_3 a0 9 10 x3 (fun h_4 => bz_wI h_4 a0 9 8 x4 (fun h_5 => bz_rR h_5 a0 9 2 (fun r_6 => bz_rR h_5 a0 9 1 (fun r_7 => bz_nn r_7 (fun a_8 => bz_nn r_6 (fun a_9 => bz_cp h_5 a_9 0 a_8 0 4 (fun h_10 => F none h_10)))))))))))
set_option maxRecDepth 20000 in
set_option maxHeartbeats 4000000 in
theorem g_X9_takeTried_0 {G : bz_G} {κ : bz_K} {l : Launch} {d : Nat} {F : Option bz_V → bz_H → Prop} {bc bs : Nat} (hl : κ.2.1 = l) (a0 : Nat) (x1 : Int32) (x2 : Int32) (x3 : Int32) (x4 : Int32) (h : bz_H) (hP0 : w_X9_takeTried_0 G l d F a0 x1 x2 x3 x4 h) : bz_J G κ kX9_takeTried (d + 1) F bc bs 0 [some (.inr (some a0)), some (.inl x1), some (.inl x2), some (.inl x3), some (.inl x4)] [] h := by
  subst hl
  unfold w_X9_takeTried_0 at hP0
  refine bz_aload_n (pc := 0) dX9_takeTried_0 rfl rfl ?_
  refine bz_iconst (pc := 1) dX9_takeTried_1 ci_1 ?_
  refine bz_rw_wZ (pc := 2) dX9_takeTried_2 fl_X9_32 (fun q h9 => by cases h9; rfl) rfl hP0 (fun h_1 hP1 => ?_)
  clear hP0
  refine bz_aload_n (pc := 5) dX9_takeTried_5 rfl rfl ?_
  refine bz_iload_n (pc := 6) dX9_takeTried_6 rfl rfl ?_
  refine bz_rw_wI (pc := 7) dX9_takeTried_7 fl_X9_66 (fun q h9 => by cases h9; rfl) rfl hP1 (fun h_2 hP2 => ?_)
  clear hP1
  refine bz_aload_n (pc := 10) dX9_takeTried_10 rfl rfl ?_
  refine bz_iload_n (pc := 11) dX9_takeTried_11 rfl rfl ?_
  refine bz_rw_wI (pc := 12) dX9_takeTried_12 fl_X9_60 (fun q h9 => by cases h9; rfl) rfl hP2 (fun h_3 hP3 => ?_)
  clear hP2
  refine bz_aload_n (pc := 15) dX9_takeTried_15 rfl rfl ?_
  refine bz_iload_n (pc := 16) dX9_takeTried_16 rfl rfl ?_
  refine bz_rw_wI (pc := 17) dX9_takeTried_17 fl_X9_57 (fun q h9 => by cases h9; rfl) rfl hP3 (fun h_4 hP4 => ?_)
  clear hP3
  refine bz_aload_n (pc := 20) dX9_takeTried_20 rfl rfl ?_
  refine bz_iload (pc := 21) dX9_takeTried_21 rfl ?_
  refine bz_rw_wI (pc := 23) dX9_takeTried_23 fl_X9_69 (fun q h9 => by cases h9; rfl) rfl hP4 (fun h_5 hP5 => ?_)
  clear hP4
  refine bz_aload_n (pc := 26) dX9_takeTried_26 rfl rfl ?_
  refine bz_rw_rR (pc := 27) dX9_takeTried_27 fl_X9_15 hP5 (fun r_6 hP6 => ?_)
  clear hP5
  refine bz_iconst (pc := 30) dX9_takeTried_30 ci_0 ?_
  refine bz_aload_n (pc := 31) dX9_takeTried_31 rfl rfl ?_
  refine bz_rw_rR (pc := 32) dX9_takeTried_32 fl_X9_9 hP6 (fun r_7 hP7 => ?_)
  clear hP6
  refine bz_iconst (pc := 35) dX9_takeTried_35 ci_0 ?_
  refine bz_iconst (pc := 36) dX9_takeTried_36 ci_4 ?_
  obtain ⟨a_8, rfl, hP8⟩ := hP7
  obtain ⟨a_9, rfl, hP9⟩ := hP8
  refine bz_rw_cp (pc := 37) dX9_takeTried_37 ml_X9_72 ac_n ac_s ac_i (Nat.le_of_ble_eq_true rfl) hP9 (fun h_10 hP10 => ?_)
  clear hP9
  exact bz_retV (pc := 40) dX9_takeTried_40 rfl hP10
theorem m_X9_takeTried {G : bz_G} {l : Launch} {d mc ms : Nat} {F : Option bz_V → bz_H → Prop} (a0 : Nat) (x1 : Int32) (x2 : Int32) (x3 : Int32) (x4 : Int32) (h : bz_H) (hP : w_X9_takeTried_0 G l d F a0 x1 x2 x3 x4 h) : bz_Call G l (d + 1) kX9_takeTried [.inr (some a0), .inl x1, .inl x2, .inl x3, .inl x4] h mc ms F :=
  bz_body (by decide) (Nat.le_of_ble_eq_true rfl) (fun κ hl => g_X9_takeTried_0 hl a0 x1 x2 x3 x4 h hP)
def w_X10_addOrder_0 (G : bz_G) (l : Launch) (d : Nat) (F : Option bz_V → bz_H → Prop) (a0 : Nat) (x1 : Int32) (x2 : Int32) (x3 : Int32) (x4 : Int32) (h : bz_H) : Prop := bz_rR h a0 10 2 (fun r_1 => bz_rI h a0 10 9 (fun x_2 => bz_nn r_1 (fun a_3 => bz_rQ h a_3 x_2 (fun r_4 => bz_nn r_4 (fun a_5 => bz_wI h a_5 2 0 x1 (fun h_6 => bz_rR h_6 a0 10 1 (fun r_7 => bz_nn r_7 (fun a_10 => bz_rc h_6 a_10 4 (bz_cI G l d kX4_cell [.inr (some a_10), .inl x1, .inl 0] h_6 0 0 (fun x_8 h_9 => bz_wI h_9 a_5 2 1 x_8 (fun h_11 => bz_wI h_11 a_5 2 2 x2 (fun h_12 => bz_rI h_12 a0 10 12 (fun x_13 => bz_wI h_12 a_5 2 3 x_13 (fun h_14 => bz_rI h_14 a0 10 12 (fun x_15 => bz_wI h_14 a_5 2 4 (x_15 + x3) (fun h_16 => bz_wI h_16 a_5 2 5 x4 (fun h_17 => bz_rI h_17 a0 10 12 (fun x_18 => bz_rR h_17 a0 10 1 (fun r_19 => bz_nn r_19 (fun a_22 => bz_rc h_17 a_22 4 (bz_cI G l d kX4_cell [.inr (some a_22), .inl x1, .inl 1] h_17 0 0 (fun x_20 h_21 => bz_wI h_21 a_5 2 6 ((x_18 + x_20) + x4) (fun h_23 => bz_wI h_23 a_5 2 7 0 (fun h_24 => bz_wI h_24 a_5 2 14 0 (fun h_25 => bz_rI h_25 a0 10 9 (fun x_26 => bz_wI h_25 a0 10 9 (x_26 + 1) (fun h_27 => F none h_27)))))))))))))))))))))))))))
set_option maxRecDepth 20000 in
set_option maxHeartbeats 4000000 in
theorem g_X10_addOrder_0 {G : bz_G} {κ : bz_K} {l : Launch} {d : Nat} {F : Option bz_V → bz_H → Prop} {bc bs : Nat} (hl : κ.2.1 = l) (a0 : Nat) (x1 : Int32) (x2 : Int32) (x3 : Int32) (x4 : Int32) (h : bz_H) (hP0 : w_X10_addOrder_0 G l d F a0 x1 x2 x3 x4 h) : bz_J G κ kX10_addOrder (d + 1) F bc bs 0 [some (.inr (some a0)), some (.inl x1), some (.inl x2), some (.inl x3), some (.inl x4), none] [] h := by
  subst hl
  unfold w_X10_addOrder_0 at hP0
  refine bz_aload_n (pc := 0) dX10_addOrder_0 rfl rfl ?_
  refine bz_rw_rR (pc := 1) dX10_addOrder_1 fl_X10_29 hP0 (fun r_1 hP1 => ?_)
  clear hP0
  refine bz_aload_n (pc := 4) dX10_addOrder_4 rfl rfl ?_
  refine bz_rw_rI (pc := 5) dX10_addOrder_5 fl_X10_73 hP1 (fun x_2 hP2 => ?_)
  clear hP1
  obtain ⟨a_3, rfl, hP3⟩ := hP2
  refine bz_rw_ldq (pc := 8) dX10_addOrder_8 hP3 (fun r_4 hP4 => ?_)
  clear hP3
  refine bz_s_astore (pc := 9) dX10_addOrder_9 (Nat.le_of_ble_eq_true rfl) [some (.inr (some a0)), some (.inl x1), some (.inl x2), some (.inl x3), some (.inl x4), some (.inr r_4)] rfl ?_
  refine bz_aload (pc := 11) dX10_addOrder_11 rfl ?_
  refine bz_iload_n (pc := 13) dX10_addOrder_13 rfl rfl ?_
  obtain ⟨a_5, rfl, hP5⟩ := hP4
  refine bz_rw_wI (pc := 14) dX10_addOrder_14 fl_X10_86 (fun q h9 => by cases h9; rfl) rfl hP5 (fun h_6 hP6 => ?_)
  clear hP5
  refine bz_aload (pc := 17) dX10_addOrder_17 rfl ?_
  refine bz_aload_n (pc := 19) dX10_addOrder_19 rfl rfl ?_
  refine bz_rw_rR (pc := 20) dX10_addOrder_20 fl_X10_23 hP6 (fun r_7 hP7 => ?_)
  clear hP6
  refine bz_iload_n (pc := 23) dX10_addOrder_23 rfl rfl ?_
  refine bz_iconst (pc := 24) dX10_addOrder_24 ci_0 ?_
  obtain ⟨a_10, rfl, hP8⟩ := hP7
  refine bz_kIV (as := [.inl x1, .inl 0]) (st := [.inr (some a_5)]) (ci := 4) (n := 2) (mc := 0) (ms := 0) (bc := bc) (bs := bs) (yc := kX4_cell) (q := (RX4, TX4, 2)) (b := a_10) (pc := 25) dX10_addOrder_25 sc_X4_cell ml_X10_89 im_X4_cell se_X4_cell rfl rfl rfl (Nat.le_of_ble_eq_true rfl) hP8 (fun x_8 h_9 hP9 => ?_)
  clear hP8
  refine bz_rw_wI (pc := 28) dX10_addOrder_28 fl_X10_93 (fun q h9 => by cases h9; rfl) rfl hP9 (fun h_11 hP10 => ?_)
  clear hP9
  refine bz_aload (pc := 31) dX10_addOrder_31 rfl ?_
  refine bz_iload_n (pc := 33) dX10_addOrder_33 rfl rfl ?_
  refine bz_rw_wI (pc := 34) dX10_addOrder_34 fl_X10_96 (fun q h9 => by cases h9; rfl) rfl hP10 (fun h_12 hP11 => ?_)
  clear hP10
  refine bz_aload (pc := 37) dX10_addOrder_37 rfl ?_
  refine bz_aload_n (pc := 39) dX10_addOrder_39 rfl rfl ?_
  refine bz_rw_rI (pc := 40) dX10_addOrder_40 fl_X10_99 hP11 (fun x_13 hP12 => ?_)
  clear hP11
  refine bz_rw_wI (pc := 43) dX10_addOrder_43 fl_X10_102 (fun q h9 => by cases h9; rfl) rfl hP12 (fun h_14 hP13 => ?_)
  clear hP12
  refine bz_aload (pc := 46) dX10_addOrder_46 rfl ?_
  refine bz_aload_n (pc := 48) dX10_addOrder_48 rfl rfl ?_
  refine bz_rw_rI (pc := 49) dX10_addOrder_49 fl_X10_99 hP13 (fun x_15 hP14 => ?_)
  clear hP13
  refine bz_iload_n (pc := 52) dX10_addOrder_52 rfl rfl ?_
  refine bz_iadd (pc := 53) dX10_addOrder_53 ?_
  refine bz_rw_wI (pc := 54) dX10_addOrder_54 fl_X10_105 (fun q h9 => by cases h9; rfl) rfl hP14 (fun h_16 hP15 => ?_)
  clear hP14
  refine bz_aload (pc := 57) dX10_addOrder_57 rfl ?_
  refine bz_iload (pc := 59) dX10_addOrder_59 rfl ?_
  refine bz_rw_wI (pc := 61) dX10_addOrder_61 fl_X10_108 (fun q h9 => by cases h9; rfl) rfl hP15 (fun h_17 hP16 => ?_)
  clear hP15
  refine bz_aload (pc := 64) dX10_addOrder_64 rfl ?_
  refine bz_aload_n (pc := 66) dX10_addOrder_66 rfl rfl ?_
  refine bz_rw_rI (pc := 67) dX10_addOrder_67 fl_X10_99 hP16 (fun x_18 hP17 => ?_)
  clear hP16
  refine bz_aload_n (pc := 70) dX10_addOrder_70 rfl rfl ?_
  refine bz_rw_rR (pc := 71) dX10_addOrder_71 fl_X10_23 hP17 (fun r_19 hP18 => ?_)
  clear hP17
  refine bz_iload_n (pc := 74) dX10_addOrder_74 rfl rfl ?_
  refine bz_iconst (pc := 75) dX10_addOrder_75 ci_1 ?_
  obtain ⟨a_22, rfl, hP19⟩ := hP18
  refine bz_kIV (as := [.inl x1, .inl 1]) (st := [.inl x_18, .inr (some a_5)]) (ci := 4) (n := 2) (mc := 0) (ms := 0) (bc := bc) (bs := bs) (yc := kX4_cell) (q := (RX4, TX4, 2)) (b := a_22) (pc := 76) dX10_addOrder_76 sc_X4_cell ml_X10_89 im_X4_cell se_X4_cell rfl rfl rfl (Nat.le_of_ble_eq_true rfl) hP19 (fun x_20 h_21 hP20 => ?_)
  clear hP19
  refine bz_iadd (pc := 79) dX10_addOrder_79 ?_
  refine bz_iload (pc := 80) dX10_addOrder_80 rfl ?_
  refine bz_iadd (pc := 82) dX10_addOrder_82 ?_
  refine bz_rw_wI (pc := 83) dX10_addOrder_83 fl_X10_111 (fun q h9 => by cases h9; rfl) rfl hP20 (fun h_23 hP21 => ?_)
  clear hP20
  refine bz_aload (pc := 86) dX10_addOrder_86 rfl ?_
  refine bz_iconst (pc := 88) dX10_addOrder_88 ci_0 ?_
  refine bz_rw_wI (pc := 89) dX10_addOrder_89 fl_X10_114 (fun q h9 => by cases h9; rfl) rfl hP21 (fun h_24 hP22 => ?_)
  clear hP21
  refine bz_aload (pc := 92) dX10_addOrder_92 rfl ?_
  refine bz_iconst (pc := 94) dX10_addOrder_94 ci_0 ?_
  refine bz_rw_wI (pc := 95) dX10_addOrder_95 fl_X10_117 (fun q h9 => by cases h9; rfl) rfl hP22 (fun h_25 hP23 => ?_)
  clear hP22
  refine bz_aload_n (pc := 98) dX10_addOrder_98 rfl rfl ?_
  refine bz_dup (pc := 99) dX10_addOrder_99 ?_
  refine bz_rw_rI (pc := 100) dX10_addOrder_100 fl_X10_73 hP23 (fun x_26 hP24 => ?_)
  clear hP23
  refine bz_iconst (pc := 103) dX10_addOrder_103 ci_1 ?_
  refine bz_iadd (pc := 104) dX10_addOrder_104 ?_
  refine bz_rw_wI (pc := 105) dX10_addOrder_105 fl_X10_73 (fun q h9 => by cases h9; rfl) rfl hP24 (fun h_27 hP25 => ?_)
  clear hP24
  exact bz_retV (pc := 108) dX10_addOrder_108 rfl hP25
theorem m_X10_addOrder {G : bz_G} {l : Launch} {d mc ms : Nat} {F : Option bz_V → bz_H → Prop} (a0 : Nat) (x1 : Int32) (x2 : Int32) (x3 : Int32) (x4 : Int32) (h : bz_H) (hP : w_X10_addOrder_0 G l d F a0 x1 x2 x3 x4 h) : bz_Call G l (d + 1) kX10_addOrder [.inr (some a0), .inl x1, .inl x2, .inl x3, .inl x4] h mc ms F :=
  bz_body (by decide) (Nat.le_of_ble_eq_true rfl) (fun κ hl => g_X10_addOrder_0 hl a0 x1 x2 x3 x4 h hP)
def w_X10_addRider_0 (G : bz_G) (l : Launch) (d : Nat) (F : Option bz_V → bz_H → Prop) (a0 : Nat) (x1 : Int32) (x2 : Int32) (h : bz_H) : Prop := bz_rR h a0 10 3 (fun r_1 => bz_rI h a0 10 10 (fun x_2 => bz_nn r_1 (fun a_3 => bz_rQ h a_3 x_2 (fun r_4 => bz_rI h a0 10 12 (fun x_5 => bz_nn r_4 (fun a_8 => bz_rc h a_8 3 (bz_cV G l d kX3_comeOn [.inr (some a_8), .inl x1, .inl x2, .inl x_5] h 0 0 (fun h_7 => bz_rI h_7 a0 10 10 (fun x_9 => bz_wI h_7 a0 10 10 (x_9 + 1) (fun h_10 => F none h_10))))))))))
set_option maxRecDepth 20000 in
set_option maxHeartbeats 4000000 in
theorem g_X10_addRider_0 {G : bz_G} {κ : bz_K} {l : Launch} {d : Nat} {F : Option bz_V → bz_H → Prop} {bc bs : Nat} (hl : κ.2.1 = l) (a0 : Nat) (x1 : Int32) (x2 : Int32) (h : bz_H) (hP0 : w_X10_addRider_0 G l d F a0 x1 x2 h) : bz_J G κ kX10_addRider (d + 1) F bc bs 0 [some (.inr (some a0)), some (.inl x1), some (.inl x2)] [] h := by
  subst hl
  unfold w_X10_addRider_0 at hP0
  refine bz_aload_n (pc := 0) dX10_addRider_0 rfl rfl ?_
  refine bz_rw_rR (pc := 1) dX10_addRider_1 fl_X10_35 hP0 (fun r_1 hP1 => ?_)
  clear hP0
  refine bz_aload_n (pc := 4) dX10_addRider_4 rfl rfl ?_
  refine bz_rw_rI (pc := 5) dX10_addRider_5 fl_X10_80 hP1 (fun x_2 hP2 => ?_)
  clear hP1
  obtain ⟨a_3, rfl, hP3⟩ := hP2
  refine bz_rw_ldq (pc := 8) dX10_addRider_8 hP3 (fun r_4 hP4 => ?_)
  clear hP3
  refine bz_iload_n (pc := 9) dX10_addRider_9 rfl rfl ?_
  refine bz_iload_n (pc := 10) dX10_addRider_10 rfl rfl ?_
  refine bz_aload_n (pc := 11) dX10_addRider_11 rfl rfl ?_
  refine bz_rw_rI (pc := 12) dX10_addRider_12 fl_X10_99 hP4 (fun x_5 hP5 => ?_)
  clear hP4
  obtain ⟨a_8, rfl, hP6⟩ := hP5
  refine bz_kVV (as := [.inl x1, .inl x2, .inl x_5]) (st := []) (ci := 3) (n := 3) (mc := 0) (ms := 0) (bc := bc) (bs := bs) (yc := kX3_comeOn) (q := (RX3, TX3, 9)) (b := a_8) (pc := 15) dX10_addRider_15 sc_X3_comeOn ml_X10_120 im_X3_comeOn se_X3_comeOn rfl rfl rfl (Nat.le_of_ble_eq_true rfl) hP6 (fun h_7 hP7 => ?_)
  clear hP6
  refine bz_aload_n (pc := 18) dX10_addRider_18 rfl rfl ?_
  refine bz_dup (pc := 19) dX10_addRider_19 ?_
  refine bz_rw_rI (pc := 20) dX10_addRider_20 fl_X10_80 hP7 (fun x_9 hP8 => ?_)
  clear hP7
  refine bz_iconst (pc := 23) dX10_addRider_23 ci_1 ?_
  refine bz_iadd (pc := 24) dX10_addRider_24 ?_
  refine bz_rw_wI (pc := 25) dX10_addRider_25 fl_X10_80 (fun q h9 => by cases h9; rfl) rfl hP8 (fun h_10 hP9 => ?_)
  clear hP8
  exact bz_retV (pc := 28) dX10_addRider_28 rfl hP9
theorem m_X10_addRider {G : bz_G} {l : Launch} {d mc ms : Nat} {F : Option bz_V → bz_H → Prop} (a0 : Nat) (x1 : Int32) (x2 : Int32) (h : bz_H) (hP : w_X10_addRider_0 G l d F a0 x1 x2 h) : bz_Call G l (d + 1) kX10_addRider [.inr (some a0), .inl x1, .inl x2] h mc ms F :=
  bz_body (by decide) (Nat.le_of_ble_eq_true rfl) (fun κ hl => g_X10_addRider_0 hl a0 x1 x2 h hP)
def w_X10_addText_0 (G : bz_G) (l : Launch) (d : Nat) (F : Option bz_V → bz_H → Prop) (a0 : Nat) (r1 : Option Nat) (h : bz_H) : Prop := bz_rR h a0 10 4 (fun r_1 => bz_rI h a0 10 11 (fun x_2 => bz_nn r_1 (fun a_3 => bz_wQ h a_3 x_2 r1 (fun h_4 => bz_rI h_4 a0 10 11 (fun x_5 => bz_wI h_4 a0 10 11 (x_5 + 1) (fun h_6 => F none h_6))))))
set_option maxRecDepth 20000 in
set_option maxHeartbeats 4000000 in
theorem g_X10_addText_0 {G : bz_G} {κ : bz_K} {l : Launch} {d : Nat} {F : Option bz_V → bz_H → Prop} {bc bs : Nat} (hl : κ.2.1 = l) (a0 : Nat) (r1 : Option Nat) (h : bz_H) (hP0 : w_X10_addText_0 G l d F a0 r1 h) : bz_J G κ kX10_addText (d + 1) F bc bs 0 [some (.inr (some a0)), some (.inr r1)] [] h := by
  subst hl
  unfold w_X10_addText_0 at hP0
  refine bz_aload_n (pc := 0) dX10_addText_0 rfl rfl ?_
  refine bz_rw_rR (pc := 1) dX10_addText_1 fl_X10_41 hP0 (fun r_1 hP1 => ?_)
  clear hP0
  refine bz_aload_n (pc := 4) dX10_addText_4 rfl rfl ?_
  refine bz_rw_rI (pc := 5) dX10_addText_5 fl_X10_83 hP1 (fun x_2 hP2 => ?_)
  clear hP1
  refine bz_aload_n (pc := 8) dX10_addText_8 rfl rfl ?_
  obtain ⟨a_3, rfl, hP3⟩ := hP2
  refine bz_rw_stq (pc := 9) dX10_addText_9 hP3 (fun h_4 hP4 => ?_)
  clear hP3
  refine bz_aload_n (pc := 10) dX10_addText_10 rfl rfl ?_
  refine bz_dup (pc := 11) dX10_addText_11 ?_
  refine bz_rw_rI (pc := 12) dX10_addText_12 fl_X10_83 hP4 (fun x_5 hP5 => ?_)
  clear hP4
  refine bz_iconst (pc := 15) dX10_addText_15 ci_1 ?_
  refine bz_iadd (pc := 16) dX10_addText_16 ?_
  refine bz_rw_wI (pc := 17) dX10_addText_17 fl_X10_83 (fun q h9 => by cases h9; rfl) rfl hP5 (fun h_6 hP6 => ?_)
  clear hP5
  exact bz_retV (pc := 20) dX10_addText_20 rfl hP6
theorem m_X10_addText {G : bz_G} {l : Launch} {d mc ms : Nat} {F : Option bz_V → bz_H → Prop} (a0 : Nat) (r1 : Option Nat) (h : bz_H) (hP : w_X10_addText_0 G l d F a0 r1 h) : bz_Call G l (d + 1) kX10_addText [.inr (some a0), .inr r1] h mc ms F :=
  bz_body (by decide) (Nat.le_of_ble_eq_true rfl) (fun κ hl => g_X10_addText_0 hl a0 r1 h hP)
def w_X10_becomeLike_0 (G : bz_G) (κ : bz_K) (l : Launch) (d : Nat) (F : Option bz_V → bz_H → Prop) (bc bs : Nat) (a0 : Nat) (r1 : Option Nat) (h : bz_H) : Prop := bz_rR h a0 10 0 (fun r_1 => bz_nn r1 (fun a_2 => bz_rR h a_2 10 0 (fun r_3 => bz_nn r_1 (fun a_6 => bz_rc h a_6 8 (bz_cV G l d kX8_becomeLike [.inr (some a_6), .inr r_3] h 0 0 (fun h_5 => bz_rR h_5 a0 10 1 (fun r_7 => bz_rR h_5 a_2 10 1 (fun r_8 => bz_nn r_7 (fun a_11 => bz_rc h_5 a_11 4 (bz_cV G l d kX4_becomeLike [.inr (some a_11), .inr r_8] h_5 0 0 (fun h_10 => bz_J G κ kX10_becomeLike (d + 1) F bc bs 24 [some (.inr (some a0)), some (.inr (some a_2)), some (.inl 0)] [] h_10)))))))))))
set_option maxRecDepth 20000 in
set_option maxHeartbeats 4000000 in
theorem g_X10_becomeLike_0 {G : bz_G} {κ : bz_K} {l : Launch} {d : Nat} {F : Option bz_V → bz_H → Prop} {bc bs : Nat} (hl : κ.2.1 = l) (a0 : Nat) (r1 : Option Nat) (h : bz_H) (hP0 : w_X10_becomeLike_0 G κ l d F bc bs a0 r1 h) : bz_J G κ kX10_becomeLike (d + 1) F bc bs 0 [some (.inr (some a0)), some (.inr r1), none] [] h := by
  subst hl
  unfold w_X10_becomeLike_0 at hP0
  refine bz_aload_n (pc := 0) dX10_becomeLike_0 rfl rfl ?_
  refine bz_rw_rR (pc := 1) dX10_becomeLike_1 fl_X10_12 hP0 (fun r_1 hP1 => ?_)
  clear hP0
  refine bz_aload_n (pc := 4) dX10_becomeLike_4 rfl rfl ?_
  obtain ⟨a_2, rfl, hP2⟩ := hP1
  refine bz_rw_rR (pc := 5) dX10_becomeLike_5 fl_X10_12 hP2 (fun r_3 hP3 => ?_)
  clear hP2
  obtain ⟨a_6, rfl, hP4⟩ := hP3
  refine bz_kVV (as := [.inr r_3]) (st := []) (ci := 8) (n := 1) (mc := 0) (ms := 0) (bc := bc) (bs := bs) (yc := kX8_becomeLike) (q := (RX8, TX8, 4)) (b := a_6) (pc := 8) dX10_becomeLike_8 sc_X8_becomeLike ml_X10_212 im_X8_becomeLike se_X8_becomeLike rfl rfl rfl (Nat.le_of_ble_eq_true rfl) hP4 (fun h_5 hP5 => ?_)
  clear hP4
  refine bz_aload_n (pc := 11) dX10_becomeLike_11 rfl rfl ?_
  refine bz_rw_rR (pc := 12) dX10_becomeLike_12 fl_X10_23 hP5 (fun r_7 hP6 => ?_)
  clear hP5
  refine bz_aload_n (pc := 15) dX10_becomeLike_15 rfl rfl ?_
  refine bz_rw_rR (pc := 16) dX10_becomeLike_16 fl_X10_23 hP6 (fun r_8 hP7 => ?_)
  clear hP6
  obtain ⟨a_11, rfl, hP8⟩ := hP7
  refine bz_kVV (as := [.inr r_8]) (st := []) (ci := 4) (n := 1) (mc := 0) (ms := 0) (bc := bc) (bs := bs) (yc := kX4_becomeLike) (q := (RX4, TX4, 2)) (b := a_11) (pc := 19) dX10_becomeLike_19 sc_X4_becomeLike ml_X10_216 im_X4_becomeLike se_X4_becomeLike rfl rfl rfl (Nat.le_of_ble_eq_true rfl) hP8 (fun h_10 hP9 => ?_)
  clear hP8
  refine bz_iconst (pc := 22) dX10_becomeLike_22 ci_0 ?_
  refine bz_s_istore_n (pc := 23) dX10_becomeLike_23 rfl (Nat.le_of_ble_eq_true rfl) [some (.inr (some a0)), some (.inr (some a_2)), some (.inl 0)] rfl ?_
  exact hP9
def w_X10_becomeLike_24 (G : bz_G) (κ : bz_K) (l : Launch) (d : Nat) (F : Option bz_V → bz_H → Prop) (bc bs : Nat) (a0 : Nat) (r1 : Option Nat) (x2 : Int32) (h : bz_H) : Prop := (24 ≤ x2 → bz_J G κ kX10_becomeLike (d + 1) F bc bs 53 [some (.inr (some a0)), some (.inr r1), some (.inl 0)] [] h) ∧ (¬ (24 ≤ x2) → bz_rR h a0 10 2 (fun r_12 => bz_nn r_12 (fun a_13 => bz_rQ h a_13 x2 (fun r_14 => bz_nn r1 (fun a_15 => bz_rR h a_15 10 2 (fun r_16 => bz_nn r_16 (fun a_17 => bz_rQ h a_17 x2 (fun r_18 => bz_nn r_14 (fun a_21 => bz_rc h a_21 2 (bz_cV G l d kX2_becomeLike [.inr (some a_21), .inr r_18] h 0 0 (fun h_20 => bz_J G κ kX10_becomeLike (d + 1) F bc bs 24 [some (.inr (some a0)), some (.inr (some a_15)), some (.inl (x2 + 1))] [] h_20)))))))))))
set_option maxRecDepth 20000 in
set_option maxHeartbeats 4000000 in
theorem g_X10_becomeLike_24 {G : bz_G} {κ : bz_K} {l : Launch} {d : Nat} {F : Option bz_V → bz_H → Prop} {bc bs : Nat} (hl : κ.2.1 = l) (a0 : Nat) (r1 : Option Nat) (x2 : Int32) (h : bz_H) (hP0 : w_X10_becomeLike_24 G κ l d F bc bs a0 r1 x2 h) : bz_J G κ kX10_becomeLike (d + 1) F bc bs 24 [some (.inr (some a0)), some (.inr r1), some (.inl x2)] [] h := by
  subst hl
  unfold w_X10_becomeLike_24 at hP0
  refine bz_iload_n (pc := 24) dX10_becomeLike_24 rfl rfl ?_
  refine bz_bipush (pc := 25) dX10_becomeLike_25 cb_24 ?_
  refine bz_icmp_ge (tgt := 51) (pc := 27) dX10_becomeLike_27 rfl (fun c => ?_) (fun c => ?_)
  · have hP1 := hP0.1 c
    clear hP0
    refine bz_iconst (pc := 51) dX10_becomeLike_51 ci_0 ?_
    refine bz_s_istore_n (pc := 52) dX10_becomeLike_52 rfl (Nat.le_of_ble_eq_true rfl) [some (.inr (some a0)), some (.inr r1), some (.inl 0)] rfl ?_
    exact hP1
  · have hP2 := hP0.2 c
    clear hP0
    refine bz_aload_n (pc := 30) dX10_becomeLike_30 rfl rfl ?_
    refine bz_rw_rR (pc := 31) dX10_becomeLike_31 fl_X10_29 hP2 (fun r_12 hP3 => ?_)
    clear hP2
    refine bz_iload_n (pc := 34) dX10_becomeLike_34 rfl rfl ?_
    obtain ⟨a_13, rfl, hP4⟩ := hP3
    refine bz_rw_ldq (pc := 35) dX10_becomeLike_35 hP4 (fun r_14 hP5 => ?_)
    clear hP4
    refine bz_aload_n (pc := 36) dX10_becomeLike_36 rfl rfl ?_
    obtain ⟨a_15, rfl, hP6⟩ := hP5
    refine bz_rw_rR (pc := 37) dX10_becomeLike_37 fl_X10_29 hP6 (fun r_16 hP7 => ?_)
    clear hP6
    refine bz_iload_n (pc := 40) dX10_becomeLike_40 rfl rfl ?_
    obtain ⟨a_17, rfl, hP8⟩ := hP7
    refine bz_rw_ldq (pc := 41) dX10_becomeLike_41 hP8 (fun r_18 hP9 => ?_)
    clear hP8
    obtain ⟨a_21, rfl, hP10⟩ := hP9
    refine bz_kVV (as := [.inr r_18]) (st := []) (ci := 2) (n := 1) (mc := 0) (ms := 0) (bc := bc) (bs := bs) (yc := kX2_becomeLike) (q := (RX2, TX2, 15)) (b := a_21) (pc := 42) dX10_becomeLike_42 sc_X2_becomeLike ml_X10_219 im_X2_becomeLike se_X2_becomeLike rfl rfl rfl (Nat.le_of_ble_eq_true rfl) hP10 (fun h_20 hP11 => ?_)
    clear hP10
    refine bz_s_iinc (pc := 45) dX10_becomeLike_45 (Nat.le_of_ble_eq_true rfl) rfl rfl [some (.inr (some a0)), some (.inr (some a_15)), some (.inl (x2 + 1))] rfl ?_
    refine bz_goto (tgt := 24) (pc := 48) dX10_becomeLike_48 rfl ?_
    exact hP11
def w_X10_becomeLike_53 (G : bz_G) (κ : bz_K) (l : Launch) (d : Nat) (F : Option bz_V → bz_H → Prop) (bc bs : Nat) (a0 : Nat) (r1 : Option Nat) (x2 : Int32) (h : bz_H) : Prop := (12 ≤ x2 → bz_J G κ kX10_becomeLike (d + 1) F bc bs 82 [some (.inr (some a0)), some (.inr r1), some (.inl 0)] [] h) ∧ (¬ (12 ≤ x2) → bz_rR h a0 10 3 (fun r_22 => bz_nn r_22 (fun a_23 => bz_rQ h a_23 x2 (fun r_24 => bz_nn r1 (fun a_25 => bz_rR h a_25 10 3 (fun r_26 => bz_nn r_26 (fun a_27 => bz_rQ h a_27 x2 (fun r_28 => bz_nn r_24 (fun a_31 => bz_rc h a_31 3 (bz_cV G l d kX3_becomeLike [.inr (some a_31), .inr r_28] h 0 0 (fun h_30 => bz_J G κ kX10_becomeLike (d + 1) F bc bs 53 [some (.inr (some a0)), some (.inr (some a_25)), some (.inl (x2 + 1))] [] h_30)))))))))))
set_option maxRecDepth 20000 in
set_option maxHeartbeats 4000000 in
theorem g_X10_becomeLike_53 {G : bz_G} {κ : bz_K} {l : Launch} {d : Nat} {F : Option bz_V → bz_H → Prop} {bc bs : Nat} (hl : κ.2.1 = l) (a0 : Nat) (r1 : Option Nat) (x2 : Int32) (h : bz_H) (hP0 : w_X10_becomeLike_53 G κ l d F bc bs a0 r1 x2 h) : bz_J G κ kX10_becomeLike (d + 1) F bc bs 53 [some (.inr (some a0)), some (.inr r1), some (.inl x2)] [] h := by
  subst hl
  unfold w_X10_becomeLike_53 at hP0
  refine bz_iload_n (pc := 53) dX10_becomeLike_53 rfl rfl ?_
  refine bz_bipush (pc := 54) dX10_becomeLike_54 cb_12 ?_
  refine bz_icmp_ge (tgt := 80) (pc := 56) dX10_becomeLike_56 rfl (fun c => ?_) (fun c => ?_)
  · have hP1 := hP0.1 c
    clear hP0
    refine bz_iconst (pc := 80) dX10_becomeLike_80 ci_0 ?_
    refine bz_s_istore_n (pc := 81) dX10_becomeLike_81 rfl (Nat.le_of_ble_eq_true rfl) [some (.inr (some a0)), some (.inr r1), some (.inl 0)] rfl ?_
    exact hP1
  · have hP2 := hP0.2 c
    clear hP0
    refine bz_aload_n (pc := 59) dX10_becomeLike_59 rfl rfl ?_
    refine bz_rw_rR (pc := 60) dX10_becomeLike_60 fl_X10_35 hP2 (fun r_22 hP3 => ?_)
    clear hP2
    refine bz_iload_n (pc := 63) dX10_becomeLike_63 rfl rfl ?_
    obtain ⟨a_23, rfl, hP4⟩ := hP3
    refine bz_rw_ldq (pc := 64) dX10_becomeLike_64 hP4 (fun r_24 hP5 => ?_)
    clear hP4
    refine bz_aload_n (pc := 65) dX10_becomeLike_65 rfl rfl ?_
    obtain ⟨a_25, rfl, hP6⟩ := hP5
    refine bz_rw_rR (pc := 66) dX10_becomeLike_66 fl_X10_35 hP6 (fun r_26 hP7 => ?_)
    clear hP6
    refine bz_iload_n (pc := 69) dX10_becomeLike_69 rfl rfl ?_
    obtain ⟨a_27, rfl, hP8⟩ := hP7
    refine bz_rw_ldq (pc := 70) dX10_becomeLike_70 hP8 (fun r_28 hP9 => ?_)
    clear hP8
    obtain ⟨a_31, rfl, hP10⟩ := hP9
    refine bz_kVV (as := [.inr r_28]) (st := []) (ci := 3) (n := 1) (mc := 0) (ms := 0) (bc := bc) (bs := bs) (yc := kX3_becomeLike) (q := (RX3, TX3, 9)) (b := a_31) (pc := 71) dX10_becomeLike_71 sc_X3_becomeLike ml_X10_222 im_X3_becomeLike se_X3_becomeLike rfl rfl rfl (Nat.le_of_ble_eq_true rfl) hP10 (fun h_30 hP11 => ?_)
    clear hP10
    refine bz_s_iinc (pc := 74) dX10_becomeLike_74 (Nat.le_of_ble_eq_true rfl) rfl rfl [some (.inr (some a0)), some (.inr (some a_25)), some (.inl (x2 + 1))] rfl ?_
    refine bz_goto (tgt := 53) (pc := 77) dX10_becomeLike_77 rfl ?_
    exact hP11
def w_X10_becomeLike_82 (G : bz_G) (κ : bz_K) (l : Launch) (d : Nat) (F : Option bz_V → bz_H → Prop) (bc bs : Nat) (a0 : Nat) (r1 : Option Nat) (x2 : Int32) (h : bz_H) : Prop := (8 ≤ x2 → bz_rR h a0 10 5 (fun r_32 => bz_nn r1 (fun a_33 => bz_rR h a_33 10 5 (fun r_34 => bz_nn r_32 (fun a_37 => bz_rc h a_37 4 (bz_cV G l d kX4_becomeLike [.inr (some a_37), .inr r_34] h 0 0 (fun h_36 => bz_rR h_36 a0 10 6 (fun r_38 => bz_rR h_36 a_33 10 6 (fun r_39 => bz_nn r_38 (fun a_42 => bz_rc h_36 a_42 4 (bz_cV G l d kX4_becomeLike [.inr (some a_42), .inr r_39] h_36 0 0 (fun h_41 => bz_rR h_41 a0 10 7 (fun r_43 => bz_rR h_41 a_33 10 7 (fun r_44 => bz_nn r_43 (fun a_47 => bz_rc h_41 a_47 4 (bz_cV G l d kX4_becomeLike [.inr (some a_47), .inr r_44] h_41 0 0 (fun h_46 => bz_rR h_46 a_33 10 8 (fun r_48 => bz_rR h_46 a0 10 8 (fun r_49 => bz_nn r_49 (fun a_50 => bz_nn r_48 (fun a_51 => bz_cp h_46 a_51 0 a_50 0 10 (fun h_52 => bz_rI h_52 a_33 10 9 (fun x_53 => bz_wI h_52 a0 10 9 x_53 (fun h_54 => bz_rI h_54 a_33 10 10 (fun x_55 => bz_wI h_54 a0 10 10 x_55 (fun h_56 => bz_rI h_56 a_33 10 11 (fun x_57 => bz_wI h_56 a0 10 11 x_57 (fun h_58 => bz_rI h_58 a_33 10 12 (fun x_59 => bz_wI h_58 a0 10 12 x_59 (fun h_60 => bz_rI h_60 a_33 10 13 (fun x_61 => bz_wI h_60 a0 10 13 x_61 (fun h_62 => bz_rI h_62 a_33 10 14 (fun x_63 => bz_wI h_62 a0 10 14 x_63 (fun h_64 => bz_rI h_64 a_33 10 15 (fun x_65 => bz_wI h_64 a0 10 15 x_65 (fun h_66 => F none h_66)))))))))))))))))))))))))))))))))))) ∧ (¬ (8 ≤ x2) → bz_rR h a0 10 4 (fun r_67 => bz_nn r1 (fun a_68 => bz_rR h a_68 10 4 (fun r_69 => bz_nn r_69 (fun a_70 => bz_rQ h a_70 x2 (fun r_71 => bz_nn r_67 (fun a_72 => bz_wQ h a_72 x2 r_71 (fun h_73 => bz_J G κ kX10_becomeLike (d + 1) F bc bs 82 [some (.inr (some a0)), some (.inr (some a_68)), some (.inl (x2 + 1))] [] h_73))))))))
set_option maxRecDepth 20000 in
set_option maxHeartbeats 4000000 in
theorem g_X10_becomeLike_82 {G : bz_G} {κ : bz_K} {l : Launch} {d : Nat} {F : Option bz_V → bz_H → Prop} {bc bs : Nat} (hl : κ.2.1 = l) (a0 : Nat) (r1 : Option Nat) (x2 : Int32) (h : bz_H) (hP0 : w_X10_becomeLike_82 G κ l d F bc bs a0 r1 x2 h) : bz_J G κ kX10_becomeLike (d + 1) F bc bs 82 [some (.inr (some a0)), some (.inr r1), some (.inl x2)] [] h := by
  subst hl
  unfold w_X10_becomeLike_82 at hP0
  refine bz_iload_n (pc := 82) dX10_becomeLike_82 rfl rfl ?_
  refine bz_bipush (pc := 83) dX10_becomeLike_83 cb_8 ?_
  refine bz_icmp_ge (tgt := 106) (pc := 85) dX10_becomeLike_85 rfl (fun c => ?_) (fun c => ?_)
  · have hP1 := hP0.1 c
    clear hP0
    refine bz_aload_n (pc := 106) dX10_becomeLike_106 rfl rfl ?_
    refine bz_rw_rR (pc := 107) dX10_becomeLike_107 fl_X10_45 hP1 (fun r_32 hP2 => ?_)
    clear hP1
    refine bz_aload_n (pc := 110) dX10_becomeLike_110 rfl rfl ?_
    obtain ⟨a_33, rfl, hP3⟩ := hP2
    refine bz_rw_rR (pc := 111) dX10_becomeLike_111 fl_X10_45 hP3 (fun r_34 hP4 => ?_)
    clear hP3
    obtain ⟨a_37, rfl, hP5⟩ := hP4
    refine bz_kVV (as := [.inr r_34]) (st := []) (ci := 4) (n := 1) (mc := 0) (ms := 0) (bc := bc) (bs := bs) (yc := kX4_becomeLike) (q := (RX4, TX4, 2)) (b := a_37) (pc := 114) dX10_becomeLike_114 sc_X4_becomeLike ml_X10_216 im_X4_becomeLike se_X4_becomeLike rfl rfl rfl (Nat.le_of_ble_eq_true rfl) hP5 (fun h_36 hP6 => ?_)
    clear hP5
    refine bz_aload_n (pc := 117) dX10_becomeLike_117 rfl rfl ?_
    refine bz_rw_rR (pc := 118) dX10_becomeLike_118 fl_X10_48 hP6 (fun r_38 hP7 => ?_)
    clear hP6
    refine bz_aload_n (pc := 121) dX10_becomeLike_121 rfl rfl ?_
    refine bz_rw_rR (pc := 122) dX10_becomeLike_122 fl_X10_48 hP7 (fun r_39 hP8 => ?_)
    clear hP7
    obtain ⟨a_42, rfl, hP9⟩ := hP8
    refine bz_kVV (as := [.inr r_39]) (st := []) (ci := 4) (n := 1) (mc := 0) (ms := 0) (bc := bc) (bs := bs) (yc := kX4_becomeLike) (q := (RX4, TX4, 2)) (b := a_42) (pc := 125) dX10_becomeLike_125 sc_X4_becomeLike ml_X10_216 im_X4_becomeLike se_X4_becomeLike rfl rfl rfl (Nat.le_of_ble_eq_true rfl) hP9 (fun h_41 hP10 => ?_)
    clear hP9
    refine bz_aload_n (pc := 128) dX10_becomeLike_128 rfl rfl ?_
    refine bz_rw_rR (pc := 129) dX10_becomeLike_129 fl_X10_51 hP10 (fun r_43 hP11 => ?_)
    clear hP10
    refine bz_aload_n (pc := 132) dX10_becomeLike_132 rfl rfl ?_
    refine bz_rw_rR (pc := 133) dX10_becomeLike_133 fl_X10_51 hP11 (fun r_44 hP12 => ?_)
    clear hP11
    obtain ⟨a_47, rfl, hP13⟩ := hP12
    refine bz_kVV (as := [.inr r_44]) (st := []) (ci := 4) (n := 1) (mc := 0) (ms := 0) (bc := bc) (bs := bs) (yc := kX4_becomeLike) (q := (RX4, TX4, 2)) (b := a_47) (pc := 136) dX10_becomeLike_136 sc_X4_becomeLike ml_X10_216 im_X4_becomeLike se_X4_becomeLike rfl rfl rfl (Nat.le_of_ble_eq_true rfl) hP13 (fun h_46 hP14 => ?_)
    clear hP13
    refine bz_aload_n (pc := 139) dX10_becomeLike_139 rfl rfl ?_
    refine bz_rw_rR (pc := 140) dX10_becomeLike_140 fl_X10_54 hP14 (fun r_48 hP15 => ?_)
    clear hP14
    refine bz_iconst (pc := 143) dX10_becomeLike_143 ci_0 ?_
    refine bz_aload_n (pc := 144) dX10_becomeLike_144 rfl rfl ?_
    refine bz_rw_rR (pc := 145) dX10_becomeLike_145 fl_X10_54 hP15 (fun r_49 hP16 => ?_)
    clear hP15
    refine bz_iconst (pc := 148) dX10_becomeLike_148 ci_0 ?_
    refine bz_bipush (pc := 149) dX10_becomeLike_149 cb_10 ?_
    obtain ⟨a_50, rfl, hP17⟩ := hP16
    obtain ⟨a_51, rfl, hP18⟩ := hP17
    refine bz_rw_cp (pc := 151) dX10_becomeLike_151 ml_X10_225 ac_n ac_s ac_i (Nat.le_of_ble_eq_true rfl) hP18 (fun h_52 hP19 => ?_)
    clear hP18
    refine bz_aload_n (pc := 154) dX10_becomeLike_154 rfl rfl ?_
    refine bz_aload_n (pc := 155) dX10_becomeLike_155 rfl rfl ?_
    refine bz_rw_rI (pc := 156) dX10_becomeLike_156 fl_X10_73 hP19 (fun x_53 hP20 => ?_)
    clear hP19
    refine bz_rw_wI (pc := 159) dX10_becomeLike_159 fl_X10_73 (fun q h9 => by cases h9; rfl) rfl hP20 (fun h_54 hP21 => ?_)
    clear hP20
    refine bz_aload_n (pc := 162) dX10_becomeLike_162 rfl rfl ?_
    refine bz_aload_n (pc := 163) dX10_becomeLike_163 rfl rfl ?_
    refine bz_rw_rI (pc := 164) dX10_becomeLike_164 fl_X10_80 hP21 (fun x_55 hP22 => ?_)
    clear hP21
    refine bz_rw_wI (pc := 167) dX10_becomeLike_167 fl_X10_80 (fun q h9 => by cases h9; rfl) rfl hP22 (fun h_56 hP23 => ?_)
    clear hP22
    refine bz_aload_n (pc := 170) dX10_becomeLike_170 rfl rfl ?_
    refine bz_aload_n (pc := 171) dX10_becomeLike_171 rfl rfl ?_
    refine bz_rw_rI (pc := 172) dX10_becomeLike_172 fl_X10_83 hP23 (fun x_57 hP24 => ?_)
    clear hP23
    refine bz_rw_wI (pc := 175) dX10_becomeLike_175 fl_X10_83 (fun q h9 => by cases h9; rfl) rfl hP24 (fun h_58 hP25 => ?_)
    clear hP24
    refine bz_aload_n (pc := 178) dX10_becomeLike_178 rfl rfl ?_
    refine bz_aload_n (pc := 179) dX10_becomeLike_179 rfl rfl ?_
    refine bz_rw_rI (pc := 180) dX10_becomeLike_180 fl_X10_99 hP25 (fun x_59 hP26 => ?_)
    clear hP25
    refine bz_rw_wI (pc := 183) dX10_becomeLike_183 fl_X10_99 (fun q h9 => by cases h9; rfl) rfl hP26 (fun h_60 hP27 => ?_)
    clear hP26
    refine bz_aload_n (pc := 186) dX10_becomeLike_186 rfl rfl ?_
    refine bz_aload_n (pc := 187) dX10_becomeLike_187 rfl rfl ?_
    refine bz_rw_rI (pc := 188) dX10_becomeLike_188 fl_X10_58 hP27 (fun x_61 hP28 => ?_)
    clear hP27
    refine bz_rw_wI (pc := 191) dX10_becomeLike_191 fl_X10_58 (fun q h9 => by cases h9; rfl) rfl hP28 (fun h_62 hP29 => ?_)
    clear hP28
    refine bz_aload_n (pc := 194) dX10_becomeLike_194 rfl rfl ?_
    refine bz_aload_n (pc := 195) dX10_becomeLike_195 rfl rfl ?_
    refine bz_rw_rI (pc := 196) dX10_becomeLike_196 fl_X10_62 hP29 (fun x_63 hP30 => ?_)
    clear hP29
    refine bz_rw_wI (pc := 199) dX10_becomeLike_199 fl_X10_62 (fun q h9 => by cases h9; rfl) rfl hP30 (fun h_64 hP31 => ?_)
    clear hP30
    refine bz_aload_n (pc := 202) dX10_becomeLike_202 rfl rfl ?_
    refine bz_aload_n (pc := 203) dX10_becomeLike_203 rfl rfl ?_
    refine bz_rw_rI (pc := 204) dX10_becomeLike_204 fl_X10_231 hP31 (fun x_65 hP32 => ?_)
    clear hP31
    refine bz_rw_wI (pc := 207) dX10_becomeLike_207 fl_X10_231 (fun q h9 => by cases h9; rfl) rfl hP32 (fun h_66 hP33 => ?_)
    clear hP32
    exact bz_retV (pc := 210) dX10_becomeLike_210 rfl hP33
  · have hP34 := hP0.2 c
    clear hP0
    refine bz_aload_n (pc := 88) dX10_becomeLike_88 rfl rfl ?_
    refine bz_rw_rR (pc := 89) dX10_becomeLike_89 fl_X10_41 hP34 (fun r_67 hP35 => ?_)
    clear hP34
    refine bz_iload_n (pc := 92) dX10_becomeLike_92 rfl rfl ?_
    refine bz_aload_n (pc := 93) dX10_becomeLike_93 rfl rfl ?_
    obtain ⟨a_68, rfl, hP36⟩ := hP35
    refine bz_rw_rR (pc := 94) dX10_becomeLike_94 fl_X10_41 hP36 (fun r_69 hP37 => ?_)
    clear hP36
    refine bz_iload_n (pc := 97) dX10_becomeLike_97 rfl rfl ?_
    obtain ⟨a_70, rfl, hP38⟩ := hP37
    refine bz_rw_ldq (pc := 98) dX10_becomeLike_98 hP38 (fun r_71 hP39 => ?_)
    clear hP38
    obtain ⟨a_72, rfl, hP40⟩ := hP39
    refine bz_rw_stq (pc := 99) dX10_becomeLike_99 hP40 (fun h_73 hP41 => ?_)
    clear hP40
    refine bz_s_iinc (pc := 100) dX10_becomeLike_100 (Nat.le_of_ble_eq_true rfl) rfl rfl [some (.inr (some a0)), some (.inr (some a_68)), some (.inl (x2 + 1))] rfl ?_
    refine bz_goto (tgt := 82) (pc := 103) dX10_becomeLike_103 rfl ?_
    exact hP41
theorem m_X10_becomeLike {G : bz_G} {l : Launch} {d mc ms : Nat} {F : Option bz_V → bz_H → Prop} (a0 : Nat) (r1 : Option Nat) (h : bz_H) (hP : ∀ (κ : bz_K) (bc bs : Nat), κ.2.1 = l → w_X10_becomeLike_0 G κ l d F bc bs a0 r1 h) : bz_Call G l (d + 1) kX10_becomeLike [.inr (some a0), .inr r1] h mc ms F :=
  bz_body (by decide) (Nat.le_of_ble_eq_true rfl) (fun κ hl => g_X10_becomeLike_0 hl a0 r1 h (hP κ mc ms hl))
def w_X10_countingOf_0 (G : bz_G) (κ : bz_K) (l : Launch) (d : Nat) (F : Option bz_V → bz_H → Prop) (bc bs : Nat) (a0 : Nat) (r1 : Option Nat) (h : bz_H) : Prop := bz_J G κ kX10_countingOf (d + 1) F bc bs 4 [some (.inr (some a0)), some (.inr r1), some (.inl 0), some (.inl 0), none, none] [] h
set_option maxRecDepth 20000 in
set_option maxHeartbeats 4000000 in
theorem g_X10_countingOf_0 {G : bz_G} {κ : bz_K} {l : Launch} {d : Nat} {F : Option bz_V → bz_H → Prop} {bc bs : Nat} (hl : κ.2.1 = l) (a0 : Nat) (r1 : Option Nat) (h : bz_H) (hP0 : w_X10_countingOf_0 G κ l d F bc bs a0 r1 h) : bz_J G κ kX10_countingOf (d + 1) F bc bs 0 [some (.inr (some a0)), some (.inr r1), none, none, none, none] [] h := by
  subst hl
  unfold w_X10_countingOf_0 at hP0
  refine bz_iconst (pc := 0) dX10_countingOf_0 ci_0 ?_
  refine bz_s_istore_n (pc := 1) dX10_countingOf_1 rfl (Nat.le_of_ble_eq_true rfl) [some (.inr (some a0)), some (.inr r1), some (.inl 0), none, none, none] rfl ?_
  refine bz_iconst (pc := 2) dX10_countingOf_2 ci_0 ?_
  refine bz_s_istore_n (pc := 3) dX10_countingOf_3 rfl (Nat.le_of_ble_eq_true rfl) [some (.inr (some a0)), some (.inr r1), some (.inl 0), some (.inl 0), none, none] rfl ?_
  exact hP0
def w_X10_countingOf_4 (G : bz_G) (κ : bz_K) (l : Launch) (d : Nat) (F : Option bz_V → bz_H → Prop) (bc bs : Nat) (a0 : Nat) (r1 : Option Nat) (x2 : Int32) (x3 : Int32) (u4 : Option bz_V) (u5 : Option bz_V) (h : bz_H) : Prop := bz_rR h a0 10 5 (fun r_1 => bz_nn r_1 (fun a_2 => bz_rI h a_2 4 1 (fun x_3 => (x_3 ≤ x3 → bz_nn r1 (fun a_4 => bz_rI h a_4 3 0 (fun x_5 => bz_rc h a0 10 (bz_cI G l d kX10_engagedOf [.inr (some a0), .inl x_5] h 0 0 (fun x_6 h_7 => F (some (.inl ((x_6 - x2) + (x2 / 2)))) h_7))))) ∧ (¬ (x_3 ≤ x3) → bz_rR h a0 10 5 (fun r_8 => bz_nn r_8 (fun a_11 => bz_rc h a_11 4 (bz_cI G l d kX4_cell [.inr (some a_11), .inl x3, .inl 0] h 0 0 (fun x_9 h_10 => bz_nn r1 (fun a_12 => bz_rI h_10 a_12 3 0 (fun x_13 => (x_9 = x_13 → bz_rR h_10 a0 10 5 (fun r_14 => bz_nn r_14 (fun a_17 => bz_rc h_10 a_17 4 (bz_cI G l d kX4_cell [.inr (some a_17), .inl x3, .inl 2] h_10 0 0 (fun x_15 h_16 => bz_rR h_16 a0 10 5 (fun r_18 => bz_nn r_18 (fun a_21 => bz_rc h_16 a_21 4 (bz_cI G l d kX4_cell [.inr (some a_21), .inl x3, .inl 1] h_16 0 0 (fun x_19 h_20 => bz_J G κ kX10_countingOf (d + 1) F bc bs 56 [some (.inr (some a0)), some (.inr (some a_12)), some (.inl x2), some (.inl x3), some (.inl x_15), some (.inl x_19)] [] h_20))))))))) ∧ (¬ (x_9 = x_13) → bz_J G κ kX10_countingOf (d + 1) F bc bs 4 [some (.inr (some a0)), some (.inr (some a_12)), some (.inl x2), some (.inl (x3 + 1)), u4, u5] [] h_10)))))))))))
set_option maxRecDepth 20000 in
set_option maxHeartbeats 4000000 in
theorem g_X10_countingOf_4 {G : bz_G} {κ : bz_K} {l : Launch} {d : Nat} {F : Option bz_V → bz_H → Prop} {bc bs : Nat} (hl : κ.2.1 = l) (a0 : Nat) (r1 : Option Nat) (x2 : Int32) (x3 : Int32) (u4 : Option bz_V) (u5 : Option bz_V) (h : bz_H) (hP0 : w_X10_countingOf_4 G κ l d F bc bs a0 r1 x2 x3 u4 u5 h) : bz_J G κ kX10_countingOf (d + 1) F bc bs 4 [some (.inr (some a0)), some (.inr r1), some (.inl x2), some (.inl x3), u4, u5] [] h := by
  subst hl
  unfold w_X10_countingOf_4 at hP0
  refine bz_iload_n (pc := 4) dX10_countingOf_4 rfl rfl ?_
  refine bz_aload_n (pc := 5) dX10_countingOf_5 rfl rfl ?_
  refine bz_rw_rR (pc := 6) dX10_countingOf_6 fl_X10_45 hP0 (fun r_1 hP1 => ?_)
  clear hP0
  obtain ⟨a_2, rfl, hP2⟩ := hP1
  refine bz_rw_rI (pc := 9) dX10_countingOf_9 fl_X10_164 hP2 (fun x_3 hP3 => ?_)
  clear hP2
  refine bz_icmp_ge (tgt := 87) (pc := 12) dX10_countingOf_12 rfl (fun c => ?_) (fun c => ?_)
  · have hP4 := hP3.1 c
    clear hP3
    refine bz_aload_n (pc := 87) dX10_countingOf_87 rfl rfl ?_
    refine bz_aload_n (pc := 88) dX10_countingOf_88 rfl rfl ?_
    obtain ⟨a_4, rfl, hP5⟩ := hP4
    refine bz_rw_rI (pc := 89) dX10_countingOf_89 fl_X10_192 hP5 (fun x_5 hP6 => ?_)
    clear hP5
    refine bz_kIV (as := [.inl x_5]) (st := []) (ci := 10) (n := 1) (mc := 0) (ms := 0) (bc := bc) (bs := bs) (yc := kX10_engagedOf) (q := (RX10, TX10, 16)) (b := a0) (pc := 92) dX10_countingOf_92 sc_X10_engagedOf ml_X10_198 im_X10_engagedOf se_X10_engagedOf rfl rfl rfl (Nat.le_of_ble_eq_true rfl) hP6 (fun x_6 h_7 hP7 => ?_)
    clear hP6
    refine bz_iload_n (pc := 95) dX10_countingOf_95 rfl rfl ?_
    refine bz_isub (pc := 96) dX10_countingOf_96 ?_
    refine bz_iload_n (pc := 97) dX10_countingOf_97 rfl rfl ?_
    refine bz_iconst (pc := 98) dX10_countingOf_98 ci_2 ?_
    refine bz_idiv (pc := 99) dX10_countingOf_99 (by decide) ?_
    refine bz_iadd (pc := 100) dX10_countingOf_100 ?_
    exact bz_retI (pc := 101) dX10_countingOf_101 rfl rfl hP7
  · have hP8 := hP3.2 c
    clear hP3
    refine bz_aload_n (pc := 15) dX10_countingOf_15 rfl rfl ?_
    refine bz_rw_rR (pc := 16) dX10_countingOf_16 fl_X10_45 hP8 (fun r_8 hP9 => ?_)
    clear hP8
    refine bz_iload_n (pc := 19) dX10_countingOf_19 rfl rfl ?_
    refine bz_iconst (pc := 20) dX10_countingOf_20 ci_0 ?_
    obtain ⟨a_11, rfl, hP10⟩ := hP9
    refine bz_kIV (as := [.inl x3, .inl 0]) (st := []) (ci := 4) (n := 2) (mc := 0) (ms := 0) (bc := bc) (bs := bs) (yc := kX4_cell) (q := (RX4, TX4, 2)) (b := a_11) (pc := 21) dX10_countingOf_21 sc_X4_cell ml_X10_89 im_X4_cell se_X4_cell rfl rfl rfl (Nat.le_of_ble_eq_true rfl) hP10 (fun x_9 h_10 hP11 => ?_)
    clear hP10
    refine bz_aload_n (pc := 24) dX10_countingOf_24 rfl rfl ?_
    obtain ⟨a_12, rfl, hP12⟩ := hP11
    refine bz_rw_rI (pc := 25) dX10_countingOf_25 fl_X10_192 hP12 (fun x_13 hP13 => ?_)
    clear hP12
    refine bz_icmp_eq (tgt := 34) (pc := 28) dX10_countingOf_28 rfl (fun c => ?_) (fun c => ?_)
    · have hP14 := hP13.1 c
      clear hP13
      refine bz_aload_n (pc := 34) dX10_countingOf_34 rfl rfl ?_
      refine bz_rw_rR (pc := 35) dX10_countingOf_35 fl_X10_45 hP14 (fun r_14 hP15 => ?_)
      clear hP14
      refine bz_iload_n (pc := 38) dX10_countingOf_38 rfl rfl ?_
      refine bz_iconst (pc := 39) dX10_countingOf_39 ci_2 ?_
      obtain ⟨a_17, rfl, hP16⟩ := hP15
      refine bz_kIV (as := [.inl x3, .inl 2]) (st := []) (ci := 4) (n := 2) (mc := 0) (ms := 0) (bc := bc) (bs := bs) (yc := kX4_cell) (q := (RX4, TX4, 2)) (b := a_17) (pc := 40) dX10_countingOf_40 sc_X4_cell ml_X10_89 im_X4_cell se_X4_cell rfl rfl rfl (Nat.le_of_ble_eq_true rfl) hP16 (fun x_15 h_16 hP17 => ?_)
      clear hP16
      refine bz_s_istore (pc := 43) dX10_countingOf_43 (Nat.le_of_ble_eq_true rfl) [some (.inr (some a0)), some (.inr (some a_12)), some (.inl x2), some (.inl x3), some (.inl x_15), u5] rfl ?_
      refine bz_aload_n (pc := 45) dX10_countingOf_45 rfl rfl ?_
      refine bz_rw_rR (pc := 46) dX10_countingOf_46 fl_X10_45 hP17 (fun r_18 hP18 => ?_)
      clear hP17
      refine bz_iload_n (pc := 49) dX10_countingOf_49 rfl rfl ?_
      refine bz_iconst (pc := 50) dX10_countingOf_50 ci_1 ?_
      obtain ⟨a_21, rfl, hP19⟩ := hP18
      refine bz_kIV (as := [.inl x3, .inl 1]) (st := []) (ci := 4) (n := 2) (mc := 0) (ms := 0) (bc := bc) (bs := bs) (yc := kX4_cell) (q := (RX4, TX4, 2)) (b := a_21) (pc := 51) dX10_countingOf_51 sc_X4_cell ml_X10_89 im_X4_cell se_X4_cell rfl rfl rfl (Nat.le_of_ble_eq_true rfl) hP19 (fun x_19 h_20 hP20 => ?_)
      clear hP19
      refine bz_s_istore (pc := 54) dX10_countingOf_54 (Nat.le_of_ble_eq_true rfl) [some (.inr (some a0)), some (.inr (some a_12)), some (.inl x2), some (.inl x3), some (.inl x_15), some (.inl x_19)] rfl ?_
      exact hP20
    · have hP21 := hP13.2 c
      clear hP13
      refine bz_goto (tgt := 81) (pc := 31) dX10_countingOf_31 rfl ?_
      refine bz_s_iinc (pc := 81) dX10_countingOf_81 (Nat.le_of_ble_eq_true rfl) rfl rfl [some (.inr (some a0)), some (.inr (some a_12)), some (.inl x2), some (.inl (x3 + 1)), u4, u5] rfl ?_
      refine bz_goto (tgt := 4) (pc := 84) dX10_countingOf_84 rfl ?_
      exact hP21
def w_X10_countingOf_56 (G : bz_G) (κ : bz_K) (l : Launch) (d : Nat) (F : Option bz_V → bz_H → Prop) (bc bs : Nat) (a0 : Nat) (r1 : Option Nat) (x2 : Int32) (x3 : Int32) (x4 : Int32) (x5 : Int32) (h : bz_H) : Prop := (x4 ≤ x5 → bz_J G κ kX10_countingOf (d + 1) F bc bs 4 [some (.inr (some a0)), some (.inr r1), some (.inl x2), some (.inl (x3 + 1)), some (.inl x4), some (.inl x5)] [] h) ∧ (¬ (x4 ≤ x5) → bz_nn r1 (fun a_24 => bz_rc h a_24 3 (bz_cI G l d kX3_isInApp [.inr (some a_24), .inl x5] h 0 0 (fun x_22 h_23 => (x_22 = 0 → bz_J G κ kX10_countingOf (d + 1) F bc bs 56 [some (.inr (some a0)), some (.inr (some a_24)), some (.inl x2), some (.inl x3), some (.inl x4), some (.inl (x5 + 1))] [] h_23) ∧ (¬ (x_22 = 0) → bz_J G κ kX10_countingOf (d + 1) F bc bs 56 [some (.inr (some a0)), some (.inr (some a_24)), some (.inl (x2 + 1)), some (.inl x3), some (.inl x4), some (.inl (x5 + 1))] [] h_23)))))
set_option maxRecDepth 20000 in
set_option maxHeartbeats 4000000 in
theorem g_X10_countingOf_56 {G : bz_G} {κ : bz_K} {l : Launch} {d : Nat} {F : Option bz_V → bz_H → Prop} {bc bs : Nat} (hl : κ.2.1 = l) (a0 : Nat) (r1 : Option Nat) (x2 : Int32) (x3 : Int32) (x4 : Int32) (x5 : Int32) (h : bz_H) (hP0 : w_X10_countingOf_56 G κ l d F bc bs a0 r1 x2 x3 x4 x5 h) : bz_J G κ kX10_countingOf (d + 1) F bc bs 56 [some (.inr (some a0)), some (.inr r1), some (.inl x2), some (.inl x3), some (.inl x4), some (.inl x5)] [] h := by
  subst hl
  unfold w_X10_countingOf_56 at hP0
  refine bz_iload (pc := 56) dX10_countingOf_56 rfl ?_
  refine bz_iload (pc := 58) dX10_countingOf_58 rfl ?_
  refine bz_icmp_ge (tgt := 81) (pc := 60) dX10_countingOf_60 rfl (fun c => ?_) (fun c => ?_)
  · have hP1 := hP0.1 c
    clear hP0
    refine bz_s_iinc (pc := 81) dX10_countingOf_81 (Nat.le_of_ble_eq_true rfl) rfl rfl [some (.inr (some a0)), some (.inr r1), some (.inl x2), some (.inl (x3 + 1)), some (.inl x4), some (.inl x5)] rfl ?_
    refine bz_goto (tgt := 4) (pc := 84) dX10_countingOf_84 rfl ?_
    exact hP1
  · have hP2 := hP0.2 c
    clear hP0
    refine bz_aload_n (pc := 63) dX10_countingOf_63 rfl rfl ?_
    refine bz_iload (pc := 64) dX10_countingOf_64 rfl ?_
    obtain ⟨a_24, rfl, hP3⟩ := hP2
    refine bz_kIV (as := [.inl x5]) (st := []) (ci := 3) (n := 1) (mc := 0) (ms := 0) (bc := bc) (bs := bs) (yc := kX3_isInApp) (q := (RX3, TX3, 9)) (b := a_24) (pc := 66) dX10_countingOf_66 sc_X3_isInApp ml_X10_195 im_X3_isInApp se_X3_isInApp rfl rfl rfl (Nat.le_of_ble_eq_true rfl) hP3 (fun x_22 h_23 hP4 => ?_)
    clear hP3
    refine bz_if_eq (tgt := 75) (pc := 69) dX10_countingOf_69 rfl (fun c => ?_) (fun c => ?_)
    · have hP5 := hP4.1 c
      clear hP4
      refine bz_s_iinc (pc := 75) dX10_countingOf_75 (Nat.le_of_ble_eq_true rfl) rfl rfl [some (.inr (some a0)), some (.inr (some a_24)), some (.inl x2), some (.inl x3), some (.inl x4), some (.inl (x5 + 1))] rfl ?_
      refine bz_goto (tgt := 56) (pc := 78) dX10_countingOf_78 rfl ?_
      exact hP5
    · have hP6 := hP4.2 c
      clear hP4
      refine bz_s_iinc (pc := 72) dX10_countingOf_72 (Nat.le_of_ble_eq_true rfl) rfl rfl [some (.inr (some a0)), some (.inr (some a_24)), some (.inl (x2 + 1)), some (.inl x3), some (.inl x4), some (.inl x5)] rfl ?_
      refine bz_s_iinc (pc := 75) dX10_countingOf_75 (Nat.le_of_ble_eq_true rfl) rfl rfl [some (.inr (some a0)), some (.inr (some a_24)), some (.inl (x2 + 1)), some (.inl x3), some (.inl x4), some (.inl (x5 + 1))] rfl ?_
      refine bz_goto (tgt := 56) (pc := 78) dX10_countingOf_78 rfl ?_
      exact hP6
theorem m_X10_countingOf {G : bz_G} {l : Launch} {d mc ms : Nat} {F : Option bz_V → bz_H → Prop} (a0 : Nat) (r1 : Option Nat) (h : bz_H) (hP : ∀ (κ : bz_K) (bc bs : Nat), κ.2.1 = l → w_X10_countingOf_0 G κ l d F bc bs a0 r1 h) : bz_Call G l (d + 1) kX10_countingOf [.inr (some a0), .inr r1] h mc ms F :=
  bz_body (by decide) (Nat.le_of_ble_eq_true rfl) (fun κ hl => g_X10_countingOf_0 hl a0 r1 h (hP κ mc ms hl))
def w_X10_engage_0 (G : bz_G) (l : Launch) (d : Nat) (F : Option bz_V → bz_H → Prop) (a0 : Nat) (x1 : Int32) (r2 : Option Nat) (x3 : Int32) (h : bz_H) : Prop := bz_rR h a0 10 3 (fun r_1 => bz_nn r_1 (fun a_2 => bz_rQ h a_2 x1 (fun r_3 => bz_rR h a0 10 5 (fun r_4 => bz_nn r2 (fun a_5 => bz_rI h a_5 9 6 (fun x_6 => bz_rI h a_5 9 7 (fun x_7 => bz_nn r_4 (fun a_10 => bz_rc h a_10 4 (bz_cI G l d kX4_add [.inr (some a_10), .inl x1, .inl x_6, .inl x_7] h 0 0 (fun x_8 h_9 => bz_rI h_9 a_5 9 8 (fun x_11 => bz_nn r_3 (fun a_12 => bz_wI h_9 a_12 3 4 x_11 (fun h_13 => bz_rI h_13 a_5 9 7 (fun x_14 => bz_wI h_13 a_12 3 5 x_14 (fun h_15 => bz_rI h_15 a_12 3 6 (fun x_16 => bz_wI h_15 a_12 3 6 (x_16 + x3) (fun h_17 => F none h_17)))))))))))))))))
set_option maxRecDepth 20000 in
set_option maxHeartbeats 4000000 in
theorem g_X10_engage_0 {G : bz_G} {κ : bz_K} {l : Launch} {d : Nat} {F : Option bz_V → bz_H → Prop} {bc bs : Nat} (hl : κ.2.1 = l) (a0 : Nat) (x1 : Int32) (r2 : Option Nat) (x3 : Int32) (h : bz_H) (hP0 : w_X10_engage_0 G l d F a0 x1 r2 x3 h) : bz_J G κ kX10_engage (d + 1) F bc bs 0 [some (.inr (some a0)), some (.inl x1), some (.inr r2), some (.inl x3), none] [] h := by
  subst hl
  unfold w_X10_engage_0 at hP0
  refine bz_aload_n (pc := 0) dX10_engage_0 rfl rfl ?_
  refine bz_rw_rR (pc := 1) dX10_engage_1 fl_X10_35 hP0 (fun r_1 hP1 => ?_)
  clear hP0
  refine bz_iload_n (pc := 4) dX10_engage_4 rfl rfl ?_
  obtain ⟨a_2, rfl, hP2⟩ := hP1
  refine bz_rw_ldq (pc := 5) dX10_engage_5 hP2 (fun r_3 hP3 => ?_)
  clear hP2
  refine bz_s_astore (pc := 6) dX10_engage_6 (Nat.le_of_ble_eq_true rfl) [some (.inr (some a0)), some (.inl x1), some (.inr r2), some (.inl x3), some (.inr r_3)] rfl ?_
  refine bz_aload_n (pc := 8) dX10_engage_8 rfl rfl ?_
  refine bz_rw_rR (pc := 9) dX10_engage_9 fl_X10_45 hP3 (fun r_4 hP4 => ?_)
  clear hP3
  refine bz_iload_n (pc := 12) dX10_engage_12 rfl rfl ?_
  refine bz_aload_n (pc := 13) dX10_engage_13 rfl rfl ?_
  obtain ⟨a_5, rfl, hP5⟩ := hP4
  refine bz_rw_rI (pc := 14) dX10_engage_14 fl_X10_146 hP5 (fun x_6 hP6 => ?_)
  clear hP5
  refine bz_aload_n (pc := 17) dX10_engage_17 rfl rfl ?_
  refine bz_rw_rI (pc := 18) dX10_engage_18 fl_X10_151 hP6 (fun x_7 hP7 => ?_)
  clear hP6
  obtain ⟨a_10, rfl, hP8⟩ := hP7
  refine bz_kIV (as := [.inl x1, .inl x_6, .inl x_7]) (st := []) (ci := 4) (n := 3) (mc := 0) (ms := 0) (bc := bc) (bs := bs) (yc := kX4_add) (q := (RX4, TX4, 2)) (b := a_10) (pc := 21) dX10_engage_21 sc_X4_add ml_X10_154 im_X4_add se_X4_add rfl rfl rfl (Nat.le_of_ble_eq_true rfl) hP8 (fun x_8 h_9 hP9 => ?_)
  clear hP8
  refine bz_pop (pc := 24) dX10_engage_24 ?_
  refine bz_aload (pc := 25) dX10_engage_25 rfl ?_
  refine bz_aload_n (pc := 27) dX10_engage_27 rfl rfl ?_
  refine bz_rw_rI (pc := 28) dX10_engage_28 fl_X10_158 hP9 (fun x_11 hP10 => ?_)
  clear hP9
  obtain ⟨a_12, rfl, hP11⟩ := hP10
  refine bz_rw_wI (pc := 31) dX10_engage_31 fl_X10_127 (fun q h9 => by cases h9; rfl) rfl hP11 (fun h_13 hP12 => ?_)
  clear hP11
  refine bz_aload (pc := 34) dX10_engage_34 rfl ?_
  refine bz_aload_n (pc := 36) dX10_engage_36 rfl rfl ?_
  refine bz_rw_rI (pc := 37) dX10_engage_37 fl_X10_151 hP12 (fun x_14 hP13 => ?_)
  clear hP12
  refine bz_rw_wI (pc := 40) dX10_engage_40 fl_X10_161 (fun q h9 => by cases h9; rfl) rfl hP13 (fun h_15 hP14 => ?_)
  clear hP13
  refine bz_aload (pc := 43) dX10_engage_43 rfl ?_
  refine bz_dup (pc := 45) dX10_engage_45 ?_
  refine bz_rw_rI (pc := 46) dX10_engage_46 fl_X10_136 hP14 (fun x_16 hP15 => ?_)
  clear hP14
  refine bz_iload_n (pc := 49) dX10_engage_49 rfl rfl ?_
  refine bz_iadd (pc := 50) dX10_engage_50 ?_
  refine bz_rw_wI (pc := 51) dX10_engage_51 fl_X10_136 (fun q h9 => by cases h9; rfl) rfl hP15 (fun h_17 hP16 => ?_)
  clear hP15
  exact bz_retV (pc := 54) dX10_engage_54 rfl hP16
theorem m_X10_engage {G : bz_G} {l : Launch} {d mc ms : Nat} {F : Option bz_V → bz_H → Prop} (a0 : Nat) (x1 : Int32) (r2 : Option Nat) (x3 : Int32) (h : bz_H) (hP : w_X10_engage_0 G l d F a0 x1 r2 x3 h) : bz_Call G l (d + 1) kX10_engage [.inr (some a0), .inl x1, .inr r2, .inl x3] h mc ms F :=
  bz_body (by decide) (Nat.le_of_ble_eq_true rfl) (fun κ hl => g_X10_engage_0 hl a0 x1 r2 x3 h hP)
def w_X10_engagedOf_0 (G : bz_G) (κ : bz_K) (l : Launch) (d : Nat) (F : Option bz_V → bz_H → Prop) (bc bs : Nat) (a0 : Nat) (x1 : Int32) (h : bz_H) : Prop := bz_J G κ kX10_engagedOf (d + 1) F bc bs 4 [some (.inr (some a0)), some (.inl x1), some (.inl 0), some (.inl 0)] [] h
set_option maxRecDepth 20000 in
set_option maxHeartbeats 4000000 in
theorem g_X10_engagedOf_0 {G : bz_G} {κ : bz_K} {l : Launch} {d : Nat} {F : Option bz_V → bz_H → Prop} {bc bs : Nat} (hl : κ.2.1 = l) (a0 : Nat) (x1 : Int32) (h : bz_H) (hP0 : w_X10_engagedOf_0 G κ l d F bc bs a0 x1 h) : bz_J G κ kX10_engagedOf (d + 1) F bc bs 0 [some (.inr (some a0)), some (.inl x1), none, none] [] h := by
  subst hl
  unfold w_X10_engagedOf_0 at hP0
  refine bz_iconst (pc := 0) dX10_engagedOf_0 ci_0 ?_
  refine bz_s_istore_n (pc := 1) dX10_engagedOf_1 rfl (Nat.le_of_ble_eq_true rfl) [some (.inr (some a0)), some (.inl x1), some (.inl 0), none] rfl ?_
  refine bz_iconst (pc := 2) dX10_engagedOf_2 ci_0 ?_
  refine bz_s_istore_n (pc := 3) dX10_engagedOf_3 rfl (Nat.le_of_ble_eq_true rfl) [some (.inr (some a0)), some (.inl x1), some (.inl 0), some (.inl 0)] rfl ?_
  exact hP0
def w_X10_engagedOf_4 (G : bz_G) (κ : bz_K) (l : Launch) (d : Nat) (F : Option bz_V → bz_H → Prop) (bc bs : Nat) (a0 : Nat) (x1 : Int32) (x2 : Int32) (x3 : Int32) (h : bz_H) : Prop := bz_rR h a0 10 5 (fun r_1 => bz_nn r_1 (fun a_2 => bz_rI h a_2 4 1 (fun x_3 => (x_3 ≤ x3 → F (some (.inl x2)) h) ∧ (¬ (x_3 ≤ x3) → bz_rR h a0 10 5 (fun r_4 => bz_nn r_4 (fun a_7 => bz_rc h a_7 4 (bz_cI G l d kX4_cell [.inr (some a_7), .inl x3, .inl 0] h 0 0 (fun x_5 h_6 => (¬ x_5 = x1 → bz_J G κ kX10_engagedOf (d + 1) F bc bs 4 [some (.inr (some a0)), some (.inl x1), some (.inl x2), some (.inl (x3 + 1))] [] h_6) ∧ (x_5 = x1 → bz_rR h_6 a0 10 5 (fun r_8 => bz_nn r_8 (fun a_11 => bz_rc h_6 a_11 4 (bz_cI G l d kX4_cell [.inr (some a_11), .inl x3, .inl 2] h_6 0 0 (fun x_9 h_10 => bz_rR h_10 a0 10 5 (fun r_12 => bz_nn r_12 (fun a_15 => bz_rc h_10 a_15 4 (bz_cI G l d kX4_cell [.inr (some a_15), .inl x3, .inl 1] h_10 0 0 (fun x_13 h_14 => bz_J G κ kX10_engagedOf (d + 1) F bc bs 4 [some (.inr (some a0)), some (.inl x1), some (.inl (x2 + (x_9 - x_13))), some (.inl (x3 + 1))] [] h_14)))))))))))))))))
set_option maxRecDepth 20000 in
set_option maxHeartbeats 4000000 in
theorem g_X10_engagedOf_4 {G : bz_G} {κ : bz_K} {l : Launch} {d : Nat} {F : Option bz_V → bz_H → Prop} {bc bs : Nat} (hl : κ.2.1 = l) (a0 : Nat) (x1 : Int32) (x2 : Int32) (x3 : Int32) (h : bz_H) (hP0 : w_X10_engagedOf_4 G κ l d F bc bs a0 x1 x2 x3 h) : bz_J G κ kX10_engagedOf (d + 1) F bc bs 4 [some (.inr (some a0)), some (.inl x1), some (.inl x2), some (.inl x3)] [] h := by
  subst hl
  unfold w_X10_engagedOf_4 at hP0
  refine bz_iload_n (pc := 4) dX10_engagedOf_4 rfl rfl ?_
  refine bz_aload_n (pc := 5) dX10_engagedOf_5 rfl rfl ?_
  refine bz_rw_rR (pc := 6) dX10_engagedOf_6 fl_X10_45 hP0 (fun r_1 hP1 => ?_)
  clear hP0
  obtain ⟨a_2, rfl, hP2⟩ := hP1
  refine bz_rw_rI (pc := 9) dX10_engagedOf_9 fl_X10_164 hP2 (fun x_3 hP3 => ?_)
  clear hP2
  refine bz_icmp_ge (tgt := 56) (pc := 12) dX10_engagedOf_12 rfl (fun c => ?_) (fun c => ?_)
  · have hP4 := hP3.1 c
    clear hP3
    refine bz_iload_n (pc := 56) dX10_engagedOf_56 rfl rfl ?_
    exact bz_retI (pc := 57) dX10_engagedOf_57 rfl rfl hP4
  · have hP5 := hP3.2 c
    clear hP3
    refine bz_aload_n (pc := 15) dX10_engagedOf_15 rfl rfl ?_
    refine bz_rw_rR (pc := 16) dX10_engagedOf_16 fl_X10_45 hP5 (fun r_4 hP6 => ?_)
    clear hP5
    refine bz_iload_n (pc := 19) dX10_engagedOf_19 rfl rfl ?_
    refine bz_iconst (pc := 20) dX10_engagedOf_20 ci_0 ?_
    obtain ⟨a_7, rfl, hP7⟩ := hP6
    refine bz_kIV (as := [.inl x3, .inl 0]) (st := []) (ci := 4) (n := 2) (mc := 0) (ms := 0) (bc := bc) (bs := bs) (yc := kX4_cell) (q := (RX4, TX4, 2)) (b := a_7) (pc := 21) dX10_engagedOf_21 sc_X4_cell ml_X10_89 im_X4_cell se_X4_cell rfl rfl rfl (Nat.le_of_ble_eq_true rfl) hP7 (fun x_5 h_6 hP8 => ?_)
    clear hP7
    refine bz_iload_n (pc := 24) dX10_engagedOf_24 rfl rfl ?_
    refine bz_icmp_ne (tgt := 50) (pc := 25) dX10_engagedOf_25 rfl (fun c => ?_) (fun c => ?_)
    · have hP9 := hP8.1 c
      clear hP8
      refine bz_s_iinc (pc := 50) dX10_engagedOf_50 (Nat.le_of_ble_eq_true rfl) rfl rfl [some (.inr (some a0)), some (.inl x1), some (.inl x2), some (.inl (x3 + 1))] rfl ?_
      refine bz_goto (tgt := 4) (pc := 53) dX10_engagedOf_53 rfl ?_
      exact hP9
    · have hP10 := hP8.2 c
      clear hP8
      refine bz_iload_n (pc := 28) dX10_engagedOf_28 rfl rfl ?_
      refine bz_aload_n (pc := 29) dX10_engagedOf_29 rfl rfl ?_
      refine bz_rw_rR (pc := 30) dX10_engagedOf_30 fl_X10_45 hP10 (fun r_8 hP11 => ?_)
      clear hP10
      refine bz_iload_n (pc := 33) dX10_engagedOf_33 rfl rfl ?_
      refine bz_iconst (pc := 34) dX10_engagedOf_34 ci_2 ?_
      obtain ⟨a_11, rfl, hP12⟩ := hP11
      refine bz_kIV (as := [.inl x3, .inl 2]) (st := [.inl x2]) (ci := 4) (n := 2) (mc := 0) (ms := 0) (bc := bc) (bs := bs) (yc := kX4_cell) (q := (RX4, TX4, 2)) (b := a_11) (pc := 35) dX10_engagedOf_35 sc_X4_cell ml_X10_89 im_X4_cell se_X4_cell rfl rfl rfl (Nat.le_of_ble_eq_true rfl) hP12 (fun x_9 h_10 hP13 => ?_)
      clear hP12
      refine bz_aload_n (pc := 38) dX10_engagedOf_38 rfl rfl ?_
      refine bz_rw_rR (pc := 39) dX10_engagedOf_39 fl_X10_45 hP13 (fun r_12 hP14 => ?_)
      clear hP13
      refine bz_iload_n (pc := 42) dX10_engagedOf_42 rfl rfl ?_
      refine bz_iconst (pc := 43) dX10_engagedOf_43 ci_1 ?_
      obtain ⟨a_15, rfl, hP15⟩ := hP14
      refine bz_kIV (as := [.inl x3, .inl 1]) (st := [.inl x_9, .inl x2]) (ci := 4) (n := 2) (mc := 0) (ms := 0) (bc := bc) (bs := bs) (yc := kX4_cell) (q := (RX4, TX4, 2)) (b := a_15) (pc := 44) dX10_engagedOf_44 sc_X4_cell ml_X10_89 im_X4_cell se_X4_cell rfl rfl rfl (Nat.le_of_ble_eq_true rfl) hP15 (fun x_13 h_14 hP16 => ?_)
      clear hP15
      refine bz_isub (pc := 47) dX10_engagedOf_47 ?_
      refine bz_iadd (pc := 48) dX10_engagedOf_48 ?_
      refine bz_s_istore_n (pc := 49) dX10_engagedOf_49 rfl (Nat.le_of_ble_eq_true rfl) [some (.inr (some a0)), some (.inl x1), some (.inl (x2 + (x_9 - x_13))), some (.inl x3)] rfl ?_
      refine bz_s_iinc (pc := 50) dX10_engagedOf_50 (Nat.le_of_ble_eq_true rfl) rfl rfl [some (.inr (some a0)), some (.inl x1), some (.inl (x2 + (x_9 - x_13))), some (.inl (x3 + 1))] rfl ?_
      refine bz_goto (tgt := 4) (pc := 53) dX10_engagedOf_53 rfl ?_
      exact hP16
theorem m_X10_engagedOf {G : bz_G} {l : Launch} {d mc ms : Nat} {F : Option bz_V → bz_H → Prop} (a0 : Nat) (x1 : Int32) (h : bz_H) (hP : ∀ (κ : bz_K) (bc bs : Nat), κ.2.1 = l → w_X10_engagedOf_0 G κ l d F bc bs a0 x1 h) : bz_Call G l (d + 1) kX10_engagedOf [.inr (some a0), .inl x1] h mc ms F :=
  bz_body (by decide) (Nat.le_of_ble_eq_true rfl) (fun κ hl => g_X10_engagedOf_0 hl a0 x1 h (hP κ mc ms hl))
def w_X10_isDouble_0 (G : bz_G) (κ : bz_K) (l : Launch) (d : Nat) (F : Option bz_V → bz_H → Prop) (bc bs : Nat) (a0 : Nat) (x1 : Int32) (x2 : Int32) (x3 : Int32) (h : bz_H) : Prop := bz_rR h a0 10 7 (fun r_1 => bz_nn r_1 (fun a_4 => bz_rc h a_4 4 (bz_cI G l d kX4_cell [.inr (some a_4), .inl x2, .inl 0] h 0 0 (fun x_2 h_3 => (¬ x_2 = x1 → F (some (.inl 0)) h_3) ∧ (x_2 = x1 → bz_rR h_3 a0 10 7 (fun r_5 => bz_nn r_5 (fun a_8 => bz_rc h_3 a_8 4 (bz_cI G l d kX4_cell [.inr (some a_8), .inl x3, .inl 0] h_3 0 0 (fun x_6 h_7 => (x_6 = x1 → bz_rR h_7 a0 10 7 (fun r_9 => bz_nn r_9 (fun a_12 => bz_rc h_7 a_12 4 (bz_cI G l d kX4_cell [.inr (some a_12), .inl x3, .inl 2] h_7 0 0 (fun x_10 h_11 => bz_rR h_11 a0 10 7 (fun r_13 => bz_nn r_13 (fun a_16 => bz_rc h_11 a_16 4 (bz_cI G l d kX4_cell [.inr (some a_16), .inl x2, .inl 2] h_11 0 0 (fun x_14 h_15 => bz_J G κ kX10_isDouble (d + 1) F bc bs 59 [some (.inr (some a0)), some (.inl x1), some (.inl x2), some (.inl x3), some (.inl (x_10 - x_14)), none, none, none] [.inl (if 0 ≤ (x_10 - x_14) then x2 else x3)] h_15))))))))) ∧ (¬ (x_6 = x1) → F (some (.inl 0)) h_7))))))))))
set_option maxRecDepth 20000 in
set_option maxHeartbeats 4000000 in
theorem g_X10_isDouble_0 {G : bz_G} {κ : bz_K} {l : Launch} {d : Nat} {F : Option bz_V → bz_H → Prop} {bc bs : Nat} (hl : κ.2.1 = l) (a0 : Nat) (x1 : Int32) (x2 : Int32) (x3 : Int32) (h : bz_H) (hP0 : w_X10_isDouble_0 G κ l d F bc bs a0 x1 x2 x3 h) : bz_J G κ kX10_isDouble (d + 1) F bc bs 0 [some (.inr (some a0)), some (.inl x1), some (.inl x2), some (.inl x3), none, none, none, none] [] h := by
  subst hl
  unfold w_X10_isDouble_0 at hP0
  refine bz_aload_n (pc := 0) dX10_isDouble_0 rfl rfl ?_
  refine bz_rw_rR (pc := 1) dX10_isDouble_1 fl_X10_51 hP0 (fun r_1 hP1 => ?_)
  clear hP0
  refine bz_iload_n (pc := 4) dX10_isDouble_4 rfl rfl ?_
  refine bz_iconst (pc := 5) dX10_isDouble_5 ci_0 ?_
  obtain ⟨a_4, rfl, hP2⟩ := hP1
  refine bz_kIV (as := [.inl x2, .inl 0]) (st := []) (ci := 4) (n := 2) (mc := 0) (ms := 0) (bc := bc) (bs := bs) (yc := kX4_cell) (q := (RX4, TX4, 2)) (b := a_4) (pc := 6) dX10_isDouble_6 sc_X4_cell ml_X10_89 im_X4_cell se_X4_cell rfl rfl rfl (Nat.le_of_ble_eq_true rfl) hP2 (fun x_2 h_3 hP3 => ?_)
  clear hP2
  refine bz_iload_n (pc := 9) dX10_isDouble_9 rfl rfl ?_
  refine bz_icmp_ne (tgt := 26) (pc := 10) dX10_isDouble_10 rfl (fun c => ?_) (fun c => ?_)
  · have hP4 := hP3.1 c
    clear hP3
    refine bz_iconst (pc := 26) dX10_isDouble_26 ci_0 ?_
    exact bz_retI (pc := 27) dX10_isDouble_27 rfl rfl hP4
  · have hP5 := hP3.2 c
    clear hP3
    refine bz_aload_n (pc := 13) dX10_isDouble_13 rfl rfl ?_
    refine bz_rw_rR (pc := 14) dX10_isDouble_14 fl_X10_51 hP5 (fun r_5 hP6 => ?_)
    clear hP5
    refine bz_iload_n (pc := 17) dX10_isDouble_17 rfl rfl ?_
    refine bz_iconst (pc := 18) dX10_isDouble_18 ci_0 ?_
    obtain ⟨a_8, rfl, hP7⟩ := hP6
    refine bz_kIV (as := [.inl x3, .inl 0]) (st := []) (ci := 4) (n := 2) (mc := 0) (ms := 0) (bc := bc) (bs := bs) (yc := kX4_cell) (q := (RX4, TX4, 2)) (b := a_8) (pc := 19) dX10_isDouble_19 sc_X4_cell ml_X10_89 im_X4_cell se_X4_cell rfl rfl rfl (Nat.le_of_ble_eq_true rfl) hP7 (fun x_6 h_7 hP8 => ?_)
    clear hP7
    refine bz_iload_n (pc := 22) dX10_isDouble_22 rfl rfl ?_
    refine bz_icmp_eq (tgt := 28) (pc := 23) dX10_isDouble_23 rfl (fun c => ?_) (fun c => ?_)
    · have hP9 := hP8.1 c
      clear hP8
      refine bz_aload_n (pc := 28) dX10_isDouble_28 rfl rfl ?_
      refine bz_rw_rR (pc := 29) dX10_isDouble_29 fl_X10_51 hP9 (fun r_9 hP10 => ?_)
      clear hP9
      refine bz_iload_n (pc := 32) dX10_isDouble_32 rfl rfl ?_
      refine bz_iconst (pc := 33) dX10_isDouble_33 ci_2 ?_
      obtain ⟨a_12, rfl, hP11⟩ := hP10
      refine bz_kIV (as := [.inl x3, .inl 2]) (st := []) (ci := 4) (n := 2) (mc := 0) (ms := 0) (bc := bc) (bs := bs) (yc := kX4_cell) (q := (RX4, TX4, 2)) (b := a_12) (pc := 34) dX10_isDouble_34 sc_X4_cell ml_X10_89 im_X4_cell se_X4_cell rfl rfl rfl (Nat.le_of_ble_eq_true rfl) hP11 (fun x_10 h_11 hP12 => ?_)
      clear hP11
      refine bz_aload_n (pc := 37) dX10_isDouble_37 rfl rfl ?_
      refine bz_rw_rR (pc := 38) dX10_isDouble_38 fl_X10_51 hP12 (fun r_13 hP13 => ?_)
      clear hP12
      refine bz_iload_n (pc := 41) dX10_isDouble_41 rfl rfl ?_
      refine bz_iconst (pc := 42) dX10_isDouble_42 ci_2 ?_
      obtain ⟨a_16, rfl, hP14⟩ := hP13
      refine bz_kIV (as := [.inl x2, .inl 2]) (st := [.inl x_10]) (ci := 4) (n := 2) (mc := 0) (ms := 0) (bc := bc) (bs := bs) (yc := kX4_cell) (q := (RX4, TX4, 2)) (b := a_16) (pc := 43) dX10_isDouble_43 sc_X4_cell ml_X10_89 im_X4_cell se_X4_cell rfl rfl rfl (Nat.le_of_ble_eq_true rfl) hP14 (fun x_14 h_15 hP15 => ?_)
      clear hP14
      refine bz_isub (pc := 46) dX10_isDouble_46 ?_
      refine bz_s_istore (pc := 47) dX10_isDouble_47 (Nat.le_of_ble_eq_true rfl) [some (.inr (some a0)), some (.inl x1), some (.inl x2), some (.inl x3), some (.inl (x_10 - x_14)), none, none, none] rfl ?_
      refine bz_iload (pc := 49) dX10_isDouble_49 rfl ?_
      have hJ : bz_J G κ kX10_isDouble (d + 1) F bc bs 59 [some (.inr (some a0)), some (.inl x1), some (.inl x2), some (.inl x3), some (.inl (x_10 - x_14)), none, none, none] [.inl (if 0 ≤ (x_10 - x_14) then x2 else x3)] h_15 := by
        exact hP15
      refine bz_if_ge (tgt := 58) (pc := 51) dX10_isDouble_51 rfl (fun c => ?_) (fun c => ?_)
      · have e9 : ((if 0 ≤ (x_10 - x_14) then x2 else x3) : Int32) = (x2) := if_pos c
        rw [e9] at hJ
        refine bz_iload_n (pc := 58) dX10_isDouble_58 rfl rfl ?_
        exact hJ
      · have e9 : ((if 0 ≤ (x_10 - x_14) then x2 else x3) : Int32) = (x3) := if_neg c
        rw [e9] at hJ
        refine bz_iload_n (pc := 54) dX10_isDouble_54 rfl rfl ?_
        refine bz_goto (tgt := 59) (pc := 55) dX10_isDouble_55 rfl ?_
        exact hJ
    · have hP16 := hP8.2 c
      clear hP8
      refine bz_iconst (pc := 26) dX10_isDouble_26 ci_0 ?_
      exact bz_retI (pc := 27) dX10_isDouble_27 rfl rfl hP16
def w_X10_isDouble_59 (G : bz_G) (l : Launch) (d : Nat) (F : Option bz_V → bz_H → Prop) (a0 : Nat) (x1 : Int32) (x2 : Int32) (x3 : Int32) (x4 : Int32) (u5 : Option bz_V) (u6 : Option bz_V) (u7 : Option bz_V) (y0 : Int32) (h : bz_H) : Prop := bz_rR h a0 10 0 (fun r_17 => bz_rR h a0 10 7 (fun r_18 => bz_nn r_18 (fun a_21 => bz_rc h a_21 4 (bz_cI G l d kX4_cell [.inr (some a_21), .inl y0, .inl 1] h 0 0 (fun x_19 h_20 => bz_rR h_20 a0 10 7 (fun r_22 => bz_nn r_22 (fun a_25 => bz_rc h_20 a_25 4 (bz_cI G l d kX4_cell [.inr (some a_25), .inl (if 0 ≤ x4 then x3 else x2), .inl 1] h_20 0 0 (fun x_23 h_24 => bz_nn r_17 (fun a_28 => bz_rc h_24 a_28 8 (bz_cI G l d kX8_wayBetween [.inr (some a_28), .inl x_19, .inl x_23] h_24 0 0 (fun x_26 h_27 => (x_26 = (-1) → F (some (.inl 1)) h_27) ∧ (¬ (x_26 = (-1)) → F (some (.inl (if x_26 ≤ (if 0 ≤ x4 then x4 else 0 - x4) then 0 else 1))) h_27)))))))))))))
set_option maxRecDepth 20000 in
set_option maxHeartbeats 4000000 in
theorem g_X10_isDouble_59 {G : bz_G} {κ : bz_K} {l : Launch} {d : Nat} {F : Option bz_V → bz_H → Prop} {bc bs : Nat} (hl : κ.2.1 = l) (a0 : Nat) (x1 : Int32) (x2 : Int32) (x3 : Int32) (x4 : Int32) (u5 : Option bz_V) (u6 : Option bz_V) (u7 : Option bz_V) (y0 : Int32) (h : bz_H) (hP0 : w_X10_isDouble_59 G l d F a0 x1 x2 x3 x4 u5 u6 u7 y0 h) : bz_J G κ kX10_isDouble (d + 1) F bc bs 59 [some (.inr (some a0)), some (.inl x1), some (.inl x2), some (.inl x3), some (.inl x4), u5, u6, u7] [.inl y0] h := by
  subst hl
  unfold w_X10_isDouble_59 at hP0
  refine bz_s_istore (pc := 59) dX10_isDouble_59 (Nat.le_of_ble_eq_true rfl) [some (.inr (some a0)), some (.inl x1), some (.inl x2), some (.inl x3), some (.inl x4), some (.inl y0), u6, u7] rfl ?_
  refine bz_iload (pc := 61) dX10_isDouble_61 rfl ?_
  have hJ : bz_J G κ kX10_isDouble (d + 1) F bc bs 71 [some (.inr (some a0)), some (.inl x1), some (.inl x2), some (.inl x3), some (.inl x4), some (.inl y0), u6, u7] [.inl (if 0 ≤ x4 then x3 else x2)] h := by
    refine bz_s_istore (pc := 71) dX10_isDouble_71 (Nat.le_of_ble_eq_true rfl) [some (.inr (some a0)), some (.inl x1), some (.inl x2), some (.inl x3), some (.inl x4), some (.inl y0), some (.inl (if 0 ≤ x4 then x3 else x2)), u7] rfl ?_
    refine bz_aload_n (pc := 73) dX10_isDouble_73 rfl rfl ?_
    refine bz_rw_rR (pc := 74) dX10_isDouble_74 fl_X10_12 hP0 (fun r_17 hP1 => ?_)
    clear hP0
    refine bz_aload_n (pc := 77) dX10_isDouble_77 rfl rfl ?_
    refine bz_rw_rR (pc := 78) dX10_isDouble_78 fl_X10_51 hP1 (fun r_18 hP2 => ?_)
    clear hP1
    refine bz_iload (pc := 81) dX10_isDouble_81 rfl ?_
    refine bz_iconst (pc := 83) dX10_isDouble_83 ci_1 ?_
    obtain ⟨a_21, rfl, hP3⟩ := hP2
    refine bz_kIV (as := [.inl y0, .inl 1]) (st := [.inr r_17]) (ci := 4) (n := 2) (mc := 0) (ms := 0) (bc := bc) (bs := bs) (yc := kX4_cell) (q := (RX4, TX4, 2)) (b := a_21) (pc := 84) dX10_isDouble_84 sc_X4_cell ml_X10_89 im_X4_cell se_X4_cell rfl rfl rfl (Nat.le_of_ble_eq_true rfl) hP3 (fun x_19 h_20 hP4 => ?_)
    clear hP3
    refine bz_aload_n (pc := 87) dX10_isDouble_87 rfl rfl ?_
    refine bz_rw_rR (pc := 88) dX10_isDouble_88 fl_X10_51 hP4 (fun r_22 hP5 => ?_)
    clear hP4
    refine bz_iload (pc := 91) dX10_isDouble_91 rfl ?_
    refine bz_iconst (pc := 93) dX10_isDouble_93 ci_1 ?_
    obtain ⟨a_25, rfl, hP6⟩ := hP5
    refine bz_kIV (as := [.inl (if 0 ≤ x4 then x3 else x2), .inl 1]) (st := [.inl x_19, .inr r_17]) (ci := 4) (n := 2) (mc := 0) (ms := 0) (bc := bc) (bs := bs) (yc := kX4_cell) (q := (RX4, TX4, 2)) (b := a_25) (pc := 94) dX10_isDouble_94 sc_X4_cell ml_X10_89 im_X4_cell se_X4_cell rfl rfl rfl (Nat.le_of_ble_eq_true rfl) hP6 (fun x_23 h_24 hP7 => ?_)
    clear hP6
    obtain ⟨a_28, rfl, hP8⟩ := hP7
    refine bz_kIV (as := [.inl x_19, .inl x_23]) (st := []) (ci := 8) (n := 2) (mc := 0) (ms := 0) (bc := bc) (bs := bs) (yc := kX8_wayBetween) (q := (RX8, TX8, 4)) (b := a_28) (pc := 97) dX10_isDouble_97 sc_X8_wayBetween ml_X10_201 im_X8_wayBetween se_X8_wayBetween rfl rfl rfl (Nat.le_of_ble_eq_true rfl) hP8 (fun x_26 h_27 hP9 => ?_)
    clear hP8
    refine bz_s_istore (pc := 100) dX10_isDouble_100 (Nat.le_of_ble_eq_true rfl) [some (.inr (some a0)), some (.inl x1), some (.inl x2), some (.inl x3), some (.inl x4), some (.inl y0), some (.inl (if 0 ≤ x4 then x3 else x2)), some (.inl x_26)] rfl ?_
    refine bz_iload (pc := 102) dX10_isDouble_102 rfl ?_
    refine bz_iconst (pc := 104) dX10_isDouble_104 ci_m1 ?_
    refine bz_icmp_eq (tgt := 118) (pc := 105) dX10_isDouble_105 rfl (fun c => ?_) (fun c => ?_)
    · have hP10 := hP9.1 c
      clear hP9
      refine bz_iconst (pc := 118) dX10_isDouble_118 ci_1 ?_
      refine bz_goto (tgt := 123) (pc := 119) dX10_isDouble_119 rfl ?_
      exact bz_retI (pc := 123) dX10_isDouble_123 rfl rfl hP10
    · have hP11 := hP9.2 c
      clear hP9
      refine bz_iload (pc := 108) dX10_isDouble_108 rfl ?_
      refine bz_iload (pc := 110) dX10_isDouble_110 rfl ?_
      refine bz_mabs (pc := 112) dX10_isDouble_112 ml_X10_204 mt_abs mt_init mt_code_abs (Nat.succ_pos d) (Nat.le_of_ble_eq_true rfl) ?_
      have hJ : bz_J G κ kX10_isDouble (d + 1) F bc bs 123 [some (.inr (some a0)), some (.inl x1), some (.inl x2), some (.inl x3), some (.inl x4), some (.inl y0), some (.inl (if 0 ≤ x4 then x3 else x2)), some (.inl x_26)] [.inl (if x_26 ≤ (if 0 ≤ x4 then x4 else 0 - x4) then 0 else 1)] h_27 := by
        exact bz_retI (pc := 123) dX10_isDouble_123 rfl (by (repeat' split) <;> rfl) hP11
      refine bz_icmp_le (tgt := 122) (pc := 115) dX10_isDouble_115 rfl (fun c => ?_) (fun c => ?_)
      · have e9 : ((if x_26 ≤ (if 0 ≤ x4 then x4 else 0 - x4) then 0 else 1) : Int32) = (0) := if_pos c
        rw [e9] at hJ
        refine bz_iconst (pc := 122) dX10_isDouble_122 ci_0 ?_
        exact hJ
      · have e9 : ((if x_26 ≤ (if 0 ≤ x4 then x4 else 0 - x4) then 0 else 1) : Int32) = (1) := if_neg c
        rw [e9] at hJ
        refine bz_iconst (pc := 118) dX10_isDouble_118 ci_1 ?_
        refine bz_goto (tgt := 123) (pc := 119) dX10_isDouble_119 rfl ?_
        exact hJ
  refine bz_if_ge (tgt := 70) (pc := 63) dX10_isDouble_63 rfl (fun c => ?_) (fun c => ?_)
  · have e9 : ((if 0 ≤ x4 then x3 else x2) : Int32) = (x3) := if_pos c
    rw [e9] at hJ
    refine bz_iload_n (pc := 70) dX10_isDouble_70 rfl rfl ?_
    exact hJ
  · have e9 : ((if 0 ≤ x4 then x3 else x2) : Int32) = (x2) := if_neg c
    rw [e9] at hJ
    refine bz_iload_n (pc := 66) dX10_isDouble_66 rfl rfl ?_
    refine bz_goto (tgt := 71) (pc := 67) dX10_isDouble_67 rfl ?_
    exact hJ
theorem m_X10_isDouble {G : bz_G} {l : Launch} {d mc ms : Nat} {F : Option bz_V → bz_H → Prop} (a0 : Nat) (x1 : Int32) (x2 : Int32) (x3 : Int32) (h : bz_H) (hP : ∀ (κ : bz_K) (bc bs : Nat), κ.2.1 = l → w_X10_isDouble_0 G κ l d F bc bs a0 x1 x2 x3 h) : bz_Call G l (d + 1) kX10_isDouble [.inr (some a0), .inl x1, .inl x2, .inl x3] h mc ms F :=
  bz_body (by decide) (Nat.le_of_ble_eq_true rfl) (fun κ hl => g_X10_isDouble_0 hl a0 x1 x2 x3 h (hP κ mc ms hl))
def w_X10_nameRider_0 (G : bz_G) (l : Launch) (d : Nat) (F : Option bz_V → bz_H → Prop) (a0 : Nat) (r1 : Option Nat) (x2 : Int32) (r3 : Option Nat) (h : bz_H) : Prop := bz_rR h a0 10 3 (fun r_1 => bz_nn r_1 (fun a_2 => bz_rQ h a_2 x2 (fun r_3 => bz_rR h a0 10 0 (fun r_4 => bz_nn r_3 (fun a_5 => bz_rI h a_5 3 1 (fun x_6 => bz_rI h a_5 3 4 (fun x_7 => bz_nn r1 (fun a_10 => bz_rc h a_10 0 (bz_cV G l d kX0_putWays [.inr (some a_10), .inr r_4, .inl x_6, .inl x_7, .inr r3] h 0 0 (fun h_9 => bz_rI h_9 a_5 3 6 (fun x_11 => bz_rc h_9 a0 10 (bz_cI G l d kX10_ratingOfRider [.inr (some a0), .inl x2] h_9 0 0 (fun x_12 h_13 => bz_rc h_13 a_10 0 (bz_cV G l d kX0_putRider [.inr (some a_10), .inl x2, .inl x_11, .inl x_12] h_13 0 0 (fun h_15 => F none h_15)))))))))))))))
set_option maxRecDepth 20000 in
set_option maxHeartbeats 4000000 in
theorem g_X10_nameRider_0 {G : bz_G} {κ : bz_K} {l : Launch} {d : Nat} {F : Option bz_V → bz_H → Prop} {bc bs : Nat} (hl : κ.2.1 = l) (a0 : Nat) (r1 : Option Nat) (x2 : Int32) (r3 : Option Nat) (h : bz_H) (hP0 : w_X10_nameRider_0 G l d F a0 r1 x2 r3 h) : bz_J G κ kX10_nameRider (d + 1) F bc bs 0 [some (.inr (some a0)), some (.inr r1), some (.inl x2), some (.inr r3), none] [] h := by
  subst hl
  unfold w_X10_nameRider_0 at hP0
  refine bz_aload_n (pc := 0) dX10_nameRider_0 rfl rfl ?_
  refine bz_rw_rR (pc := 1) dX10_nameRider_1 fl_X10_35 hP0 (fun r_1 hP1 => ?_)
  clear hP0
  refine bz_iload_n (pc := 4) dX10_nameRider_4 rfl rfl ?_
  obtain ⟨a_2, rfl, hP2⟩ := hP1
  refine bz_rw_ldq (pc := 5) dX10_nameRider_5 hP2 (fun r_3 hP3 => ?_)
  clear hP2
  refine bz_s_astore (pc := 6) dX10_nameRider_6 (Nat.le_of_ble_eq_true rfl) [some (.inr (some a0)), some (.inr r1), some (.inl x2), some (.inr r3), some (.inr r_3)] rfl ?_
  refine bz_aload_n (pc := 8) dX10_nameRider_8 rfl rfl ?_
  refine bz_aload_n (pc := 9) dX10_nameRider_9 rfl rfl ?_
  refine bz_rw_rR (pc := 10) dX10_nameRider_10 fl_X10_12 hP3 (fun r_4 hP4 => ?_)
  clear hP3
  refine bz_aload (pc := 13) dX10_nameRider_13 rfl ?_
  obtain ⟨a_5, rfl, hP5⟩ := hP4
  refine bz_rw_rI (pc := 15) dX10_nameRider_15 fl_X10_124 hP5 (fun x_6 hP6 => ?_)
  clear hP5
  refine bz_aload (pc := 18) dX10_nameRider_18 rfl ?_
  refine bz_rw_rI (pc := 20) dX10_nameRider_20 fl_X10_127 hP6 (fun x_7 hP7 => ?_)
  clear hP6
  refine bz_aload_n (pc := 23) dX10_nameRider_23 rfl rfl ?_
  obtain ⟨a_10, rfl, hP8⟩ := hP7
  refine bz_kVV (as := [.inr r_4, .inl x_6, .inl x_7, .inr r3]) (st := []) (ci := 0) (n := 4) (mc := 0) (ms := 0) (bc := bc) (bs := bs) (yc := kX0_putWays) (q := (RX0, TX0, 2)) (b := a_10) (pc := 24) dX10_nameRider_24 sc_X0_putWays ml_X10_130 im_X0_putWays se_X0_putWays rfl rfl rfl (Nat.le_of_ble_eq_true rfl) hP8 (fun h_9 hP9 => ?_)
  clear hP8
  refine bz_aload_n (pc := 27) dX10_nameRider_27 rfl rfl ?_
  refine bz_iload_n (pc := 28) dX10_nameRider_28 rfl rfl ?_
  refine bz_aload (pc := 29) dX10_nameRider_29 rfl ?_
  refine bz_rw_rI (pc := 31) dX10_nameRider_31 fl_X10_136 hP9 (fun x_11 hP10 => ?_)
  clear hP9
  refine bz_aload_n (pc := 34) dX10_nameRider_34 rfl rfl ?_
  refine bz_iload_n (pc := 35) dX10_nameRider_35 rfl rfl ?_
  refine bz_kIV (as := [.inl x2]) (st := [.inl x_11, .inl x2, .inr (some a_10)]) (ci := 10) (n := 1) (mc := 0) (ms := 0) (bc := bc) (bs := bs) (yc := kX10_ratingOfRider) (q := (RX10, TX10, 16)) (b := a0) (pc := 36) dX10_nameRider_36 sc_X10_ratingOfRider ml_X10_139 im_X10_ratingOfRider se_X10_ratingOfRider rfl rfl rfl (Nat.le_of_ble_eq_true rfl) hP10 (fun x_12 h_13 hP11 => ?_)
  clear hP10
  refine bz_kVV (as := [.inl x2, .inl x_11, .inl x_12]) (st := []) (ci := 0) (n := 3) (mc := 0) (ms := 0) (bc := bc) (bs := bs) (yc := kX0_putRider) (q := (RX0, TX0, 2)) (b := a_10) (pc := 39) dX10_nameRider_39 sc_X0_putRider ml_X10_143 im_X0_putRider se_X0_putRider rfl rfl rfl (Nat.le_of_ble_eq_true rfl) hP11 (fun h_15 hP12 => ?_)
  clear hP11
  exact bz_retV (pc := 42) dX10_nameRider_42 rfl hP12
theorem m_X10_nameRider {G : bz_G} {l : Launch} {d mc ms : Nat} {F : Option bz_V → bz_H → Prop} (a0 : Nat) (r1 : Option Nat) (x2 : Int32) (r3 : Option Nat) (h : bz_H) (hP : w_X10_nameRider_0 G l d F a0 r1 x2 r3 h) : bz_Call G l (d + 1) kX10_nameRider [.inr (some a0), .inr r1, .inl x2, .inr r3] h mc ms F :=
  bz_body (by decide) (Nat.le_of_ble_eq_true rfl) (fun κ hl => g_X10_nameRider_0 hl a0 r1 x2 r3 h hP)
def w_X10_orderAt_0 (G : bz_G) (l : Launch) (d : Nat) (F : Option bz_V → bz_H → Prop) (a0 : Nat) (x1 : Int32) (h : bz_H) : Prop := bz_rI h a0 10 9 (fun x_1 => bz_cI G l d kX11_isWithin [.inl x1, .inl 0, .inl (x_1 - 1)] h 0 0 (fun x_2 h_3 => (x_2 = 0 → F (some (.inr none)) h_3) ∧ (¬ (x_2 = 0) → bz_rR h_3 a0 10 2 (fun r_4 => bz_nn r_4 (fun a_5 => bz_rQ h_3 a_5 x1 (fun r_6 => F (some (.inr r_6)) h_3))))))
set_option maxRecDepth 20000 in
set_option maxHeartbeats 4000000 in
theorem g_X10_orderAt_0 {G : bz_G} {κ : bz_K} {l : Launch} {d : Nat} {F : Option bz_V → bz_H → Prop} {bc bs : Nat} (hl : κ.2.1 = l) (a0 : Nat) (x1 : Int32) (h : bz_H) (hP0 : w_X10_orderAt_0 G l d F a0 x1 h) : bz_J G κ kX10_orderAt (d + 1) F bc bs 0 [some (.inr (some a0)), some (.inl x1)] [] h := by
  subst hl
  unfold w_X10_orderAt_0 at hP0
  refine bz_iload_n (pc := 0) dX10_orderAt_0 rfl rfl ?_
  refine bz_iconst (pc := 1) dX10_orderAt_1 ci_0 ?_
  refine bz_aload_n (pc := 2) dX10_orderAt_2 rfl rfl ?_
  refine bz_rw_rI (pc := 3) dX10_orderAt_3 fl_X10_73 hP0 (fun x_1 hP1 => ?_)
  clear hP0
  refine bz_iconst (pc := 6) dX10_orderAt_6 ci_1 ?_
  refine bz_isub (pc := 7) dX10_orderAt_7 ?_
  refine bz_kISN (as := [.inl x1, .inl 0, .inl (x_1 - 1)]) (st := []) (n := 3) (mc := 0) (ms := 0) (bc := bc) (bs := bs) (yc := kX11_isWithin) (host := RX11) (pc := 8) dX10_orderAt_8 sc_X11_isWithin ml_X10_76 ss_X11_isWithin rfl (Nat.le_of_ble_eq_true rfl) hP1 (fun x_2 h_3 hP2 => ?_)
  clear hP1
  refine bz_if_eq (tgt := 23) (pc := 11) dX10_orderAt_11 rfl (fun c => ?_) (fun c => ?_)
  · have hP3 := hP2.1 c
    clear hP2
    refine bz_null (pc := 23) dX10_orderAt_23 ?_
    exact bz_retR (pc := 24) dX10_orderAt_24 rfl (by first | exact Or.inl ⟨_, rfl⟩ | exact Or.inr ⟨_, rfl⟩) hP3
  · have hP4 := hP2.2 c
    clear hP2
    refine bz_aload_n (pc := 14) dX10_orderAt_14 rfl rfl ?_
    refine bz_rw_rR (pc := 15) dX10_orderAt_15 fl_X10_29 hP4 (fun r_4 hP5 => ?_)
    clear hP4
    refine bz_iload_n (pc := 18) dX10_orderAt_18 rfl rfl ?_
    obtain ⟨a_5, rfl, hP6⟩ := hP5
    refine bz_rw_ldq (pc := 19) dX10_orderAt_19 hP6 (fun r_6 hP7 => ?_)
    clear hP6
    refine bz_goto (tgt := 24) (pc := 20) dX10_orderAt_20 rfl ?_
    exact bz_retR (pc := 24) dX10_orderAt_24 rfl (by first | exact Or.inl ⟨_, rfl⟩ | exact Or.inr ⟨_, rfl⟩) hP7
theorem m_X10_orderAt {G : bz_G} {l : Launch} {d mc ms : Nat} {F : Option bz_V → bz_H → Prop} (a0 : Nat) (x1 : Int32) (h : bz_H) (hP : w_X10_orderAt_0 G l d F a0 x1 h) : bz_Call G l (d + 1) kX10_orderAt [.inr (some a0), .inl x1] h mc ms F :=
  bz_body (by decide) (Nat.le_of_ble_eq_true rfl) (fun κ hl => g_X10_orderAt_0 hl a0 x1 h hP)
def w_X10_ownRatingOf_0 (G : bz_G) (κ : bz_K) (l : Launch) (d : Nat) (F : Option bz_V → bz_H → Prop) (bc bs : Nat) (a0 : Nat) (x1 : Int32) (h : bz_H) : Prop := bz_J G κ kX10_ownRatingOf (d + 1) F bc bs 7 [some (.inr (some a0)), some (.inl x1), some (.inl 0), some (.inl 0), some (.inl 0)] [] h
set_option maxRecDepth 20000 in
set_option maxHeartbeats 4000000 in
theorem g_X10_ownRatingOf_0 {G : bz_G} {κ : bz_K} {l : Launch} {d : Nat} {F : Option bz_V → bz_H → Prop} {bc bs : Nat} (hl : κ.2.1 = l) (a0 : Nat) (x1 : Int32) (h : bz_H) (hP0 : w_X10_ownRatingOf_0 G κ l d F bc bs a0 x1 h) : bz_J G κ kX10_ownRatingOf (d + 1) F bc bs 0 [some (.inr (some a0)), some (.inl x1), none, none, none] [] h := by
  subst hl
  unfold w_X10_ownRatingOf_0 at hP0
  refine bz_iconst (pc := 0) dX10_ownRatingOf_0 ci_0 ?_
  refine bz_s_istore_n (pc := 1) dX10_ownRatingOf_1 rfl (Nat.le_of_ble_eq_true rfl) [some (.inr (some a0)), some (.inl x1), some (.inl 0), none, none] rfl ?_
  refine bz_iconst (pc := 2) dX10_ownRatingOf_2 ci_0 ?_
  refine bz_s_istore_n (pc := 3) dX10_ownRatingOf_3 rfl (Nat.le_of_ble_eq_true rfl) [some (.inr (some a0)), some (.inl x1), some (.inl 0), some (.inl 0), none] rfl ?_
  refine bz_iconst (pc := 4) dX10_ownRatingOf_4 ci_0 ?_
  refine bz_s_istore (pc := 5) dX10_ownRatingOf_5 (Nat.le_of_ble_eq_true rfl) [some (.inr (some a0)), some (.inl x1), some (.inl 0), some (.inl 0), some (.inl 0)] rfl ?_
  exact hP0
def w_X10_ownRatingOf_7 (G : bz_G) (κ : bz_K) (l : Launch) (d : Nat) (F : Option bz_V → bz_H → Prop) (bc bs : Nat) (a0 : Nat) (x1 : Int32) (x2 : Int32) (x3 : Int32) (x4 : Int32) (h : bz_H) : Prop := bz_rI h a0 10 9 (fun x_1 => (x_1 ≤ x4 → (¬ x3 = 0 → (¬ x3 = 0) ∧ (F (some (.inl (x2 / x3))) h)) ∧ (x3 = 0 → F (some (.inl 50)) h)) ∧ (¬ (x_1 ≤ x4) → bz_rR h a0 10 2 (fun r_2 => bz_nn r_2 (fun a_3 => bz_rQ h a_3 x4 (fun r_4 => bz_nn r_4 (fun a_7 => bz_rc h a_7 2 (bz_cI G l d kX2_isGivenTo [.inr (some a_7), .inl x1] h 0 0 (fun x_5 h_6 => (x_5 = 0 → bz_J G κ kX10_ownRatingOf (d + 1) F bc bs 7 [some (.inr (some a0)), some (.inl x1), some (.inl x2), some (.inl x3), some (.inl (x4 + 1))] [] h_6) ∧ (¬ (x_5 = 0) → bz_rR h_6 a0 10 2 (fun r_8 => bz_nn r_8 (fun a_9 => bz_rQ h_6 a_9 x4 (fun r_10 => bz_nn r_10 (fun a_13 => bz_rc h_6 a_13 2 (bz_cI G l d kX2_ownRating [.inr (some a_13)] h_6 0 0 (fun x_11 h_12 => bz_J G κ kX10_ownRatingOf (d + 1) F bc bs 7 [some (.inr (some a0)), some (.inl x1), some (.inl (x2 + x_11)), some (.inl (x3 + 1)), some (.inl (x4 + 1))] [] h_12)))))))))))))))
set_option maxRecDepth 20000 in
set_option maxHeartbeats 4000000 in
theorem g_X10_ownRatingOf_7 {G : bz_G} {κ : bz_K} {l : Launch} {d : Nat} {F : Option bz_V → bz_H → Prop} {bc bs : Nat} (hl : κ.2.1 = l) (a0 : Nat) (x1 : Int32) (x2 : Int32) (x3 : Int32) (x4 : Int32) (h : bz_H) (hP0 : w_X10_ownRatingOf_7 G κ l d F bc bs a0 x1 x2 x3 x4 h) : bz_J G κ kX10_ownRatingOf (d + 1) F bc bs 7 [some (.inr (some a0)), some (.inl x1), some (.inl x2), some (.inl x3), some (.inl x4)] [] h := by
  subst hl
  unfold w_X10_ownRatingOf_7 at hP0
  refine bz_iload (pc := 7) dX10_ownRatingOf_7 rfl ?_
  refine bz_aload_n (pc := 9) dX10_ownRatingOf_9 rfl rfl ?_
  refine bz_rw_rI (pc := 10) dX10_ownRatingOf_10 fl_X10_73 hP0 (fun x_1 hP1 => ?_)
  clear hP0
  refine bz_icmp_ge (tgt := 52) (pc := 13) dX10_ownRatingOf_13 rfl (fun c => ?_) (fun c => ?_)
  · have hP2 := hP1.1 c
    clear hP1
    refine bz_iload_n (pc := 52) dX10_ownRatingOf_52 rfl rfl ?_
    refine bz_if_ne (tgt := 61) (pc := 53) dX10_ownRatingOf_53 rfl (fun c => ?_) (fun c => ?_)
    · have hP3 := hP2.1 c
      clear hP2
      refine bz_iload_n (pc := 61) dX10_ownRatingOf_61 rfl rfl ?_
      refine bz_iload_n (pc := 62) dX10_ownRatingOf_62 rfl rfl ?_
      obtain ⟨hz, hP4⟩ := hP3
      refine bz_idiv (pc := 63) dX10_ownRatingOf_63 hz ?_
      exact bz_retI (pc := 64) dX10_ownRatingOf_64 rfl rfl hP4
    · have hP5 := hP2.2 c
      clear hP2
      refine bz_bipush (pc := 56) dX10_ownRatingOf_56 cb_50 ?_
      refine bz_goto (tgt := 64) (pc := 58) dX10_ownRatingOf_58 rfl ?_
      exact bz_retI (pc := 64) dX10_ownRatingOf_64 rfl rfl hP5
  · have hP6 := hP1.2 c
    clear hP1
    refine bz_aload_n (pc := 16) dX10_ownRatingOf_16 rfl rfl ?_
    refine bz_rw_rR (pc := 17) dX10_ownRatingOf_17 fl_X10_29 hP6 (fun r_2 hP7 => ?_)
    clear hP6
    refine bz_iload (pc := 20) dX10_ownRatingOf_20 rfl ?_
    obtain ⟨a_3, rfl, hP8⟩ := hP7
    refine bz_rw_ldq (pc := 22) dX10_ownRatingOf_22 hP8 (fun r_4 hP9 => ?_)
    clear hP8
    refine bz_iload_n (pc := 23) dX10_ownRatingOf_23 rfl rfl ?_
    obtain ⟨a_7, rfl, hP10⟩ := hP9
    refine bz_kIV (as := [.inl x1]) (st := []) (ci := 2) (n := 1) (mc := 0) (ms := 0) (bc := bc) (bs := bs) (yc := kX2_isGivenTo) (q := (RX2, TX2, 15)) (b := a_7) (pc := 24) dX10_ownRatingOf_24 sc_X2_isGivenTo ml_X10_177 im_X2_isGivenTo se_X2_isGivenTo rfl rfl rfl (Nat.le_of_ble_eq_true rfl) hP10 (fun x_5 h_6 hP11 => ?_)
    clear hP10
    refine bz_if_eq (tgt := 46) (pc := 27) dX10_ownRatingOf_27 rfl (fun c => ?_) (fun c => ?_)
    · have hP12 := hP11.1 c
      clear hP11
      refine bz_s_iinc (pc := 46) dX10_ownRatingOf_46 (Nat.le_of_ble_eq_true rfl) rfl rfl [some (.inr (some a0)), some (.inl x1), some (.inl x2), some (.inl x3), some (.inl (x4 + 1))] rfl ?_
      refine bz_goto (tgt := 7) (pc := 49) dX10_ownRatingOf_49 rfl ?_
      exact hP12
    · have hP13 := hP11.2 c
      clear hP11
      refine bz_iload_n (pc := 30) dX10_ownRatingOf_30 rfl rfl ?_
      refine bz_aload_n (pc := 31) dX10_ownRatingOf_31 rfl rfl ?_
      refine bz_rw_rR (pc := 32) dX10_ownRatingOf_32 fl_X10_29 hP13 (fun r_8 hP14 => ?_)
      clear hP13
      refine bz_iload (pc := 35) dX10_ownRatingOf_35 rfl ?_
      obtain ⟨a_9, rfl, hP15⟩ := hP14
      refine bz_rw_ldq (pc := 37) dX10_ownRatingOf_37 hP15 (fun r_10 hP16 => ?_)
      clear hP15
      obtain ⟨a_13, rfl, hP17⟩ := hP16
      refine bz_kIV (as := []) (st := [.inl x2]) (ci := 2) (n := 0) (mc := 0) (ms := 0) (bc := bc) (bs := bs) (yc := kX2_ownRating) (q := (RX2, TX2, 15)) (b := a_13) (pc := 38) dX10_ownRatingOf_38 sc_X2_ownRating ml_X10_188 im_X2_ownRating se_X2_ownRating rfl rfl rfl (Nat.le_of_ble_eq_true rfl) hP17 (fun x_11 h_12 hP18 => ?_)
      clear hP17
      refine bz_iadd (pc := 41) dX10_ownRatingOf_41 ?_
      refine bz_s_istore_n (pc := 42) dX10_ownRatingOf_42 rfl (Nat.le_of_ble_eq_true rfl) [some (.inr (some a0)), some (.inl x1), some (.inl (x2 + x_11)), some (.inl x3), some (.inl x4)] rfl ?_
      refine bz_s_iinc (pc := 43) dX10_ownRatingOf_43 (Nat.le_of_ble_eq_true rfl) rfl rfl [some (.inr (some a0)), some (.inl x1), some (.inl (x2 + x_11)), some (.inl (x3 + 1)), some (.inl x4)] rfl ?_
      refine bz_s_iinc (pc := 46) dX10_ownRatingOf_46 (Nat.le_of_ble_eq_true rfl) rfl rfl [some (.inr (some a0)), some (.inl x1), some (.inl (x2 + x_11)), some (.inl (x3 + 1)), some (.inl (x4 + 1))] rfl ?_
      refine bz_goto (tgt := 7) (pc := 49) dX10_ownRatingOf_49 rfl ?_
      exact hP18
theorem m_X10_ownRatingOf {G : bz_G} {l : Launch} {d mc ms : Nat} {F : Option bz_V → bz_H → Prop} (a0 : Nat) (x1 : Int32) (h : bz_H) (hP : ∀ (κ : bz_K) (bc bs : Nat), κ.2.1 = l → w_X10_ownRatingOf_0 G κ l d F bc bs a0 x1 h) : bz_Call G l (d + 1) kX10_ownRatingOf [.inr (some a0), .inl x1] h mc ms F :=
  bz_body (by decide) (Nat.le_of_ble_eq_true rfl) (fun κ hl => g_X10_ownRatingOf_0 hl a0 x1 h (hP κ mc ms hl))
def w_X10_payFor_0 (G : bz_G) (κ : bz_K) (l : Launch) (d : Nat) (F : Option bz_V → bz_H → Prop) (bc bs : Nat) (a0 : Nat) (r1 : Option Nat) (h : bz_H) : Prop := bz_J G κ kX10_payFor (d + 1) F bc bs 4 [some (.inr (some a0)), some (.inr r1), some (.inl 0), some (.inl 0)] [] h
set_option maxRecDepth 20000 in
set_option maxHeartbeats 4000000 in
theorem g_X10_payFor_0 {G : bz_G} {κ : bz_K} {l : Launch} {d : Nat} {F : Option bz_V → bz_H → Prop} {bc bs : Nat} (hl : κ.2.1 = l) (a0 : Nat) (r1 : Option Nat) (h : bz_H) (hP0 : w_X10_payFor_0 G κ l d F bc bs a0 r1 h) : bz_J G κ kX10_payFor (d + 1) F bc bs 0 [some (.inr (some a0)), some (.inr r1), none, none] [] h := by
  subst hl
  unfold w_X10_payFor_0 at hP0
  refine bz_iconst (pc := 0) dX10_payFor_0 ci_0 ?_
  refine bz_s_istore_n (pc := 1) dX10_payFor_1 rfl (Nat.le_of_ble_eq_true rfl) [some (.inr (some a0)), some (.inr r1), some (.inl 0), none] rfl ?_
  refine bz_iconst (pc := 2) dX10_payFor_2 ci_0 ?_
  refine bz_s_istore_n (pc := 3) dX10_payFor_3 rfl (Nat.le_of_ble_eq_true rfl) [some (.inr (some a0)), some (.inr r1), some (.inl 0), some (.inl 0)] rfl ?_
  exact hP0
def w_X10_payFor_4 (G : bz_G) (κ : bz_K) (l : Launch) (d : Nat) (F : Option bz_V → bz_H → Prop) (bc bs : Nat) (a0 : Nat) (r1 : Option Nat) (x2 : Int32) (x3 : Int32) (h : bz_H) : Prop := bz_rR h a0 10 6 (fun r_1 => bz_nn r_1 (fun a_2 => bz_rI h a_2 4 1 (fun x_3 => (x_3 ≤ x3 → bz_nn r1 (fun a_4 => bz_rI h a_4 2 13 (fun x_5 => bz_rI h a_4 2 13 (fun x_6 => F (some (.inl (x_5 + ((x_6 * x2) / 100)))) h)))) ∧ (¬ (x_3 ≤ x3) → bz_rR h a0 10 6 (fun r_7 => bz_nn r1 (fun a_8 => bz_rI h a_8 2 9 (fun x_9 => bz_nn r_7 (fun a_12 => bz_rc h a_12 4 (bz_cI G l d kX4_spans [.inr (some a_12), .inl x3, .inl x_9] h 0 0 (fun x_10 h_11 => (x_10 = 0 → bz_J G κ kX10_payFor (d + 1) F bc bs 4 [some (.inr (some a0)), some (.inr (some a_8)), some (.inl x2), some (.inl (x3 + 1))] [] h_11) ∧ (¬ (x_10 = 0) → bz_rR h_11 a0 10 6 (fun r_13 => bz_nn r_13 (fun a_16 => bz_rc h_11 a_16 4 (bz_cI G l d kX4_cell [.inr (some a_16), .inl x3, .inl 2] h_11 0 0 (fun x_14 h_15 => bz_J G κ kX10_payFor (d + 1) F bc bs 4 [some (.inr (some a0)), some (.inr (some a_8)), some (.inl (x2 + x_14)), some (.inl (x3 + 1))] [] h_15)))))))))))))))
set_option maxRecDepth 20000 in
set_option maxHeartbeats 4000000 in
theorem g_X10_payFor_4 {G : bz_G} {κ : bz_K} {l : Launch} {d : Nat} {F : Option bz_V → bz_H → Prop} {bc bs : Nat} (hl : κ.2.1 = l) (a0 : Nat) (r1 : Option Nat) (x2 : Int32) (x3 : Int32) (h : bz_H) (hP0 : w_X10_payFor_4 G κ l d F bc bs a0 r1 x2 x3 h) : bz_J G κ kX10_payFor (d + 1) F bc bs 4 [some (.inr (some a0)), some (.inr r1), some (.inl x2), some (.inl x3)] [] h := by
  subst hl
  unfold w_X10_payFor_4 at hP0
  refine bz_iload_n (pc := 4) dX10_payFor_4 rfl rfl ?_
  refine bz_aload_n (pc := 5) dX10_payFor_5 rfl rfl ?_
  refine bz_rw_rR (pc := 6) dX10_payFor_6 fl_X10_48 hP0 (fun r_1 hP1 => ?_)
  clear hP0
  obtain ⟨a_2, rfl, hP2⟩ := hP1
  refine bz_rw_rI (pc := 9) dX10_payFor_9 fl_X10_164 hP2 (fun x_3 hP3 => ?_)
  clear hP2
  refine bz_icmp_ge (tgt := 48) (pc := 12) dX10_payFor_12 rfl (fun c => ?_) (fun c => ?_)
  · have hP4 := hP3.1 c
    clear hP3
    refine bz_aload_n (pc := 48) dX10_payFor_48 rfl rfl ?_
    obtain ⟨a_4, rfl, hP5⟩ := hP4
    refine bz_rw_rI (pc := 49) dX10_payFor_49 fl_X10_174 hP5 (fun x_5 hP6 => ?_)
    clear hP5
    refine bz_aload_n (pc := 52) dX10_payFor_52 rfl rfl ?_
    refine bz_rw_rI (pc := 53) dX10_payFor_53 fl_X10_174 hP6 (fun x_6 hP7 => ?_)
    clear hP6
    refine bz_iload_n (pc := 56) dX10_payFor_56 rfl rfl ?_
    refine bz_imul (pc := 57) dX10_payFor_57 ?_
    refine bz_bipush (pc := 58) dX10_payFor_58 cb_100 ?_
    refine bz_idiv (pc := 60) dX10_payFor_60 (by decide) ?_
    refine bz_iadd (pc := 61) dX10_payFor_61 ?_
    exact bz_retI (pc := 62) dX10_payFor_62 rfl rfl hP7
  · have hP8 := hP3.2 c
    clear hP3
    refine bz_aload_n (pc := 15) dX10_payFor_15 rfl rfl ?_
    refine bz_rw_rR (pc := 16) dX10_payFor_16 fl_X10_48 hP8 (fun r_7 hP9 => ?_)
    clear hP8
    refine bz_iload_n (pc := 19) dX10_payFor_19 rfl rfl ?_
    refine bz_aload_n (pc := 20) dX10_payFor_20 rfl rfl ?_
    obtain ⟨a_8, rfl, hP10⟩ := hP9
    refine bz_rw_rI (pc := 21) dX10_payFor_21 fl_X10_167 hP10 (fun x_9 hP11 => ?_)
    clear hP10
    obtain ⟨a_12, rfl, hP12⟩ := hP11
    refine bz_kIV (as := [.inl x3, .inl x_9]) (st := []) (ci := 4) (n := 2) (mc := 0) (ms := 0) (bc := bc) (bs := bs) (yc := kX4_spans) (q := (RX4, TX4, 2)) (b := a_12) (pc := 24) dX10_payFor_24 sc_X4_spans ml_X10_170 im_X4_spans se_X4_spans rfl rfl rfl (Nat.le_of_ble_eq_true rfl) hP12 (fun x_10 h_11 hP13 => ?_)
    clear hP12
    refine bz_if_eq (tgt := 42) (pc := 27) dX10_payFor_27 rfl (fun c => ?_) (fun c => ?_)
    · have hP14 := hP13.1 c
      clear hP13
      refine bz_s_iinc (pc := 42) dX10_payFor_42 (Nat.le_of_ble_eq_true rfl) rfl rfl [some (.inr (some a0)), some (.inr (some a_8)), some (.inl x2), some (.inl (x3 + 1))] rfl ?_
      refine bz_goto (tgt := 4) (pc := 45) dX10_payFor_45 rfl ?_
      exact hP14
    · have hP15 := hP13.2 c
      clear hP13
      refine bz_iload_n (pc := 30) dX10_payFor_30 rfl rfl ?_
      refine bz_aload_n (pc := 31) dX10_payFor_31 rfl rfl ?_
      refine bz_rw_rR (pc := 32) dX10_payFor_32 fl_X10_48 hP15 (fun r_13 hP16 => ?_)
      clear hP15
      refine bz_iload_n (pc := 35) dX10_payFor_35 rfl rfl ?_
      refine bz_iconst (pc := 36) dX10_payFor_36 ci_2 ?_
      obtain ⟨a_16, rfl, hP17⟩ := hP16
      refine bz_kIV (as := [.inl x3, .inl 2]) (st := [.inl x2]) (ci := 4) (n := 2) (mc := 0) (ms := 0) (bc := bc) (bs := bs) (yc := kX4_cell) (q := (RX4, TX4, 2)) (b := a_16) (pc := 37) dX10_payFor_37 sc_X4_cell ml_X10_89 im_X4_cell se_X4_cell rfl rfl rfl (Nat.le_of_ble_eq_true rfl) hP17 (fun x_14 h_15 hP18 => ?_)
      clear hP17
      refine bz_iadd (pc := 40) dX10_payFor_40 ?_
      refine bz_s_istore_n (pc := 41) dX10_payFor_41 rfl (Nat.le_of_ble_eq_true rfl) [some (.inr (some a0)), some (.inr (some a_8)), some (.inl (x2 + x_14)), some (.inl x3)] rfl ?_
      refine bz_s_iinc (pc := 42) dX10_payFor_42 (Nat.le_of_ble_eq_true rfl) rfl rfl [some (.inr (some a0)), some (.inr (some a_8)), some (.inl (x2 + x_14)), some (.inl (x3 + 1))] rfl ?_
      refine bz_goto (tgt := 4) (pc := 45) dX10_payFor_45 rfl ?_
      exact hP18
theorem m_X10_payFor {G : bz_G} {l : Launch} {d mc ms : Nat} {F : Option bz_V → bz_H → Prop} (a0 : Nat) (r1 : Option Nat) (h : bz_H) (hP : ∀ (κ : bz_K) (bc bs : Nat), κ.2.1 = l → w_X10_payFor_0 G κ l d F bc bs a0 r1 h) : bz_Call G l (d + 1) kX10_payFor [.inr (some a0), .inr r1] h mc ms F :=
  bz_body (by decide) (Nat.le_of_ble_eq_true rfl) (fun κ hl => g_X10_payFor_0 hl a0 r1 h (hP κ mc ms hl))
def w_X10_payOfRider_0 (G : bz_G) (κ : bz_K) (l : Launch) (d : Nat) (F : Option bz_V → bz_H → Prop) (bc bs : Nat) (a0 : Nat) (x1 : Int32) (h : bz_H) : Prop := bz_J G κ kX10_payOfRider (d + 1) F bc bs 4 [some (.inr (some a0)), some (.inl x1), some (.inl 0), some (.inl 0)] [] h
set_option maxRecDepth 20000 in
set_option maxHeartbeats 4000000 in
theorem g_X10_payOfRider_0 {G : bz_G} {κ : bz_K} {l : Launch} {d : Nat} {F : Option bz_V → bz_H → Prop} {bc bs : Nat} (hl : κ.2.1 = l) (a0 : Nat) (x1 : Int32) (h : bz_H) (hP0 : w_X10_payOfRider_0 G κ l d F bc bs a0 x1 h) : bz_J G κ kX10_payOfRider (d + 1) F bc bs 0 [some (.inr (some a0)), some (.inl x1), none, none] [] h := by
  subst hl
  unfold w_X10_payOfRider_0 at hP0
  refine bz_iconst (pc := 0) dX10_payOfRider_0 ci_0 ?_
  refine bz_s_istore_n (pc := 1) dX10_payOfRider_1 rfl (Nat.le_of_ble_eq_true rfl) [some (.inr (some a0)), some (.inl x1), some (.inl 0), none] rfl ?_
  refine bz_iconst (pc := 2) dX10_payOfRider_2 ci_0 ?_
  refine bz_s_istore_n (pc := 3) dX10_payOfRider_3 rfl (Nat.le_of_ble_eq_true rfl) [some (.inr (some a0)), some (.inl x1), some (.inl 0), some (.inl 0)] rfl ?_
  exact hP0
def w_X10_payOfRider_4 (G : bz_G) (κ : bz_K) (l : Launch) (d : Nat) (F : Option bz_V → bz_H → Prop) (bc bs : Nat) (a0 : Nat) (x1 : Int32) (x2 : Int32) (x3 : Int32) (h : bz_H) : Prop := bz_rI h a0 10 9 (fun x_1 => (x_1 ≤ x3 → F (some (.inl x2)) h) ∧ (¬ (x_1 ≤ x3) → bz_rR h a0 10 2 (fun r_2 => bz_nn r_2 (fun a_3 => bz_rQ h a_3 x3 (fun r_4 => bz_nn r_4 (fun a_7 => bz_rc h a_7 2 (bz_cI G l d kX2_isGivenTo [.inr (some a_7), .inl x1] h 0 0 (fun x_5 h_6 => (x_5 = 0 → bz_J G κ kX10_payOfRider (d + 1) F bc bs 4 [some (.inr (some a0)), some (.inl x1), some (.inl x2), some (.inl (x3 + 1))] [] h_6) ∧ (¬ (x_5 = 0) → bz_rR h_6 a0 10 2 (fun r_8 => bz_nn r_8 (fun a_9 => bz_rQ h_6 a_9 x3 (fun r_10 => bz_rc h_6 a0 10 (bz_cI G l d kX10_payFor [.inr (some a0), .inr r_10] h_6 0 0 (fun x_11 h_12 => bz_J G κ kX10_payOfRider (d + 1) F bc bs 4 [some (.inr (some a0)), some (.inl x1), some (.inl (x2 + x_11)), some (.inl (x3 + 1))] [] h_12))))))))))))))
set_option maxRecDepth 20000 in
set_option maxHeartbeats 4000000 in
theorem g_X10_payOfRider_4 {G : bz_G} {κ : bz_K} {l : Launch} {d : Nat} {F : Option bz_V → bz_H → Prop} {bc bs : Nat} (hl : κ.2.1 = l) (a0 : Nat) (x1 : Int32) (x2 : Int32) (x3 : Int32) (h : bz_H) (hP0 : w_X10_payOfRider_4 G κ l d F bc bs a0 x1 x2 x3 h) : bz_J G κ kX10_payOfRider (d + 1) F bc bs 4 [some (.inr (some a0)), some (.inl x1), some (.inl x2), some (.inl x3)] [] h := by
  subst hl
  unfold w_X10_payOfRider_4 at hP0
  refine bz_iload_n (pc := 4) dX10_payOfRider_4 rfl rfl ?_
  refine bz_aload_n (pc := 5) dX10_payOfRider_5 rfl rfl ?_
  refine bz_rw_rI (pc := 6) dX10_payOfRider_6 fl_X10_73 hP0 (fun x_1 hP1 => ?_)
  clear hP0
  refine bz_icmp_ge (tgt := 44) (pc := 9) dX10_payOfRider_9 rfl (fun c => ?_) (fun c => ?_)
  · have hP2 := hP1.1 c
    clear hP1
    refine bz_iload_n (pc := 44) dX10_payOfRider_44 rfl rfl ?_
    exact bz_retI (pc := 45) dX10_payOfRider_45 rfl rfl hP2
  · have hP3 := hP1.2 c
    clear hP1
    refine bz_aload_n (pc := 12) dX10_payOfRider_12 rfl rfl ?_
    refine bz_rw_rR (pc := 13) dX10_payOfRider_13 fl_X10_29 hP3 (fun r_2 hP4 => ?_)
    clear hP3
    refine bz_iload_n (pc := 16) dX10_payOfRider_16 rfl rfl ?_
    obtain ⟨a_3, rfl, hP5⟩ := hP4
    refine bz_rw_ldq (pc := 17) dX10_payOfRider_17 hP5 (fun r_4 hP6 => ?_)
    clear hP5
    refine bz_iload_n (pc := 18) dX10_payOfRider_18 rfl rfl ?_
    obtain ⟨a_7, rfl, hP7⟩ := hP6
    refine bz_kIV (as := [.inl x1]) (st := []) (ci := 2) (n := 1) (mc := 0) (ms := 0) (bc := bc) (bs := bs) (yc := kX2_isGivenTo) (q := (RX2, TX2, 15)) (b := a_7) (pc := 19) dX10_payOfRider_19 sc_X2_isGivenTo ml_X10_177 im_X2_isGivenTo se_X2_isGivenTo rfl rfl rfl (Nat.le_of_ble_eq_true rfl) hP7 (fun x_5 h_6 hP8 => ?_)
    clear hP7
    refine bz_if_eq (tgt := 38) (pc := 22) dX10_payOfRider_22 rfl (fun c => ?_) (fun c => ?_)
    · have hP9 := hP8.1 c
      clear hP8
      refine bz_s_iinc (pc := 38) dX10_payOfRider_38 (Nat.le_of_ble_eq_true rfl) rfl rfl [some (.inr (some a0)), some (.inl x1), some (.inl x2), some (.inl (x3 + 1))] rfl ?_
      refine bz_goto (tgt := 4) (pc := 41) dX10_payOfRider_41 rfl ?_
      exact hP9
    · have hP10 := hP8.2 c
      clear hP8
      refine bz_iload_n (pc := 25) dX10_payOfRider_25 rfl rfl ?_
      refine bz_aload_n (pc := 26) dX10_payOfRider_26 rfl rfl ?_
      refine bz_aload_n (pc := 27) dX10_payOfRider_27 rfl rfl ?_
      refine bz_rw_rR (pc := 28) dX10_payOfRider_28 fl_X10_29 hP10 (fun r_8 hP11 => ?_)
      clear hP10
      refine bz_iload_n (pc := 31) dX10_payOfRider_31 rfl rfl ?_
      obtain ⟨a_9, rfl, hP12⟩ := hP11
      refine bz_rw_ldq (pc := 32) dX10_payOfRider_32 hP12 (fun r_10 hP13 => ?_)
      clear hP12
      refine bz_kIV (as := [.inr r_10]) (st := [.inl x2]) (ci := 10) (n := 1) (mc := 0) (ms := 0) (bc := bc) (bs := bs) (yc := kX10_payFor) (q := (RX10, TX10, 16)) (b := a0) (pc := 33) dX10_payOfRider_33 sc_X10_payFor ml_X10_181 im_X10_payFor se_X10_payFor rfl rfl rfl (Nat.le_of_ble_eq_true rfl) hP13 (fun x_11 h_12 hP14 => ?_)
      clear hP13
      refine bz_iadd (pc := 36) dX10_payOfRider_36 ?_
      refine bz_s_istore_n (pc := 37) dX10_payOfRider_37 rfl (Nat.le_of_ble_eq_true rfl) [some (.inr (some a0)), some (.inl x1), some (.inl (x2 + x_11)), some (.inl x3)] rfl ?_
      refine bz_s_iinc (pc := 38) dX10_payOfRider_38 (Nat.le_of_ble_eq_true rfl) rfl rfl [some (.inr (some a0)), some (.inl x1), some (.inl (x2 + x_11)), some (.inl (x3 + 1))] rfl ?_
      refine bz_goto (tgt := 4) (pc := 41) dX10_payOfRider_41 rfl ?_
      exact hP14
theorem m_X10_payOfRider {G : bz_G} {l : Launch} {d mc ms : Nat} {F : Option bz_V → bz_H → Prop} (a0 : Nat) (x1 : Int32) (h : bz_H) (hP : ∀ (κ : bz_K) (bc bs : Nat), κ.2.1 = l → w_X10_payOfRider_0 G κ l d F bc bs a0 x1 h) : bz_Call G l (d + 1) kX10_payOfRider [.inr (some a0), .inl x1] h mc ms F :=
  bz_body (by decide) (Nat.le_of_ble_eq_true rfl) (fun κ hl => g_X10_payOfRider_0 hl a0 x1 h (hP κ mc ms hl))
def w_X10_ratingOfRider_0 (G : bz_G) (κ : bz_K) (l : Launch) (d : Nat) (F : Option bz_V → bz_H → Prop) (bc bs : Nat) (a0 : Nat) (x1 : Int32) (h : bz_H) : Prop := bz_J G κ kX10_ratingOfRider (d + 1) F bc bs 7 [some (.inr (some a0)), some (.inl x1), some (.inl 0), some (.inl 0), some (.inl 0)] [] h
set_option maxRecDepth 20000 in
set_option maxHeartbeats 4000000 in
theorem g_X10_ratingOfRider_0 {G : bz_G} {κ : bz_K} {l : Launch} {d : Nat} {F : Option bz_V → bz_H → Prop} {bc bs : Nat} (hl : κ.2.1 = l) (a0 : Nat) (x1 : Int32) (h : bz_H) (hP0 : w_X10_ratingOfRider_0 G κ l d F bc bs a0 x1 h) : bz_J G κ kX10_ratingOfRider (d + 1) F bc bs 0 [some (.inr (some a0)), some (.inl x1), none, none, none] [] h := by
  subst hl
  unfold w_X10_ratingOfRider_0 at hP0
  refine bz_iconst (pc := 0) dX10_ratingOfRider_0 ci_0 ?_
  refine bz_s_istore_n (pc := 1) dX10_ratingOfRider_1 rfl (Nat.le_of_ble_eq_true rfl) [some (.inr (some a0)), some (.inl x1), some (.inl 0), none, none] rfl ?_
  refine bz_iconst (pc := 2) dX10_ratingOfRider_2 ci_0 ?_
  refine bz_s_istore_n (pc := 3) dX10_ratingOfRider_3 rfl (Nat.le_of_ble_eq_true rfl) [some (.inr (some a0)), some (.inl x1), some (.inl 0), some (.inl 0), none] rfl ?_
  refine bz_iconst (pc := 4) dX10_ratingOfRider_4 ci_0 ?_
  refine bz_s_istore (pc := 5) dX10_ratingOfRider_5 (Nat.le_of_ble_eq_true rfl) [some (.inr (some a0)), some (.inl x1), some (.inl 0), some (.inl 0), some (.inl 0)] rfl ?_
  exact hP0
def w_X10_ratingOfRider_7 (G : bz_G) (κ : bz_K) (l : Launch) (d : Nat) (F : Option bz_V → bz_H → Prop) (bc bs : Nat) (a0 : Nat) (x1 : Int32) (x2 : Int32) (x3 : Int32) (x4 : Int32) (h : bz_H) : Prop := bz_rI h a0 10 9 (fun x_1 => (x_1 ≤ x4 → (¬ x3 = 0 → (¬ x3 = 0) ∧ (F (some (.inl (x2 / x3))) h)) ∧ (x3 = 0 → F (some (.inl 25)) h)) ∧ (¬ (x_1 ≤ x4) → bz_rR h a0 10 2 (fun r_2 => bz_nn r_2 (fun a_3 => bz_rQ h a_3 x4 (fun r_4 => bz_nn r_4 (fun a_7 => bz_rc h a_7 2 (bz_cI G l d kX2_isGivenTo [.inr (some a_7), .inl x1] h 0 0 (fun x_5 h_6 => (x_5 = 0 → bz_J G κ kX10_ratingOfRider (d + 1) F bc bs 7 [some (.inr (some a0)), some (.inl x1), some (.inl x2), some (.inl x3), some (.inl (x4 + 1))] [] h_6) ∧ (¬ (x_5 = 0) → bz_rR h_6 a0 10 2 (fun r_8 => bz_nn r_8 (fun a_9 => bz_rQ h_6 a_9 x4 (fun r_10 => bz_nn r_10 (fun a_11 => bz_rI h_6 a_11 2 12 (fun x_12 => bz_J G κ kX10_ratingOfRider (d + 1) F bc bs 7 [some (.inr (some a0)), some (.inl x1), some (.inl (x2 + x_12)), some (.inl (x3 + 1)), some (.inl (x4 + 1))] [] h_6))))))))))))))
set_option maxRecDepth 20000 in
set_option maxHeartbeats 4000000 in
theorem g_X10_ratingOfRider_7 {G : bz_G} {κ : bz_K} {l : Launch} {d : Nat} {F : Option bz_V → bz_H → Prop} {bc bs : Nat} (hl : κ.2.1 = l) (a0 : Nat) (x1 : Int32) (x2 : Int32) (x3 : Int32) (x4 : Int32) (h : bz_H) (hP0 : w_X10_ratingOfRider_7 G κ l d F bc bs a0 x1 x2 x3 x4 h) : bz_J G κ kX10_ratingOfRider (d + 1) F bc bs 7 [some (.inr (some a0)), some (.inl x1), some (.inl x2), some (.inl x3), some (.inl x4)] [] h := by
  subst hl
  unfold w_X10_ratingOfRider_7 at hP0
  refine bz_iload (pc := 7) dX10_ratingOfRider_7 rfl ?_
  refine bz_aload_n (pc := 9) dX10_ratingOfRider_9 rfl rfl ?_
  refine bz_rw_rI (pc := 10) dX10_ratingOfRider_10 fl_X10_73 hP0 (fun x_1 hP1 => ?_)
  clear hP0
  refine bz_icmp_ge (tgt := 52) (pc := 13) dX10_ratingOfRider_13 rfl (fun c => ?_) (fun c => ?_)
  · have hP2 := hP1.1 c
    clear hP1
    refine bz_iload_n (pc := 52) dX10_ratingOfRider_52 rfl rfl ?_
    refine bz_if_ne (tgt := 61) (pc := 53) dX10_ratingOfRider_53 rfl (fun c => ?_) (fun c => ?_)
    · have hP3 := hP2.1 c
      clear hP2
      refine bz_iload_n (pc := 61) dX10_ratingOfRider_61 rfl rfl ?_
      refine bz_iload_n (pc := 62) dX10_ratingOfRider_62 rfl rfl ?_
      obtain ⟨hz, hP4⟩ := hP3
      refine bz_idiv (pc := 63) dX10_ratingOfRider_63 hz ?_
      exact bz_retI (pc := 64) dX10_ratingOfRider_64 rfl rfl hP4
    · have hP5 := hP2.2 c
      clear hP2
      refine bz_bipush (pc := 56) dX10_ratingOfRider_56 cb_25 ?_
      refine bz_goto (tgt := 64) (pc := 58) dX10_ratingOfRider_58 rfl ?_
      exact bz_retI (pc := 64) dX10_ratingOfRider_64 rfl rfl hP5
  · have hP6 := hP1.2 c
    clear hP1
    refine bz_aload_n (pc := 16) dX10_ratingOfRider_16 rfl rfl ?_
    refine bz_rw_rR (pc := 17) dX10_ratingOfRider_17 fl_X10_29 hP6 (fun r_2 hP7 => ?_)
    clear hP6
    refine bz_iload (pc := 20) dX10_ratingOfRider_20 rfl ?_
    obtain ⟨a_3, rfl, hP8⟩ := hP7
    refine bz_rw_ldq (pc := 22) dX10_ratingOfRider_22 hP8 (fun r_4 hP9 => ?_)
    clear hP8
    refine bz_iload_n (pc := 23) dX10_ratingOfRider_23 rfl rfl ?_
    obtain ⟨a_7, rfl, hP10⟩ := hP9
    refine bz_kIV (as := [.inl x1]) (st := []) (ci := 2) (n := 1) (mc := 0) (ms := 0) (bc := bc) (bs := bs) (yc := kX2_isGivenTo) (q := (RX2, TX2, 15)) (b := a_7) (pc := 24) dX10_ratingOfRider_24 sc_X2_isGivenTo ml_X10_177 im_X2_isGivenTo se_X2_isGivenTo rfl rfl rfl (Nat.le_of_ble_eq_true rfl) hP10 (fun x_5 h_6 hP11 => ?_)
    clear hP10
    refine bz_if_eq (tgt := 46) (pc := 27) dX10_ratingOfRider_27 rfl (fun c => ?_) (fun c => ?_)
    · have hP12 := hP11.1 c
      clear hP11
      refine bz_s_iinc (pc := 46) dX10_ratingOfRider_46 (Nat.le_of_ble_eq_true rfl) rfl rfl [some (.inr (some a0)), some (.inl x1), some (.inl x2), some (.inl x3), some (.inl (x4 + 1))] rfl ?_
      refine bz_goto (tgt := 7) (pc := 49) dX10_ratingOfRider_49 rfl ?_
      exact hP12
    · have hP13 := hP11.2 c
      clear hP11
      refine bz_iload_n (pc := 30) dX10_ratingOfRider_30 rfl rfl ?_
      refine bz_aload_n (pc := 31) dX10_ratingOfRider_31 rfl rfl ?_
      refine bz_rw_rR (pc := 32) dX10_ratingOfRider_32 fl_X10_29 hP13 (fun r_8 hP14 => ?_)
      clear hP13
      refine bz_iload (pc := 35) dX10_ratingOfRider_35 rfl ?_
      obtain ⟨a_9, rfl, hP15⟩ := hP14
      refine bz_rw_ldq (pc := 37) dX10_ratingOfRider_37 hP15 (fun r_10 hP16 => ?_)
      clear hP15
      obtain ⟨a_11, rfl, hP17⟩ := hP16
      refine bz_rw_rI (pc := 38) dX10_ratingOfRider_38 fl_X10_185 hP17 (fun x_12 hP18 => ?_)
      clear hP17
      refine bz_iadd (pc := 41) dX10_ratingOfRider_41 ?_
      refine bz_s_istore_n (pc := 42) dX10_ratingOfRider_42 rfl (Nat.le_of_ble_eq_true rfl) [some (.inr (some a0)), some (.inl x1), some (.inl (x2 + x_12)), some (.inl x3), some (.inl x4)] rfl ?_
      refine bz_s_iinc (pc := 43) dX10_ratingOfRider_43 (Nat.le_of_ble_eq_true rfl) rfl rfl [some (.inr (some a0)), some (.inl x1), some (.inl (x2 + x_12)), some (.inl (x3 + 1)), some (.inl x4)] rfl ?_
      refine bz_s_iinc (pc := 46) dX10_ratingOfRider_46 (Nat.le_of_ble_eq_true rfl) rfl rfl [some (.inr (some a0)), some (.inl x1), some (.inl (x2 + x_12)), some (.inl (x3 + 1)), some (.inl (x4 + 1))] rfl ?_
      refine bz_goto (tgt := 7) (pc := 49) dX10_ratingOfRider_49 rfl ?_
      exact hP18
theorem m_X10_ratingOfRider {G : bz_G} {l : Launch} {d mc ms : Nat} {F : Option bz_V → bz_H → Prop} (a0 : Nat) (x1 : Int32) (h : bz_H) (hP : ∀ (κ : bz_K) (bc bs : Nat), κ.2.1 = l → w_X10_ratingOfRider_0 G κ l d F bc bs a0 x1 h) : bz_Call G l (d + 1) kX10_ratingOfRider [.inr (some a0), .inl x1] h mc ms F :=
  bz_body (by decide) (Nat.le_of_ble_eq_true rfl) (fun κ hl => g_X10_ratingOfRider_0 hl a0 x1 h (hP κ mc ms hl))
def w_X10_riderAt_0 (G : bz_G) (l : Launch) (d : Nat) (F : Option bz_V → bz_H → Prop) (a0 : Nat) (x1 : Int32) (h : bz_H) : Prop := bz_rI h a0 10 10 (fun x_1 => bz_cI G l d kX11_isWithin [.inl x1, .inl 0, .inl (x_1 - 1)] h 0 0 (fun x_2 h_3 => (x_2 = 0 → F (some (.inr none)) h_3) ∧ (¬ (x_2 = 0) → bz_rR h_3 a0 10 3 (fun r_4 => bz_nn r_4 (fun a_5 => bz_rQ h_3 a_5 x1 (fun r_6 => F (some (.inr r_6)) h_3))))))
set_option maxRecDepth 20000 in
set_option maxHeartbeats 4000000 in
theorem g_X10_riderAt_0 {G : bz_G} {κ : bz_K} {l : Launch} {d : Nat} {F : Option bz_V → bz_H → Prop} {bc bs : Nat} (hl : κ.2.1 = l) (a0 : Nat) (x1 : Int32) (h : bz_H) (hP0 : w_X10_riderAt_0 G l d F a0 x1 h) : bz_J G κ kX10_riderAt (d + 1) F bc bs 0 [some (.inr (some a0)), some (.inl x1)] [] h := by
  subst hl
  unfold w_X10_riderAt_0 at hP0
  refine bz_iload_n (pc := 0) dX10_riderAt_0 rfl rfl ?_
  refine bz_iconst (pc := 1) dX10_riderAt_1 ci_0 ?_
  refine bz_aload_n (pc := 2) dX10_riderAt_2 rfl rfl ?_
  refine bz_rw_rI (pc := 3) dX10_riderAt_3 fl_X10_80 hP0 (fun x_1 hP1 => ?_)
  clear hP0
  refine bz_iconst (pc := 6) dX10_riderAt_6 ci_1 ?_
  refine bz_isub (pc := 7) dX10_riderAt_7 ?_
  refine bz_kISN (as := [.inl x1, .inl 0, .inl (x_1 - 1)]) (st := []) (n := 3) (mc := 0) (ms := 0) (bc := bc) (bs := bs) (yc := kX11_isWithin) (host := RX11) (pc := 8) dX10_riderAt_8 sc_X11_isWithin ml_X10_76 ss_X11_isWithin rfl (Nat.le_of_ble_eq_true rfl) hP1 (fun x_2 h_3 hP2 => ?_)
  clear hP1
  refine bz_if_eq (tgt := 23) (pc := 11) dX10_riderAt_11 rfl (fun c => ?_) (fun c => ?_)
  · have hP3 := hP2.1 c
    clear hP2
    refine bz_null (pc := 23) dX10_riderAt_23 ?_
    exact bz_retR (pc := 24) dX10_riderAt_24 rfl (by first | exact Or.inl ⟨_, rfl⟩ | exact Or.inr ⟨_, rfl⟩) hP3
  · have hP4 := hP2.2 c
    clear hP2
    refine bz_aload_n (pc := 14) dX10_riderAt_14 rfl rfl ?_
    refine bz_rw_rR (pc := 15) dX10_riderAt_15 fl_X10_35 hP4 (fun r_4 hP5 => ?_)
    clear hP4
    refine bz_iload_n (pc := 18) dX10_riderAt_18 rfl rfl ?_
    obtain ⟨a_5, rfl, hP6⟩ := hP5
    refine bz_rw_ldq (pc := 19) dX10_riderAt_19 hP6 (fun r_6 hP7 => ?_)
    clear hP6
    refine bz_goto (tgt := 24) (pc := 20) dX10_riderAt_20 rfl ?_
    exact bz_retR (pc := 24) dX10_riderAt_24 rfl (by first | exact Or.inl ⟨_, rfl⟩ | exact Or.inr ⟨_, rfl⟩) hP7
theorem m_X10_riderAt {G : bz_G} {l : Launch} {d mc ms : Nat} {F : Option bz_V → bz_H → Prop} (a0 : Nat) (x1 : Int32) (h : bz_H) (hP : w_X10_riderAt_0 G l d F a0 x1 h) : bz_Call G l (d + 1) kX10_riderAt [.inr (some a0), .inl x1] h mc ms F :=
  bz_body (by decide) (Nat.le_of_ble_eq_true rfl) (fun κ hl => g_X10_riderAt_0 hl a0 x1 h hP)
def w_X10_textAt_0 (G : bz_G) (l : Launch) (d : Nat) (F : Option bz_V → bz_H → Prop) (a0 : Nat) (x1 : Int32) (h : bz_H) : Prop := bz_rI h a0 10 11 (fun x_1 => bz_cI G l d kX11_isWithin [.inl x1, .inl 0, .inl (x_1 - 1)] h 0 0 (fun x_2 h_3 => (x_2 = 0 → F (some (.inr none)) h_3) ∧ (¬ (x_2 = 0) → bz_rR h_3 a0 10 4 (fun r_4 => bz_nn r_4 (fun a_5 => bz_rQ h_3 a_5 x1 (fun r_6 => F (some (.inr r_6)) h_3))))))
set_option maxRecDepth 20000 in
set_option maxHeartbeats 4000000 in
theorem g_X10_textAt_0 {G : bz_G} {κ : bz_K} {l : Launch} {d : Nat} {F : Option bz_V → bz_H → Prop} {bc bs : Nat} (hl : κ.2.1 = l) (a0 : Nat) (x1 : Int32) (h : bz_H) (hP0 : w_X10_textAt_0 G l d F a0 x1 h) : bz_J G κ kX10_textAt (d + 1) F bc bs 0 [some (.inr (some a0)), some (.inl x1)] [] h := by
  subst hl
  unfold w_X10_textAt_0 at hP0
  refine bz_iload_n (pc := 0) dX10_textAt_0 rfl rfl ?_
  refine bz_iconst (pc := 1) dX10_textAt_1 ci_0 ?_
  refine bz_aload_n (pc := 2) dX10_textAt_2 rfl rfl ?_
  refine bz_rw_rI (pc := 3) dX10_textAt_3 fl_X10_83 hP0 (fun x_1 hP1 => ?_)
  clear hP0
  refine bz_iconst (pc := 6) dX10_textAt_6 ci_1 ?_
  refine bz_isub (pc := 7) dX10_textAt_7 ?_
  refine bz_kISN (as := [.inl x1, .inl 0, .inl (x_1 - 1)]) (st := []) (n := 3) (mc := 0) (ms := 0) (bc := bc) (bs := bs) (yc := kX11_isWithin) (host := RX11) (pc := 8) dX10_textAt_8 sc_X11_isWithin ml_X10_76 ss_X11_isWithin rfl (Nat.le_of_ble_eq_true rfl) hP1 (fun x_2 h_3 hP2 => ?_)
  clear hP1
  refine bz_if_eq (tgt := 23) (pc := 11) dX10_textAt_11 rfl (fun c => ?_) (fun c => ?_)
  · have hP3 := hP2.1 c
    clear hP2
    refine bz_null (pc := 23) dX10_textAt_23 ?_
    exact bz_retR (pc := 24) dX10_textAt_24 rfl (by first | exact Or.inl ⟨_, rfl⟩ | exact Or.inr ⟨_, rfl⟩) hP3
  · have hP4 := hP2.2 c
    clear hP2
    refine bz_aload_n (pc := 14) dX10_textAt_14 rfl rfl ?_
    refine bz_rw_rR (pc := 15) dX10_textAt_15 fl_X10_41 hP4 (fun r_4 hP5 => ?_)
    clear hP4
    refine bz_iload_n (pc := 18) dX10_textAt_18 rfl rfl ?_
    obtain ⟨a_5, rfl, hP6⟩ := hP5
    refine bz_rw_ldq (pc := 19) dX10_textAt_19 hP6 (fun r_6 hP7 => ?_)
    clear hP6
    refine bz_goto (tgt := 24) (pc := 20) dX10_textAt_20 rfl ?_
    exact bz_retR (pc := 24) dX10_textAt_24 rfl (by first | exact Or.inl ⟨_, rfl⟩ | exact Or.inr ⟨_, rfl⟩) hP7
theorem m_X10_textAt {G : bz_G} {l : Launch} {d mc ms : Nat} {F : Option bz_V → bz_H → Prop} (a0 : Nat) (x1 : Int32) (h : bz_H) (hP : w_X10_textAt_0 G l d F a0 x1 h) : bz_Call G l (d + 1) kX10_textAt [.inr (some a0), .inl x1] h mc ms F :=
  bz_body (by decide) (Nat.le_of_ble_eq_true rfl) (fun κ hl => g_X10_textAt_0 hl a0 x1 h hP)
def w_X10_waitingIn_0 (G : bz_G) (κ : bz_K) (l : Launch) (d : Nat) (F : Option bz_V → bz_H → Prop) (bc bs : Nat) (a0 : Nat) (x1 : Int32) (x2 : Int32) (h : bz_H) : Prop := bz_J G κ kX10_waitingIn (d + 1) F bc bs 5 [some (.inr (some a0)), some (.inl x1), some (.inl x2), some (.inl 0), some (.inl 0), none] [] h
set_option maxRecDepth 20000 in
set_option maxHeartbeats 4000000 in
theorem g_X10_waitingIn_0 {G : bz_G} {κ : bz_K} {l : Launch} {d : Nat} {F : Option bz_V → bz_H → Prop} {bc bs : Nat} (hl : κ.2.1 = l) (a0 : Nat) (x1 : Int32) (x2 : Int32) (h : bz_H) (hP0 : w_X10_waitingIn_0 G κ l d F bc bs a0 x1 x2 h) : bz_J G κ kX10_waitingIn (d + 1) F bc bs 0 [some (.inr (some a0)), some (.inl x1), some (.inl x2), none, none, none] [] h := by
  subst hl
  unfold w_X10_waitingIn_0 at hP0
  refine bz_iconst (pc := 0) dX10_waitingIn_0 ci_0 ?_
  refine bz_s_istore_n (pc := 1) dX10_waitingIn_1 rfl (Nat.le_of_ble_eq_true rfl) [some (.inr (some a0)), some (.inl x1), some (.inl x2), some (.inl 0), none, none] rfl ?_
  refine bz_iconst (pc := 2) dX10_waitingIn_2 ci_0 ?_
  refine bz_s_istore (pc := 3) dX10_waitingIn_3 (Nat.le_of_ble_eq_true rfl) [some (.inr (some a0)), some (.inl x1), some (.inl x2), some (.inl 0), some (.inl 0), none] rfl ?_
  exact hP0
def w_X10_waitingIn_5 (G : bz_G) (κ : bz_K) (l : Launch) (d : Nat) (F : Option bz_V → bz_H → Prop) (bc bs : Nat) (a0 : Nat) (x1 : Int32) (x2 : Int32) (x3 : Int32) (x4 : Int32) (u5 : Option bz_V) (h : bz_H) : Prop := bz_rI h a0 10 9 (fun x_1 => (x_1 ≤ x4 → F (some (.inl x3)) h) ∧ (¬ (x_1 ≤ x4) → bz_rR h a0 10 2 (fun r_2 => bz_nn r_2 (fun a_3 => bz_rQ h a_3 x4 (fun r_4 => bz_nn r_4 (fun a_5 => bz_rI h a_5 2 7 (fun x_6 => (¬ x_6 = 0 → bz_J G κ kX10_waitingIn (d + 1) F bc bs 5 [some (.inr (some a0)), some (.inl x1), some (.inl x2), some (.inl x3), some (.inl (x4 + 1)), some (.inr (some a_5))] [] h) ∧ (x_6 = 0 → bz_rR h a0 10 0 (fun r_7 => bz_nn r_7 (fun a_8 => bz_rR h a_8 8 1 (fun r_9 => bz_rI h a_5 2 2 (fun x_10 => bz_nn r_9 (fun a_11 => bz_rA h a_11 x_10 (fun x_12 => (¬ x_12 = x1 → bz_J G κ kX10_waitingIn (d + 1) F bc bs 5 [some (.inr (some a0)), some (.inl x1), some (.inl x2), some (.inl x3), some (.inl (x4 + 1)), some (.inr (some a_5))] [] h) ∧ (x_12 = x1 → bz_rI h a0 10 12 (fun x_13 => bz_rI h a_5 2 3 (fun x_14 => ((x_13 - x_14) ≤ x2 → bz_J G κ kX10_waitingIn (d + 1) F bc bs 5 [some (.inr (some a0)), some (.inl x1), some (.inl x2), some (.inl x3), some (.inl (x4 + 1)), some (.inr (some a_5))] [] h) ∧ (¬ ((x_13 - x_14) ≤ x2) → bz_J G κ kX10_waitingIn (d + 1) F bc bs 5 [some (.inr (some a0)), some (.inl x1), some (.inl x2), some (.inl (x3 + 1)), some (.inl (x4 + 1)), some (.inr (some a_5))] [] h))))))))))))))))))
set_option maxRecDepth 20000 in
set_option maxHeartbeats 4000000 in
theorem g_X10_waitingIn_5 {G : bz_G} {κ : bz_K} {l : Launch} {d : Nat} {F : Option bz_V → bz_H → Prop} {bc bs : Nat} (hl : κ.2.1 = l) (a0 : Nat) (x1 : Int32) (x2 : Int32) (x3 : Int32) (x4 : Int32) (u5 : Option bz_V) (h : bz_H) (hP0 : w_X10_waitingIn_5 G κ l d F bc bs a0 x1 x2 x3 x4 u5 h) : bz_J G κ kX10_waitingIn (d + 1) F bc bs 5 [some (.inr (some a0)), some (.inl x1), some (.inl x2), some (.inl x3), some (.inl x4), u5] [] h := by
  subst hl
  unfold w_X10_waitingIn_5 at hP0
  refine bz_iload (pc := 5) dX10_waitingIn_5 rfl ?_
  refine bz_aload_n (pc := 7) dX10_waitingIn_7 rfl rfl ?_
  refine bz_rw_rI (pc := 8) dX10_waitingIn_8 fl_X10_73 hP0 (fun x_1 hP1 => ?_)
  clear hP0
  refine bz_icmp_ge (tgt := 71) (pc := 11) dX10_waitingIn_11 rfl (fun c => ?_) (fun c => ?_)
  · have hP2 := hP1.1 c
    clear hP1
    refine bz_iload_n (pc := 71) dX10_waitingIn_71 rfl rfl ?_
    exact bz_retI (pc := 72) dX10_waitingIn_72 rfl rfl hP2
  · have hP3 := hP1.2 c
    clear hP1
    refine bz_aload_n (pc := 14) dX10_waitingIn_14 rfl rfl ?_
    refine bz_rw_rR (pc := 15) dX10_waitingIn_15 fl_X10_29 hP3 (fun r_2 hP4 => ?_)
    clear hP3
    refine bz_iload (pc := 18) dX10_waitingIn_18 rfl ?_
    obtain ⟨a_3, rfl, hP5⟩ := hP4
    refine bz_rw_ldq (pc := 20) dX10_waitingIn_20 hP5 (fun r_4 hP6 => ?_)
    clear hP5
    refine bz_s_astore (pc := 21) dX10_waitingIn_21 (Nat.le_of_ble_eq_true rfl) [some (.inr (some a0)), some (.inl x1), some (.inl x2), some (.inl x3), some (.inl x4), some (.inr r_4)] rfl ?_
    refine bz_aload (pc := 23) dX10_waitingIn_23 rfl ?_
    obtain ⟨a_5, rfl, hP7⟩ := hP6
    refine bz_rw_rI (pc := 25) dX10_waitingIn_25 fl_X10_114 hP7 (fun x_6 hP8 => ?_)
    clear hP7
    refine bz_if_ne (tgt := 65) (pc := 28) dX10_waitingIn_28 rfl (fun c => ?_) (fun c => ?_)
    · have hP9 := hP8.1 c
      clear hP8
      refine bz_s_iinc (pc := 65) dX10_waitingIn_65 (Nat.le_of_ble_eq_true rfl) rfl rfl [some (.inr (some a0)), some (.inl x1), some (.inl x2), some (.inl x3), some (.inl (x4 + 1)), some (.inr (some a_5))] rfl ?_
      refine bz_goto (tgt := 5) (pc := 68) dX10_waitingIn_68 rfl ?_
      exact hP9
    · have hP10 := hP8.2 c
      clear hP8
      refine bz_aload_n (pc := 31) dX10_waitingIn_31 rfl rfl ?_
      refine bz_rw_rR (pc := 32) dX10_waitingIn_32 fl_X10_12 hP10 (fun r_7 hP11 => ?_)
      clear hP10
      obtain ⟨a_8, rfl, hP12⟩ := hP11
      refine bz_rw_rR (pc := 35) dX10_waitingIn_35 fl_X10_209 hP12 (fun r_9 hP13 => ?_)
      clear hP12
      refine bz_aload (pc := 38) dX10_waitingIn_38 rfl ?_
      refine bz_rw_rI (pc := 40) dX10_waitingIn_40 fl_X10_96 hP13 (fun x_10 hP14 => ?_)
      clear hP13
      obtain ⟨a_11, rfl, hP15⟩ := hP14
      refine bz_rw_rA (pc := 43) dX10_waitingIn_43 hP15 (fun x_12 hP16 => ?_)
      clear hP15
      refine bz_iload_n (pc := 44) dX10_waitingIn_44 rfl rfl ?_
      refine bz_icmp_ne (tgt := 65) (pc := 45) dX10_waitingIn_45 rfl (fun c => ?_) (fun c => ?_)
      · have hP17 := hP16.1 c
        clear hP16
        refine bz_s_iinc (pc := 65) dX10_waitingIn_65 (Nat.le_of_ble_eq_true rfl) rfl rfl [some (.inr (some a0)), some (.inl x1), some (.inl x2), some (.inl x3), some (.inl (x4 + 1)), some (.inr (some a_5))] rfl ?_
        refine bz_goto (tgt := 5) (pc := 68) dX10_waitingIn_68 rfl ?_
        exact hP17
      · have hP18 := hP16.2 c
        clear hP16
        refine bz_aload_n (pc := 48) dX10_waitingIn_48 rfl rfl ?_
        refine bz_rw_rI (pc := 49) dX10_waitingIn_49 fl_X10_99 hP18 (fun x_13 hP19 => ?_)
        clear hP18
        refine bz_aload (pc := 52) dX10_waitingIn_52 rfl ?_
        refine bz_rw_rI (pc := 54) dX10_waitingIn_54 fl_X10_102 hP19 (fun x_14 hP20 => ?_)
        clear hP19
        refine bz_isub (pc := 57) dX10_waitingIn_57 ?_
        refine bz_iload_n (pc := 58) dX10_waitingIn_58 rfl rfl ?_
        refine bz_icmp_le (tgt := 65) (pc := 59) dX10_waitingIn_59 rfl (fun c => ?_) (fun c => ?_)
        · have hP21 := hP20.1 c
          clear hP20
          refine bz_s_iinc (pc := 65) dX10_waitingIn_65 (Nat.le_of_ble_eq_true rfl) rfl rfl [some (.inr (some a0)), some (.inl x1), some (.inl x2), some (.inl x3), some (.inl (x4 + 1)), some (.inr (some a_5))] rfl ?_
          refine bz_goto (tgt := 5) (pc := 68) dX10_waitingIn_68 rfl ?_
          exact hP21
        · have hP22 := hP20.2 c
          clear hP20
          refine bz_s_iinc (pc := 62) dX10_waitingIn_62 (Nat.le_of_ble_eq_true rfl) rfl rfl [some (.inr (some a0)), some (.inl x1), some (.inl x2), some (.inl (x3 + 1)), some (.inl x4), some (.inr (some a_5))] rfl ?_
          refine bz_s_iinc (pc := 65) dX10_waitingIn_65 (Nat.le_of_ble_eq_true rfl) rfl rfl [some (.inr (some a0)), some (.inl x1), some (.inl x2), some (.inl (x3 + 1)), some (.inl (x4 + 1)), some (.inr (some a_5))] rfl ?_
          refine bz_goto (tgt := 5) (pc := 68) dX10_waitingIn_68 rfl ?_
          exact hP22
theorem m_X10_waitingIn {G : bz_G} {l : Launch} {d mc ms : Nat} {F : Option bz_V → bz_H → Prop} (a0 : Nat) (x1 : Int32) (x2 : Int32) (h : bz_H) (hP : ∀ (κ : bz_K) (bc bs : Nat), κ.2.1 = l → w_X10_waitingIn_0 G κ l d F bc bs a0 x1 x2 h) : bz_Call G l (d + 1) kX10_waitingIn [.inr (some a0), .inl x1, .inl x2] h mc ms F :=
  bz_body (by decide) (Nat.le_of_ble_eq_true rfl) (fun κ hl => g_X10_waitingIn_0 hl a0 x1 x2 h (hP κ mc ms hl))
def w_X10_waitingOrders_0 (G : bz_G) (κ : bz_K) (l : Launch) (d : Nat) (F : Option bz_V → bz_H → Prop) (bc bs : Nat) (a0 : Nat) (h : bz_H) : Prop := bz_J G κ kX10_waitingOrders (d + 1) F bc bs 4 [some (.inr (some a0)), some (.inl 0), some (.inl 0)] [] h
set_option maxRecDepth 20000 in
set_option maxHeartbeats 4000000 in
theorem g_X10_waitingOrders_0 {G : bz_G} {κ : bz_K} {l : Launch} {d : Nat} {F : Option bz_V → bz_H → Prop} {bc bs : Nat} (hl : κ.2.1 = l) (a0 : Nat) (h : bz_H) (hP0 : w_X10_waitingOrders_0 G κ l d F bc bs a0 h) : bz_J G κ kX10_waitingOrders (d + 1) F bc bs 0 [some (.inr (some a0)), none, none] [] h := by
  subst hl
  unfold w_X10_waitingOrders_0 at hP0
  refine bz_iconst (pc := 0) dX10_waitingOrders_0 ci_0 ?_
  refine bz_s_istore_n (pc := 1) dX10_waitingOrders_1 rfl (Nat.le_of_ble_eq_true rfl) [some (.inr (some a0)), some (.inl 0), none] rfl ?_
  refine bz_iconst (pc := 2) dX10_waitingOrders_2 ci_0 ?_
  refine bz_s_istore_n (pc := 3) dX10_waitingOrders_3 rfl (Nat.le_of_ble_eq_true rfl) [some (.inr (some a0)), some (.inl 0), some (.inl 0)] rfl ?_
  exact hP0
def w_X10_waitingOrders_4 (G : bz_G) (κ : bz_K) (l : Launch) (d : Nat) (F : Option bz_V → bz_H → Prop) (bc bs : Nat) (a0 : Nat) (x1 : Int32) (x2 : Int32) (h : bz_H) : Prop := bz_rI h a0 10 9 (fun x_1 => (x_1 ≤ x2 → F (some (.inl x1)) h) ∧ (¬ (x_1 ≤ x2) → bz_rR h a0 10 2 (fun r_2 => bz_nn r_2 (fun a_3 => bz_rQ h a_3 x2 (fun r_4 => bz_nn r_4 (fun a_5 => bz_rI h a_5 2 7 (fun x_6 => (¬ x_6 = 0 → bz_J G κ kX10_waitingOrders (d + 1) F bc bs 4 [some (.inr (some a0)), some (.inl x1), some (.inl (x2 + 1))] [] h) ∧ (x_6 = 0 → bz_J G κ kX10_waitingOrders (d + 1) F bc bs 4 [some (.inr (some a0)), some (.inl (x1 + 1)), some (.inl (x2 + 1))] [] h))))))))
set_option maxRecDepth 20000 in
set_option maxHeartbeats 4000000 in
theorem g_X10_waitingOrders_4 {G : bz_G} {κ : bz_K} {l : Launch} {d : Nat} {F : Option bz_V → bz_H → Prop} {bc bs : Nat} (hl : κ.2.1 = l) (a0 : Nat) (x1 : Int32) (x2 : Int32) (h : bz_H) (hP0 : w_X10_waitingOrders_4 G κ l d F bc bs a0 x1 x2 h) : bz_J G κ kX10_waitingOrders (d + 1) F bc bs 4 [some (.inr (some a0)), some (.inl x1), some (.inl x2)] [] h := by
  subst hl
  unfold w_X10_waitingOrders_4 at hP0
  refine bz_iload_n (pc := 4) dX10_waitingOrders_4 rfl rfl ?_
  refine bz_aload_n (pc := 5) dX10_waitingOrders_5 rfl rfl ?_
  refine bz_rw_rI (pc := 6) dX10_waitingOrders_6 fl_X10_73 hP0 (fun x_1 hP1 => ?_)
  clear hP0
  refine bz_icmp_ge (tgt := 33) (pc := 9) dX10_waitingOrders_9 rfl (fun c => ?_) (fun c => ?_)
  · have hP2 := hP1.1 c
    clear hP1
    refine bz_iload_n (pc := 33) dX10_waitingOrders_33 rfl rfl ?_
    exact bz_retI (pc := 34) dX10_waitingOrders_34 rfl rfl hP2
  · have hP3 := hP1.2 c
    clear hP1
    refine bz_aload_n (pc := 12) dX10_waitingOrders_12 rfl rfl ?_
    refine bz_rw_rR (pc := 13) dX10_waitingOrders_13 fl_X10_29 hP3 (fun r_2 hP4 => ?_)
    clear hP3
    refine bz_iload_n (pc := 16) dX10_waitingOrders_16 rfl rfl ?_
    obtain ⟨a_3, rfl, hP5⟩ := hP4
    refine bz_rw_ldq (pc := 17) dX10_waitingOrders_17 hP5 (fun r_4 hP6 => ?_)
    clear hP5
    obtain ⟨a_5, rfl, hP7⟩ := hP6
    refine bz_rw_rI (pc := 18) dX10_waitingOrders_18 fl_X10_114 hP7 (fun x_6 hP8 => ?_)
    clear hP7
    refine bz_if_ne (tgt := 27) (pc := 21) dX10_waitingOrders_21 rfl (fun c => ?_) (fun c => ?_)
    · have hP9 := hP8.1 c
      clear hP8
      refine bz_s_iinc (pc := 27) dX10_waitingOrders_27 (Nat.le_of_ble_eq_true rfl) rfl rfl [some (.inr (some a0)), some (.inl x1), some (.inl (x2 + 1))] rfl ?_
      refine bz_goto (tgt := 4) (pc := 30) dX10_waitingOrders_30 rfl ?_
      exact hP9
    · have hP10 := hP8.2 c
      clear hP8
      refine bz_s_iinc (pc := 24) dX10_waitingOrders_24 (Nat.le_of_ble_eq_true rfl) rfl rfl [some (.inr (some a0)), some (.inl (x1 + 1)), some (.inl x2)] rfl ?_
      refine bz_s_iinc (pc := 27) dX10_waitingOrders_27 (Nat.le_of_ble_eq_true rfl) rfl rfl [some (.inr (some a0)), some (.inl (x1 + 1)), some (.inl (x2 + 1))] rfl ?_
      refine bz_goto (tgt := 4) (pc := 30) dX10_waitingOrders_30 rfl ?_
      exact hP10
theorem m_X10_waitingOrders {G : bz_G} {l : Launch} {d mc ms : Nat} {F : Option bz_V → bz_H → Prop} (a0 : Nat) (h : bz_H) (hP : ∀ (κ : bz_K) (bc bs : Nat), κ.2.1 = l → w_X10_waitingOrders_0 G κ l d F bc bs a0 h) : bz_Call G l (d + 1) kX10_waitingOrders [.inr (some a0)] h mc ms F :=
  bz_body (by decide) (Nat.le_of_ble_eq_true rfl) (fun κ hl => g_X10_waitingOrders_0 hl a0 h (hP κ mc ms hl))
def w_X11_app_0 (G : bz_G) (l : Launch) (d : Nat) (F : Option bz_V → bz_H → Prop) (a0 : Nat) (x1 : Int32) (x2 : Int32) (x3 : Int32) (h : bz_H) : Prop := bz_rR h a0 11 0 (fun r_1 => bz_nn r_1 (fun a_4 => bz_rc h a_4 10 (bz_cR G l d kX10_riderAt [.inr (some a_4), .inl x1] h 0 0 (fun r_2 h_3 => (r_2 = none → bz_rc h_3 a0 11 (bz_cI G l d kX11_finding [.inr (some a0), .inl (-1000001)] h_3 0 0 (fun x_6 h_7 => F (some (.inl x_6)) h_7))) ∧ (∀ a_5, r_2 = some a_5 → bz_cI G l d kX11_isMinute [.inl x2] h_3 0 0 (fun x_8 h_9 => (x_8 = 0 → bz_rc h_9 a0 11 (bz_cI G l d kX11_finding [.inr (some a0), .inl (-1000001)] h_9 0 0 (fun x_10 h_11 => F (some (.inl x_10)) h_11))) ∧ (¬ (x_8 = 0) → bz_cI G l d kX11_isMinute [.inl x3] h_9 0 0 (fun x_12 h_13 => (x_12 = 0 → bz_rc h_13 a0 11 (bz_cI G l d kX11_finding [.inr (some a0), .inl (-1000001)] h_13 0 0 (fun x_14 h_15 => F (some (.inl x_14)) h_15))) ∧ (¬ (x_12 = 0) → (x2 < x3 → bz_rR h_13 a_5 3 8 (fun r_16 => bz_nn r_16 (fun a_19 => bz_rc h_13 a_19 4 (bz_cI G l d kX4_isFull [.inr (some a_19)] h_13 0 0 (fun x_17 h_18 => (x_17 = 0 → bz_rR h_18 a_5 3 8 (fun r_20 => bz_nn r_20 (fun a_23 => bz_rc h_18 a_23 4 (bz_cI G l d kX4_add [.inr (some a_23), .inl x2, .inl x3, .inl 0] h_18 0 0 (fun x_21 h_22 => F (some (.inl x_21)) h_22))))) ∧ (¬ (x_17 = 0) → bz_rc h_18 a0 11 (bz_cI G l d kX11_finding [.inr (some a0), .inl (-1000002)] h_18 0 0 (fun x_24 h_25 => F (some (.inl x_24)) h_25)))))))) ∧ (¬ (x2 < x3) → bz_rc h_13 a0 11 (bz_cI G l d kX11_finding [.inr (some a0), .inl (-1000001)] h_13 0 0 (fun x_26 h_27 => F (some (.inl x_26)) h_27))))))))))))
set_option maxRecDepth 20000 in
set_option maxHeartbeats 4000000 in
theorem g_X11_app_0 {G : bz_G} {κ : bz_K} {l : Launch} {d : Nat} {F : Option bz_V → bz_H → Prop} {bc bs : Nat} (hl : κ.2.1 = l) (a0 : Nat) (x1 : Int32) (x2 : Int32) (x3 : Int32) (h : bz_H) (hP0 : w_X11_app_0 G l d F a0 x1 x2 x3 h) : bz_J G κ kX11_app (d + 1) F bc bs 0 [some (.inr (some a0)), some (.inl x1), some (.inl x2), some (.inl x3), none] [] h := by
  subst hl
  unfold w_X11_app_0 at hP0
  refine bz_aload_n (pc := 0) dX11_app_0 rfl rfl ?_
  refine bz_rw_rR (pc := 1) dX11_app_1 fl_X11_12 hP0 (fun r_1 hP1 => ?_)
  clear hP0
  refine bz_iload_n (pc := 4) dX11_app_4 rfl rfl ?_
  obtain ⟨a_4, rfl, hP2⟩ := hP1
  refine bz_kRV (as := [.inl x1]) (st := []) (ci := 10) (n := 1) (mc := 0) (ms := 0) (bc := bc) (bs := bs) (yc := kX10_riderAt) (q := (RX10, TX10, 16)) (b := a_4) (pc := 5) dX11_app_5 sc_X10_riderAt ml_X11_179 im_X10_riderAt se_X10_riderAt rfl rfl rfl (Nat.le_of_ble_eq_true rfl) hP2 (fun r_2 h_3 hP3 => ?_)
  clear hP2
  refine bz_s_astore (pc := 8) dX11_app_8 (Nat.le_of_ble_eq_true rfl) [some (.inr (some a0)), some (.inl x1), some (.inl x2), some (.inl x3), some (.inr r_2)] rfl ?_
  refine bz_aload (pc := 10) dX11_app_10 rfl ?_
  refine bz_ifnull (tgt := 34) (pc := 12) dX11_app_12 rfl (fun c => ?_) (fun a_5 c => ?_)
  · have hP4 := hP3.1 c
    clear hP3
    subst c
    refine bz_aload_n (pc := 34) dX11_app_34 rfl rfl ?_
    refine bz_ldc (pc := 35) dX11_app_35 ct_X11_78 ?_
    refine bz_kIV (as := [.inl (-1000001)]) (st := []) (ci := 11) (n := 1) (mc := 0) (ms := 0) (bc := bc) (bs := bs) (yc := kX11_finding) (q := (RX11, TX11, 9)) (b := a0) (pc := 37) dX11_app_37 sc_X11_finding ml_X11_79 im_X11_finding se_X11_finding rfl rfl rfl (Nat.le_of_ble_eq_true rfl) hP4 (fun x_6 h_7 hP5 => ?_)
    clear hP4
    exact bz_retI (pc := 40) dX11_app_40 rfl rfl hP5
  · have hP6 := hP3.2 a_5 c
    clear hP3
    subst c
    refine bz_iload_n (pc := 15) dX11_app_15 rfl rfl ?_
    refine bz_kIS (as := [.inl x2]) (st := []) (n := 1) (mc := 0) (ms := 0) (bc := bc) (bs := bs) (yc := kX11_isMinute) (pc := 16) dX11_app_16 sc_X11_isMinute ml_X11_313 ss_X11_isMinute rfl (Nat.le_of_ble_eq_true rfl) hP6 (fun x_8 h_9 hP7 => ?_)
    clear hP6
    refine bz_if_eq (tgt := 34) (pc := 19) dX11_app_19 rfl (fun c => ?_) (fun c => ?_)
    · have hP8 := hP7.1 c
      clear hP7
      refine bz_aload_n (pc := 34) dX11_app_34 rfl rfl ?_
      refine bz_ldc (pc := 35) dX11_app_35 ct_X11_78 ?_
      refine bz_kIV (as := [.inl (-1000001)]) (st := []) (ci := 11) (n := 1) (mc := 0) (ms := 0) (bc := bc) (bs := bs) (yc := kX11_finding) (q := (RX11, TX11, 9)) (b := a0) (pc := 37) dX11_app_37 sc_X11_finding ml_X11_79 im_X11_finding se_X11_finding rfl rfl rfl (Nat.le_of_ble_eq_true rfl) hP8 (fun x_10 h_11 hP9 => ?_)
      clear hP8
      exact bz_retI (pc := 40) dX11_app_40 rfl rfl hP9
    · have hP10 := hP7.2 c
      clear hP7
      refine bz_iload_n (pc := 22) dX11_app_22 rfl rfl ?_
      refine bz_kIS (as := [.inl x3]) (st := []) (n := 1) (mc := 0) (ms := 0) (bc := bc) (bs := bs) (yc := kX11_isMinute) (pc := 23) dX11_app_23 sc_X11_isMinute ml_X11_313 ss_X11_isMinute rfl (Nat.le_of_ble_eq_true rfl) hP10 (fun x_12 h_13 hP11 => ?_)
      clear hP10
      refine bz_if_eq (tgt := 34) (pc := 26) dX11_app_26 rfl (fun c => ?_) (fun c => ?_)
      · have hP12 := hP11.1 c
        clear hP11
        refine bz_aload_n (pc := 34) dX11_app_34 rfl rfl ?_
        refine bz_ldc (pc := 35) dX11_app_35 ct_X11_78 ?_
        refine bz_kIV (as := [.inl (-1000001)]) (st := []) (ci := 11) (n := 1) (mc := 0) (ms := 0) (bc := bc) (bs := bs) (yc := kX11_finding) (q := (RX11, TX11, 9)) (b := a0) (pc := 37) dX11_app_37 sc_X11_finding ml_X11_79 im_X11_finding se_X11_finding rfl rfl rfl (Nat.le_of_ble_eq_true rfl) hP12 (fun x_14 h_15 hP13 => ?_)
        clear hP12
        exact bz_retI (pc := 40) dX11_app_40 rfl rfl hP13
      · have hP14 := hP11.2 c
        clear hP11
        refine bz_iload_n (pc := 29) dX11_app_29 rfl rfl ?_
        refine bz_iload_n (pc := 30) dX11_app_30 rfl rfl ?_
        refine bz_icmp_gt (tgt := 41) (pc := 31) dX11_app_31 rfl (fun c => ?_) (fun c => ?_)
        · have hP15 := hP14.1 c
          clear hP14
          refine bz_aload (pc := 41) dX11_app_41 rfl ?_
          refine bz_rw_rR (pc := 43) dX11_app_43 fl_X11_322 hP15 (fun r_16 hP16 => ?_)
          clear hP15
          obtain ⟨a_19, rfl, hP17⟩ := hP16
          refine bz_kIV (as := []) (st := []) (ci := 4) (n := 0) (mc := 0) (ms := 0) (bc := bc) (bs := bs) (yc := kX4_isFull) (q := (RX4, TX4, 2)) (b := a_19) (pc := 46) dX11_app_46 sc_X4_isFull ml_X11_112 im_X4_isFull se_X4_isFull rfl rfl rfl (Nat.le_of_ble_eq_true rfl) hP17 (fun x_17 h_18 hP18 => ?_)
          clear hP17
          refine bz_if_eq (tgt := 59) (pc := 49) dX11_app_49 rfl (fun c => ?_) (fun c => ?_)
          · have hP19 := hP18.1 c
            clear hP18
            refine bz_aload (pc := 59) dX11_app_59 rfl ?_
            refine bz_rw_rR (pc := 61) dX11_app_61 fl_X11_322 hP19 (fun r_20 hP20 => ?_)
            clear hP19
            refine bz_iload_n (pc := 64) dX11_app_64 rfl rfl ?_
            refine bz_iload_n (pc := 65) dX11_app_65 rfl rfl ?_
            refine bz_iconst (pc := 66) dX11_app_66 ci_0 ?_
            obtain ⟨a_23, rfl, hP21⟩ := hP20
            refine bz_kIV (as := [.inl x2, .inl x3, .inl 0]) (st := []) (ci := 4) (n := 3) (mc := 0) (ms := 0) (bc := bc) (bs := bs) (yc := kX4_add) (q := (RX4, TX4, 2)) (b := a_23) (pc := 67) dX11_app_67 sc_X4_add ml_X11_119 im_X4_add se_X4_add rfl rfl rfl (Nat.le_of_ble_eq_true rfl) hP21 (fun x_21 h_22 hP22 => ?_)
            clear hP21
            exact bz_retI (pc := 70) dX11_app_70 rfl rfl hP22
          · have hP23 := hP18.2 c
            clear hP18
            refine bz_aload_n (pc := 52) dX11_app_52 rfl rfl ?_
            refine bz_ldc (pc := 53) dX11_app_53 ct_X11_118 ?_
            refine bz_kIV (as := [.inl (-1000002)]) (st := []) (ci := 11) (n := 1) (mc := 0) (ms := 0) (bc := bc) (bs := bs) (yc := kX11_finding) (q := (RX11, TX11, 9)) (b := a0) (pc := 55) dX11_app_55 sc_X11_finding ml_X11_79 im_X11_finding se_X11_finding rfl rfl rfl (Nat.le_of_ble_eq_true rfl) hP23 (fun x_24 h_25 hP24 => ?_)
            clear hP23
            exact bz_retI (pc := 58) dX11_app_58 rfl rfl hP24
        · have hP25 := hP14.2 c
          clear hP14
          refine bz_aload_n (pc := 34) dX11_app_34 rfl rfl ?_
          refine bz_ldc (pc := 35) dX11_app_35 ct_X11_78 ?_
          refine bz_kIV (as := [.inl (-1000001)]) (st := []) (ci := 11) (n := 1) (mc := 0) (ms := 0) (bc := bc) (bs := bs) (yc := kX11_finding) (q := (RX11, TX11, 9)) (b := a0) (pc := 37) dX11_app_37 sc_X11_finding ml_X11_79 im_X11_finding se_X11_finding rfl rfl rfl (Nat.le_of_ble_eq_true rfl) hP25 (fun x_26 h_27 hP26 => ?_)
          clear hP25
          exact bz_retI (pc := 40) dX11_app_40 rfl rfl hP26
theorem m_X11_app {G : bz_G} {l : Launch} {d mc ms : Nat} {F : Option bz_V → bz_H → Prop} (a0 : Nat) (x1 : Int32) (x2 : Int32) (x3 : Int32) (h : bz_H) (hP : w_X11_app_0 G l d F a0 x1 x2 x3 h) : bz_Call G l (d + 1) kX11_app [.inr (some a0), .inl x1, .inl x2, .inl x3] h mc ms F :=
  bz_body (by decide) (Nat.le_of_ble_eq_true rfl) (fun κ hl => g_X11_app_0 hl a0 x1 x2 x3 h hP)
def w_X11_as_0 (G : bz_G) (l : Launch) (d : Nat) (F : Option bz_V → bz_H → Prop) (a0 : Nat) (x1 : Int32) (x2 : Int32) (h : bz_H) : Prop := bz_cI G l d kX11_isWithin [.inl x1, .inl 0, .inl 9] h 0 0 (fun x_1 h_2 => (x_1 = 0 → bz_rc h_2 a0 11 (bz_cI G l d kX11_finding [.inr (some a0), .inl (-1000001)] h_2 0 0 (fun x_3 h_4 => F (some (.inl x_3)) h_4))) ∧ (¬ (x_1 = 0) → bz_cI G l d kX11_isWithin [.inl x2, .inl 0, .inl 6] h_2 0 0 (fun x_5 h_6 => (¬ x_5 = 0 → bz_rR h_6 a0 11 0 (fun r_7 => bz_rR h_6 a0 11 0 (fun r_8 => bz_nn r_8 (fun a_9 => bz_rR h_6 a_9 10 8 (fun r_10 => bz_nn r_10 (fun a_11 => bz_rA h_6 a_11 x1 (fun x_12 => bz_nn r_7 (fun a_15 => bz_rc h_6 a_15 10 (bz_cR G l d kX10_riderAt [.inr (some a_15), .inl x_12] h_6 0 0 (fun r_13 h_14 => (∀ a_16, r_13 = some a_16 → bz_rI h_14 a_16 3 1 (fun x_19 => bz_cI G l d kX11_isOfKind [.inl x_19, .inl x2] h_14 0 0 (fun x_20 h_21 => (x_20 = 0 → bz_rc h_21 a0 11 (bz_cI G l d kX11_finding [.inr (some a0), .inl (-1000003)] h_21 0 0 (fun x_22 h_23 => F (some (.inl x_22)) h_23))) ∧ (¬ (x_20 = 0) → bz_rI h_21 a_16 3 0 (fun x_24 => F (some (.inl x_24)) h_21))))) ∧ (r_13 = none → bz_rc h_14 a0 11 (bz_cI G l d kX11_finding [.inr (some a0), .inl (-1000006)] h_14 0 0 (fun x_17 h_18 => F (some (.inl x_17)) h_18))))))))))))) ∧ (x_5 = 0 → bz_rc h_6 a0 11 (bz_cI G l d kX11_finding [.inr (some a0), .inl (-1000001)] h_6 0 0 (fun x_25 h_26 => F (some (.inl x_25)) h_26))))))
set_option maxRecDepth 20000 in
set_option maxHeartbeats 4000000 in
theorem g_X11_as_0 {G : bz_G} {κ : bz_K} {l : Launch} {d : Nat} {F : Option bz_V → bz_H → Prop} {bc bs : Nat} (hl : κ.2.1 = l) (a0 : Nat) (x1 : Int32) (x2 : Int32) (h : bz_H) (hP0 : w_X11_as_0 G l d F a0 x1 x2 h) : bz_J G κ kX11_as (d + 1) F bc bs 0 [some (.inr (some a0)), some (.inl x1), some (.inl x2), none] [] h := by
  subst hl
  unfold w_X11_as_0 at hP0
  refine bz_iload_n (pc := 0) dX11_as_0 rfl rfl ?_
  refine bz_iconst (pc := 1) dX11_as_1 ci_0 ?_
  refine bz_bipush (pc := 2) dX11_as_2 cb_9 ?_
  refine bz_kIS (as := [.inl x1, .inl 0, .inl 9]) (st := []) (n := 3) (mc := 0) (ms := 0) (bc := bc) (bs := bs) (yc := kX11_isWithin) (pc := 4) dX11_as_4 sc_X11_isWithin ml_X11_74 ss_X11_isWithin rfl (Nat.le_of_ble_eq_true rfl) hP0 (fun x_1 h_2 hP1 => ?_)
  clear hP0
  refine bz_if_eq (tgt := 20) (pc := 7) dX11_as_7 rfl (fun c => ?_) (fun c => ?_)
  · have hP2 := hP1.1 c
    clear hP1
    refine bz_aload_n (pc := 20) dX11_as_20 rfl rfl ?_
    refine bz_ldc (pc := 21) dX11_as_21 ct_X11_78 ?_
    refine bz_kIV (as := [.inl (-1000001)]) (st := []) (ci := 11) (n := 1) (mc := 0) (ms := 0) (bc := bc) (bs := bs) (yc := kX11_finding) (q := (RX11, TX11, 9)) (b := a0) (pc := 23) dX11_as_23 sc_X11_finding ml_X11_79 im_X11_finding se_X11_finding rfl rfl rfl (Nat.le_of_ble_eq_true rfl) hP2 (fun x_3 h_4 hP3 => ?_)
    clear hP2
    exact bz_retI (pc := 26) dX11_as_26 rfl rfl hP3
  · have hP4 := hP1.2 c
    clear hP1
    refine bz_iload_n (pc := 10) dX11_as_10 rfl rfl ?_
    refine bz_iconst (pc := 11) dX11_as_11 ci_0 ?_
    refine bz_bipush (pc := 12) dX11_as_12 cb_6 ?_
    refine bz_kIS (as := [.inl x2, .inl 0, .inl 6]) (st := []) (n := 3) (mc := 0) (ms := 0) (bc := bc) (bs := bs) (yc := kX11_isWithin) (pc := 14) dX11_as_14 sc_X11_isWithin ml_X11_74 ss_X11_isWithin rfl (Nat.le_of_ble_eq_true rfl) hP4 (fun x_5 h_6 hP5 => ?_)
    clear hP4
    refine bz_if_ne (tgt := 27) (pc := 17) dX11_as_17 rfl (fun c => ?_) (fun c => ?_)
    · have hP6 := hP5.1 c
      clear hP5
      refine bz_aload_n (pc := 27) dX11_as_27 rfl rfl ?_
      refine bz_rw_rR (pc := 28) dX11_as_28 fl_X11_12 hP6 (fun r_7 hP7 => ?_)
      clear hP6
      refine bz_aload_n (pc := 31) dX11_as_31 rfl rfl ?_
      refine bz_rw_rR (pc := 32) dX11_as_32 fl_X11_12 hP7 (fun r_8 hP8 => ?_)
      clear hP7
      obtain ⟨a_9, rfl, hP9⟩ := hP8
      refine bz_rw_rR (pc := 35) dX11_as_35 fl_X11_371 hP9 (fun r_10 hP10 => ?_)
      clear hP9
      refine bz_iload_n (pc := 38) dX11_as_38 rfl rfl ?_
      obtain ⟨a_11, rfl, hP11⟩ := hP10
      refine bz_rw_rA (pc := 39) dX11_as_39 hP11 (fun x_12 hP12 => ?_)
      clear hP11
      obtain ⟨a_15, rfl, hP13⟩ := hP12
      refine bz_kRV (as := [.inl x_12]) (st := []) (ci := 10) (n := 1) (mc := 0) (ms := 0) (bc := bc) (bs := bs) (yc := kX10_riderAt) (q := (RX10, TX10, 16)) (b := a_15) (pc := 40) dX11_as_40 sc_X10_riderAt ml_X11_179 im_X10_riderAt se_X10_riderAt rfl rfl rfl (Nat.le_of_ble_eq_true rfl) hP13 (fun r_13 h_14 hP14 => ?_)
      clear hP13
      refine bz_s_astore_n (pc := 43) dX11_as_43 rfl (Nat.le_of_ble_eq_true rfl) [some (.inr (some a0)), some (.inl x1), some (.inl x2), some (.inr r_13)] rfl ?_
      refine bz_aload_n (pc := 44) dX11_as_44 rfl rfl ?_
      refine bz_ifnonnull (tgt := 56) (pc := 45) dX11_as_45 rfl (fun a_16 c => ?_) (fun c => ?_)
      · have hP15 := hP14.1 a_16 c
        clear hP14
        subst c
        refine bz_aload_n (pc := 56) dX11_as_56 rfl rfl ?_
        refine bz_rw_rI (pc := 57) dX11_as_57 fl_X11_183 hP15 (fun x_19 hP16 => ?_)
        clear hP15
        refine bz_iload_n (pc := 60) dX11_as_60 rfl rfl ?_
        refine bz_kIS (as := [.inl x_19, .inl x2]) (st := []) (n := 2) (mc := 0) (ms := 0) (bc := bc) (bs := bs) (yc := kX11_isOfKind) (pc := 61) dX11_as_61 sc_X11_isOfKind ml_X11_375 ss_X11_isOfKind rfl (Nat.le_of_ble_eq_true rfl) hP16 (fun x_20 h_21 hP17 => ?_)
        clear hP16
        refine bz_if_eq (tgt := 74) (pc := 64) dX11_as_64 rfl (fun c => ?_) (fun c => ?_)
        · have hP18 := hP17.1 c
          clear hP17
          refine bz_aload_n (pc := 74) dX11_as_74 rfl rfl ?_
          refine bz_ldcw (pc := 75) dX11_as_75 ct_X11_379 ?_
          refine bz_kIV (as := [.inl (-1000003)]) (st := []) (ci := 11) (n := 1) (mc := 0) (ms := 0) (bc := bc) (bs := bs) (yc := kX11_finding) (q := (RX11, TX11, 9)) (b := a0) (pc := 78) dX11_as_78 sc_X11_finding ml_X11_79 im_X11_finding se_X11_finding rfl rfl rfl (Nat.le_of_ble_eq_true rfl) hP18 (fun x_22 h_23 hP19 => ?_)
          clear hP18
          exact bz_retI (pc := 81) dX11_as_81 rfl rfl hP19
        · have hP20 := hP17.2 c
          clear hP17
          refine bz_aload_n (pc := 67) dX11_as_67 rfl rfl ?_
          refine bz_rw_rI (pc := 68) dX11_as_68 fl_X11_310 hP20 (fun x_24 hP21 => ?_)
          clear hP20
          refine bz_goto (tgt := 81) (pc := 71) dX11_as_71 rfl ?_
          exact bz_retI (pc := 81) dX11_as_81 rfl rfl hP21
      · have hP22 := hP14.2 c
        clear hP14
        subst c
        refine bz_aload_n (pc := 48) dX11_as_48 rfl rfl ?_
        refine bz_ldcw (pc := 49) dX11_as_49 ct_X11_374 ?_
        refine bz_kIV (as := [.inl (-1000006)]) (st := []) (ci := 11) (n := 1) (mc := 0) (ms := 0) (bc := bc) (bs := bs) (yc := kX11_finding) (q := (RX11, TX11, 9)) (b := a0) (pc := 52) dX11_as_52 sc_X11_finding ml_X11_79 im_X11_finding se_X11_finding rfl rfl rfl (Nat.le_of_ble_eq_true rfl) hP22 (fun x_17 h_18 hP23 => ?_)
        clear hP22
        exact bz_retI (pc := 55) dX11_as_55 rfl rfl hP23
    · have hP24 := hP5.2 c
      clear hP5
      refine bz_aload_n (pc := 20) dX11_as_20 rfl rfl ?_
      refine bz_ldc (pc := 21) dX11_as_21 ct_X11_78 ?_
      refine bz_kIV (as := [.inl (-1000001)]) (st := []) (ci := 11) (n := 1) (mc := 0) (ms := 0) (bc := bc) (bs := bs) (yc := kX11_finding) (q := (RX11, TX11, 9)) (b := a0) (pc := 23) dX11_as_23 sc_X11_finding ml_X11_79 im_X11_finding se_X11_finding rfl rfl rfl (Nat.le_of_ble_eq_true rfl) hP24 (fun x_25 h_26 hP25 => ?_)
      clear hP24
      exact bz_retI (pc := 26) dX11_as_26 rfl rfl hP25
theorem m_X11_as {G : bz_G} {l : Launch} {d mc ms : Nat} {F : Option bz_V → bz_H → Prop} (a0 : Nat) (x1 : Int32) (x2 : Int32) (h : bz_H) (hP : w_X11_as_0 G l d F a0 x1 x2 h) : bz_Call G l (d + 1) kX11_as [.inr (some a0), .inl x1, .inl x2] h mc ms F :=
  bz_body (by decide) (Nat.le_of_ble_eq_true rfl) (fun κ hl => g_X11_as_0 hl a0 x1 x2 h hP)
def w_X11_ban_0 (G : bz_G) (l : Launch) (d : Nat) (F : Option bz_V → bz_H → Prop) (a0 : Nat) (x1 : Int32) (x2 : Int32) (x3 : Int32) (h : bz_H) : Prop := bz_rR h a0 11 0 (fun r_1 => bz_nn r_1 (fun a_4 => bz_rc h a_4 10 (bz_cR G l d kX10_riderAt [.inr (some a_4), .inl x1] h 0 0 (fun r_2 h_3 => (r_2 = none → bz_rc h_3 a0 11 (bz_cI G l d kX11_finding [.inr (some a0), .inl (-1000001)] h_3 0 0 (fun x_6 h_7 => F (some (.inl x_6)) h_7))) ∧ (∀ a_5, r_2 = some a_5 → bz_cI G l d kX11_isWithin [.inl x2, .inl 0, .inl 50] h_3 0 0 (fun x_8 h_9 => (x_8 = 0 → bz_rc h_9 a0 11 (bz_cI G l d kX11_finding [.inr (some a0), .inl (-1000001)] h_9 0 0 (fun x_10 h_11 => F (some (.inl x_10)) h_11))) ∧ (¬ (x_8 = 0) → bz_cI G l d kX11_isWithin [.inl x3, .inl 1, .inl 9] h_9 0 0 (fun x_12 h_13 => (¬ x_12 = 0 → bz_rI h_13 a_5 3 6 (fun x_14 => (x_14 < x3 → F (some (.inl 0)) h_13) ∧ (¬ (x_14 < x3) → bz_rR h_13 a0 11 0 (fun r_15 => bz_nn r_15 (fun a_18 => bz_rc h_13 a_18 10 (bz_cI G l d kX10_ownRatingOf [.inr (some a_18), .inl x1] h_13 0 0 (fun x_16 h_17 => F (some (.inl (if x2 ≤ x_16 then 0 else 1))) h_17))))))) ∧ (x_12 = 0 → bz_rc h_13 a0 11 (bz_cI G l d kX11_finding [.inr (some a0), .inl (-1000001)] h_13 0 0 (fun x_19 h_20 => F (some (.inl x_19)) h_20)))))))))))
set_option maxRecDepth 20000 in
set_option maxHeartbeats 4000000 in
theorem g_X11_ban_0 {G : bz_G} {κ : bz_K} {l : Launch} {d : Nat} {F : Option bz_V → bz_H → Prop} {bc bs : Nat} (hl : κ.2.1 = l) (a0 : Nat) (x1 : Int32) (x2 : Int32) (x3 : Int32) (h : bz_H) (hP0 : w_X11_ban_0 G l d F a0 x1 x2 x3 h) : bz_J G κ kX11_ban (d + 1) F bc bs 0 [some (.inr (some a0)), some (.inl x1), some (.inl x2), some (.inl x3), none] [] h := by
  subst hl
  unfold w_X11_ban_0 at hP0
  refine bz_aload_n (pc := 0) dX11_ban_0 rfl rfl ?_
  refine bz_rw_rR (pc := 1) dX11_ban_1 fl_X11_12 hP0 (fun r_1 hP1 => ?_)
  clear hP0
  refine bz_iload_n (pc := 4) dX11_ban_4 rfl rfl ?_
  obtain ⟨a_4, rfl, hP2⟩ := hP1
  refine bz_kRV (as := [.inl x1]) (st := []) (ci := 10) (n := 1) (mc := 0) (ms := 0) (bc := bc) (bs := bs) (yc := kX10_riderAt) (q := (RX10, TX10, 16)) (b := a_4) (pc := 5) dX11_ban_5 sc_X10_riderAt ml_X11_179 im_X10_riderAt se_X10_riderAt rfl rfl rfl (Nat.le_of_ble_eq_true rfl) hP2 (fun r_2 h_3 hP3 => ?_)
  clear hP2
  refine bz_s_astore (pc := 8) dX11_ban_8 (Nat.le_of_ble_eq_true rfl) [some (.inr (some a0)), some (.inl x1), some (.inl x2), some (.inl x3), some (.inr r_2)] rfl ?_
  refine bz_aload (pc := 10) dX11_ban_10 rfl ?_
  refine bz_ifnull (tgt := 35) (pc := 12) dX11_ban_12 rfl (fun c => ?_) (fun a_5 c => ?_)
  · have hP4 := hP3.1 c
    clear hP3
    subst c
    refine bz_aload_n (pc := 35) dX11_ban_35 rfl rfl ?_
    refine bz_ldc (pc := 36) dX11_ban_36 ct_X11_78 ?_
    refine bz_kIV (as := [.inl (-1000001)]) (st := []) (ci := 11) (n := 1) (mc := 0) (ms := 0) (bc := bc) (bs := bs) (yc := kX11_finding) (q := (RX11, TX11, 9)) (b := a0) (pc := 38) dX11_ban_38 sc_X11_finding ml_X11_79 im_X11_finding se_X11_finding rfl rfl rfl (Nat.le_of_ble_eq_true rfl) hP4 (fun x_6 h_7 hP5 => ?_)
    clear hP4
    exact bz_retI (pc := 41) dX11_ban_41 rfl rfl hP5
  · have hP6 := hP3.2 a_5 c
    clear hP3
    subst c
    refine bz_iload_n (pc := 15) dX11_ban_15 rfl rfl ?_
    refine bz_iconst (pc := 16) dX11_ban_16 ci_0 ?_
    refine bz_bipush (pc := 17) dX11_ban_17 cb_50 ?_
    refine bz_kIS (as := [.inl x2, .inl 0, .inl 50]) (st := []) (n := 3) (mc := 0) (ms := 0) (bc := bc) (bs := bs) (yc := kX11_isWithin) (pc := 19) dX11_ban_19 sc_X11_isWithin ml_X11_74 ss_X11_isWithin rfl (Nat.le_of_ble_eq_true rfl) hP6 (fun x_8 h_9 hP7 => ?_)
    clear hP6
    refine bz_if_eq (tgt := 35) (pc := 22) dX11_ban_22 rfl (fun c => ?_) (fun c => ?_)
    · have hP8 := hP7.1 c
      clear hP7
      refine bz_aload_n (pc := 35) dX11_ban_35 rfl rfl ?_
      refine bz_ldc (pc := 36) dX11_ban_36 ct_X11_78 ?_
      refine bz_kIV (as := [.inl (-1000001)]) (st := []) (ci := 11) (n := 1) (mc := 0) (ms := 0) (bc := bc) (bs := bs) (yc := kX11_finding) (q := (RX11, TX11, 9)) (b := a0) (pc := 38) dX11_ban_38 sc_X11_finding ml_X11_79 im_X11_finding se_X11_finding rfl rfl rfl (Nat.le_of_ble_eq_true rfl) hP8 (fun x_10 h_11 hP9 => ?_)
      clear hP8
      exact bz_retI (pc := 41) dX11_ban_41 rfl rfl hP9
    · have hP10 := hP7.2 c
      clear hP7
      refine bz_iload_n (pc := 25) dX11_ban_25 rfl rfl ?_
      refine bz_iconst (pc := 26) dX11_ban_26 ci_1 ?_
      refine bz_bipush (pc := 27) dX11_ban_27 cb_9 ?_
      refine bz_kIS (as := [.inl x3, .inl 1, .inl 9]) (st := []) (n := 3) (mc := 0) (ms := 0) (bc := bc) (bs := bs) (yc := kX11_isWithin) (pc := 29) dX11_ban_29 sc_X11_isWithin ml_X11_74 ss_X11_isWithin rfl (Nat.le_of_ble_eq_true rfl) hP10 (fun x_12 h_13 hP11 => ?_)
      clear hP10
      refine bz_if_ne (tgt := 42) (pc := 32) dX11_ban_32 rfl (fun c => ?_) (fun c => ?_)
      · have hP12 := hP11.1 c
        clear hP11
        refine bz_aload (pc := 42) dX11_ban_42 rfl ?_
        refine bz_rw_rI (pc := 44) dX11_ban_44 fl_X11_194 hP12 (fun x_14 hP13 => ?_)
        clear hP12
        refine bz_iload_n (pc := 47) dX11_ban_47 rfl rfl ?_
        refine bz_icmp_lt (tgt := 67) (pc := 48) dX11_ban_48 rfl (fun c => ?_) (fun c => ?_)
        · have hP14 := hP13.1 c
          clear hP13
          refine bz_iconst (pc := 67) dX11_ban_67 ci_0 ?_
          exact bz_retI (pc := 68) dX11_ban_68 rfl rfl hP14
        · have hP15 := hP13.2 c
          clear hP13
          refine bz_aload_n (pc := 51) dX11_ban_51 rfl rfl ?_
          refine bz_rw_rR (pc := 52) dX11_ban_52 fl_X11_12 hP15 (fun r_15 hP16 => ?_)
          clear hP15
          refine bz_iload_n (pc := 55) dX11_ban_55 rfl rfl ?_
          obtain ⟨a_18, rfl, hP17⟩ := hP16
          refine bz_kIV (as := [.inl x1]) (st := []) (ci := 10) (n := 1) (mc := 0) (ms := 0) (bc := bc) (bs := bs) (yc := kX10_ownRatingOf) (q := (RX10, TX10, 16)) (b := a_18) (pc := 56) dX11_ban_56 sc_X10_ownRatingOf ml_X11_337 im_X10_ownRatingOf se_X10_ownRatingOf rfl rfl rfl (Nat.le_of_ble_eq_true rfl) hP17 (fun x_16 h_17 hP18 => ?_)
          clear hP17
          refine bz_iload_n (pc := 59) dX11_ban_59 rfl rfl ?_
          have hJ : bz_J G κ kX11_ban (d + 1) F bc bs 68 [some (.inr (some a0)), some (.inl x1), some (.inl x2), some (.inl x3), some (.inr (some a_5))] [.inl (if x2 ≤ x_16 then 0 else 1)] h_17 := by
            exact bz_retI (pc := 68) dX11_ban_68 rfl rfl hP18
          refine bz_icmp_ge (tgt := 67) (pc := 60) dX11_ban_60 rfl (fun c => ?_) (fun c => ?_)
          · have e9 : ((if x2 ≤ x_16 then 0 else 1) : Int32) = (0) := if_pos c
            rw [e9] at hJ
            refine bz_iconst (pc := 67) dX11_ban_67 ci_0 ?_
            exact hJ
          · have e9 : ((if x2 ≤ x_16 then 0 else 1) : Int32) = (1) := if_neg c
            rw [e9] at hJ
            refine bz_iconst (pc := 63) dX11_ban_63 ci_1 ?_
            refine bz_goto (tgt := 68) (pc := 64) dX11_ban_64 rfl ?_
            exact hJ
      · have hP19 := hP11.2 c
        clear hP11
        refine bz_aload_n (pc := 35) dX11_ban_35 rfl rfl ?_
        refine bz_ldc (pc := 36) dX11_ban_36 ct_X11_78 ?_
        refine bz_kIV (as := [.inl (-1000001)]) (st := []) (ci := 11) (n := 1) (mc := 0) (ms := 0) (bc := bc) (bs := bs) (yc := kX11_finding) (q := (RX11, TX11, 9)) (b := a0) (pc := 38) dX11_ban_38 sc_X11_finding ml_X11_79 im_X11_finding se_X11_finding rfl rfl rfl (Nat.le_of_ble_eq_true rfl) hP19 (fun x_19 h_20 hP20 => ?_)
        clear hP19
        exact bz_retI (pc := 41) dX11_ban_41 rfl rfl hP20
theorem m_X11_ban {G : bz_G} {l : Launch} {d mc ms : Nat} {F : Option bz_V → bz_H → Prop} (a0 : Nat) (x1 : Int32) (x2 : Int32) (x3 : Int32) (h : bz_H) (hP : w_X11_ban_0 G l d F a0 x1 x2 x3 h) : bz_Call G l (d + 1) kX11_ban [.inr (some a0), .inl x1, .inl x2, .inl x3] h mc ms F :=
  bz_body (by decide) (Nat.le_of_ble_eq_true rfl) (fun κ hl => g_X11_ban_0 hl a0 x1 x2 x3 h hP)
def w_X11_bestFor_0 (G : bz_G) (κ : bz_K) (l : Launch) (d : Nat) (F : Option bz_V → bz_H → Prop) (bc bs : Nat) (a0 : Nat) (x1 : Int32) (r2 : Option Nat) (h : bz_H) : Prop := bz_rR h a0 11 0 (fun r_1 => bz_nn r_1 (fun a_2 => bz_rR h a_2 10 2 (fun r_3 => bz_nn r_3 (fun a_4 => bz_rQ h a_4 x1 (fun r_5 => bz_J G κ kX11_bestFor (d + 1) F bc bs 19 [some (.inr (some a0)), some (.inl x1), some (.inr r2), some (.inr r_5), some (.inl (-1)), some (.inl 0), some (.inl 0), none, none] [] h)))))
set_option maxRecDepth 20000 in
set_option maxHeartbeats 4000000 in
theorem g_X11_bestFor_0 {G : bz_G} {κ : bz_K} {l : Launch} {d : Nat} {F : Option bz_V → bz_H → Prop} {bc bs : Nat} (hl : κ.2.1 = l) (a0 : Nat) (x1 : Int32) (r2 : Option Nat) (h : bz_H) (hP0 : w_X11_bestFor_0 G κ l d F bc bs a0 x1 r2 h) : bz_J G κ kX11_bestFor (d + 1) F bc bs 0 [some (.inr (some a0)), some (.inl x1), some (.inr r2), none, none, none, none, none, none] [] h := by
  subst hl
  unfold w_X11_bestFor_0 at hP0
  refine bz_aload_n (pc := 0) dX11_bestFor_0 rfl rfl ?_
  refine bz_rw_rR (pc := 1) dX11_bestFor_1 fl_X11_12 hP0 (fun r_1 hP1 => ?_)
  clear hP0
  obtain ⟨a_2, rfl, hP2⟩ := hP1
  refine bz_rw_rR (pc := 4) dX11_bestFor_4 fl_X11_306 hP2 (fun r_3 hP3 => ?_)
  clear hP2
  refine bz_iload_n (pc := 7) dX11_bestFor_7 rfl rfl ?_
  obtain ⟨a_4, rfl, hP4⟩ := hP3
  refine bz_rw_ldq (pc := 8) dX11_bestFor_8 hP4 (fun r_5 hP5 => ?_)
  clear hP4
  refine bz_s_astore_n (pc := 9) dX11_bestFor_9 rfl (Nat.le_of_ble_eq_true rfl) [some (.inr (some a0)), some (.inl x1), some (.inr r2), some (.inr r_5), none, none, none, none, none] rfl ?_
  refine bz_iconst (pc := 10) dX11_bestFor_10 ci_m1 ?_
  refine bz_s_istore (pc := 11) dX11_bestFor_11 (Nat.le_of_ble_eq_true rfl) [some (.inr (some a0)), some (.inl x1), some (.inr r2), some (.inr r_5), some (.inl (-1)), none, none, none, none] rfl ?_
  refine bz_iconst (pc := 13) dX11_bestFor_13 ci_0 ?_
  refine bz_s_istore (pc := 14) dX11_bestFor_14 (Nat.le_of_ble_eq_true rfl) [some (.inr (some a0)), some (.inl x1), some (.inr r2), some (.inr r_5), some (.inl (-1)), some (.inl 0), none, none, none] rfl ?_
  refine bz_iconst (pc := 16) dX11_bestFor_16 ci_0 ?_
  refine bz_s_istore (pc := 17) dX11_bestFor_17 (Nat.le_of_ble_eq_true rfl) [some (.inr (some a0)), some (.inl x1), some (.inr r2), some (.inr r_5), some (.inl (-1)), some (.inl 0), some (.inl 0), none, none] rfl ?_
  exact hP5
def w_X11_bestFor_19 (G : bz_G) (κ : bz_K) (l : Launch) (d : Nat) (F : Option bz_V → bz_H → Prop) (bc bs : Nat) (a0 : Nat) (x1 : Int32) (r2 : Option Nat) (r3 : Option Nat) (x4 : Int32) (x5 : Int32) (x6 : Int32) (u7 : Option bz_V) (u8 : Option bz_V) (h : bz_H) : Prop := bz_rR h a0 11 0 (fun r_6 => bz_nn r_6 (fun a_7 => bz_rI h a_7 10 10 (fun x_8 => (x_8 ≤ x6 → F (some (.inl x4)) h) ∧ (¬ (x_8 ≤ x6) → bz_rR h a0 11 0 (fun r_9 => bz_nn r_9 (fun a_10 => bz_rR h a_10 10 3 (fun r_11 => bz_nn r_11 (fun a_12 => bz_rQ h a_12 x6 (fun r_13 => bz_nn r_13 (fun a_14 => bz_rI h a_14 3 5 (fun x_15 => bz_rR h a0 11 0 (fun r_16 => bz_nn r_16 (fun a_17 => bz_rI h a_17 10 12 (fun x_18 => (x_18 < x_15 → bz_J G κ kX11_bestFor (d + 1) F bc bs 19 [some (.inr (some a0)), some (.inl x1), some (.inr r2), some (.inr r3), some (.inl x4), some (.inl x5), some (.inl (x6 + 1)), some (.inr (some a_14)), u8] [] h) ∧ (¬ (x_18 < x_15) → bz_nn r3 (fun a_21 => bz_rc h a_21 2 (bz_cI G l d kX2_isRefusedBy [.inr (some a_21), .inl x6] h 0 0 (fun x_19 h_20 => (¬ x_19 = 0 → bz_J G κ kX11_bestFor (d + 1) F bc bs 19 [some (.inr (some a0)), some (.inl x1), some (.inr r2), some (.inr (some a_21)), some (.inl x4), some (.inl x5), some (.inl (x6 + 1)), some (.inr (some a_14)), u8] [] h_20) ∧ (x_19 = 0 → bz_rR h_20 a0 11 6 (fun r_22 => bz_rI h_20 a_14 3 1 (fun x_23 => bz_rI h_20 a_14 3 4 (fun x_24 => bz_rR h_20 a0 11 0 (fun r_25 => bz_nn r_25 (fun a_26 => bz_rI h_20 a_26 10 12 (fun x_27 => bz_nn r_22 (fun a_30 => bz_rc h_20 a_30 9 (bz_cI G l d kX9_planOne [.inr (some a_30), .inl x_23, .inl x_24, .inl x_27, .inr (some a_21)] h_20 0 0 (fun x_28 h_29 => (¬ x_28 = 0 → bz_rR h_29 a0 11 0 (fun r_31 => bz_rR h_29 a0 11 7 (fun r_32 => bz_nn r_31 (fun a_35 => bz_rc h_29 a_35 10 (bz_cV G l d kX10_nameRider [.inr (some a_35), .inr r_32, .inl x6, .inr (some a_21)] h_29 0 0 (fun h_34 => bz_rR h_34 a0 11 7 (fun r_36 => bz_rR h_34 a0 11 0 (fun r_37 => bz_nn r_37 (fun a_38 => bz_rI h_34 a_38 10 12 (fun x_39 => bz_rI h_34 a_21 2 3 (fun x_40 => bz_rR h_34 a0 11 6 (fun r_41 => bz_nn r_41 (fun a_42 => bz_rI h_34 a_42 9 10 (fun x_43 => bz_nn r_36 (fun a_46 => bz_rc h_34 a_46 0 (bz_cV G l d kX0_putTimes [.inr (some a_46), .inl (x_39 - x_40), .inl x_43] h_34 0 0 (fun h_45 => bz_rR h_45 a0 11 7 (fun r_47 => bz_nn r_47 (fun a_50 => bz_rc h_45 a_50 0 (bz_cI G l d kX0_worthOf [.inr (some a_50), .inr r2] h_45 0 0 (fun x_48 h_49 => (x4 = (-1) → bz_J G κ kX11_bestFor (d + 1) F bc bs 19 [some (.inr (some a0)), some (.inl x1), some (.inr r2), some (.inr (some a_21)), some (.inl x6), some (.inl x_48), some (.inl (x6 + 1)), some (.inr (some a_14)), some (.inl x_48)] [] h_49) ∧ (¬ (x4 = (-1)) → (x_48 ≤ x5 → bz_J G κ kX11_bestFor (d + 1) F bc bs 19 [some (.inr (some a0)), some (.inl x1), some (.inr r2), some (.inr (some a_21)), some (.inl x4), some (.inl x5), some (.inl (x6 + 1)), some (.inr (some a_14)), some (.inl x_48)] [] h_49) ∧ (¬ (x_48 ≤ x5) → bz_J G κ kX11_bestFor (d + 1) F bc bs 19 [some (.inr (some a0)), some (.inl x1), some (.inr r2), some (.inr (some a_21)), some (.inl x6), some (.inl x_48), some (.inl (x6 + 1)), some (.inr (some a_14)), some (.inl x_48)] [] h_49))))))))))))))))))))))) ∧ (x_28 = 0 → bz_J G κ kX11_bestFor (d + 1) F bc bs 19 [some (.inr (some a0)), some (.inl x1), some (.inr r2), some (.inr (some a_21)), some (.inl x4), some (.inl x5), some (.inl (x6 + 1)), some (.inr (some a_14)), u8] [] h_29)))))))))))))))))))))))))))))
set_option maxRecDepth 20000 in
set_option maxHeartbeats 4000000 in
theorem g_X11_bestFor_19 {G : bz_G} {κ : bz_K} {l : Launch} {d : Nat} {F : Option bz_V → bz_H → Prop} {bc bs : Nat} (hl : κ.2.1 = l) (a0 : Nat) (x1 : Int32) (r2 : Option Nat) (r3 : Option Nat) (x4 : Int32) (x5 : Int32) (x6 : Int32) (u7 : Option bz_V) (u8 : Option bz_V) (h : bz_H) (hP0 : w_X11_bestFor_19 G κ l d F bc bs a0 x1 r2 r3 x4 x5 x6 u7 u8 h) : bz_J G κ kX11_bestFor (d + 1) F bc bs 19 [some (.inr (some a0)), some (.inl x1), some (.inr r2), some (.inr r3), some (.inl x4), some (.inl x5), some (.inl x6), u7, u8] [] h := by
  subst hl
  unfold w_X11_bestFor_19 at hP0
  refine bz_iload (pc := 19) dX11_bestFor_19 rfl ?_
  refine bz_aload_n (pc := 21) dX11_bestFor_21 rfl rfl ?_
  refine bz_rw_rR (pc := 22) dX11_bestFor_22 fl_X11_12 hP0 (fun r_6 hP1 => ?_)
  clear hP0
  obtain ⟨a_7, rfl, hP2⟩ := hP1
  refine bz_rw_rI (pc := 25) dX11_bestFor_25 fl_X11_172 hP2 (fun x_8 hP3 => ?_)
  clear hP2
  refine bz_icmp_ge (tgt := 175) (pc := 28) dX11_bestFor_28 rfl (fun c => ?_) (fun c => ?_)
  · have hP4 := hP3.1 c
    clear hP3
    refine bz_iload (pc := 175) dX11_bestFor_175 rfl ?_
    exact bz_retI (pc := 177) dX11_bestFor_177 rfl rfl hP4
  · have hP5 := hP3.2 c
    clear hP3
    refine bz_aload_n (pc := 31) dX11_bestFor_31 rfl rfl ?_
    refine bz_rw_rR (pc := 32) dX11_bestFor_32 fl_X11_12 hP5 (fun r_9 hP6 => ?_)
    clear hP5
    obtain ⟨a_10, rfl, hP7⟩ := hP6
    refine bz_rw_rR (pc := 35) dX11_bestFor_35 fl_X11_427 hP7 (fun r_11 hP8 => ?_)
    clear hP7
    refine bz_iload (pc := 38) dX11_bestFor_38 rfl ?_
    obtain ⟨a_12, rfl, hP9⟩ := hP8
    refine bz_rw_ldq (pc := 40) dX11_bestFor_40 hP9 (fun r_13 hP10 => ?_)
    clear hP9
    refine bz_s_astore (pc := 41) dX11_bestFor_41 (Nat.le_of_ble_eq_true rfl) [some (.inr (some a0)), some (.inl x1), some (.inr r2), some (.inr r3), some (.inl x4), some (.inl x5), some (.inl x6), some (.inr r_13), u8] rfl ?_
    refine bz_aload (pc := 43) dX11_bestFor_43 rfl ?_
    obtain ⟨a_14, rfl, hP11⟩ := hP10
    refine bz_rw_rI (pc := 45) dX11_bestFor_45 fl_X11_191 hP11 (fun x_15 hP12 => ?_)
    clear hP11
    refine bz_aload_n (pc := 48) dX11_bestFor_48 rfl rfl ?_
    refine bz_rw_rR (pc := 49) dX11_bestFor_49 fl_X11_12 hP12 (fun r_16 hP13 => ?_)
    clear hP12
    obtain ⟨a_17, rfl, hP14⟩ := hP13
    refine bz_rw_rI (pc := 52) dX11_bestFor_52 fl_X11_103 hP14 (fun x_18 hP15 => ?_)
    clear hP14
    refine bz_icmp_gt (tgt := 169) (pc := 55) dX11_bestFor_55 rfl (fun c => ?_) (fun c => ?_)
    · have hP16 := hP15.1 c
      clear hP15
      refine bz_s_iinc (pc := 169) dX11_bestFor_169 (Nat.le_of_ble_eq_true rfl) rfl rfl [some (.inr (some a0)), some (.inl x1), some (.inr r2), some (.inr r3), some (.inl x4), some (.inl x5), some (.inl (x6 + 1)), some (.inr (some a_14)), u8] rfl ?_
      refine bz_goto (tgt := 19) (pc := 172) dX11_bestFor_172 rfl ?_
      exact hP16
    · have hP17 := hP15.2 c
      clear hP15
      refine bz_aload_n (pc := 58) dX11_bestFor_58 rfl rfl ?_
      refine bz_iload (pc := 59) dX11_bestFor_59 rfl ?_
      obtain ⟨a_21, rfl, hP18⟩ := hP17
      refine bz_kIV (as := [.inl x6]) (st := []) (ci := 2) (n := 1) (mc := 0) (ms := 0) (bc := bc) (bs := bs) (yc := kX2_isRefusedBy) (q := (RX2, TX2, 15)) (b := a_21) (pc := 61) dX11_bestFor_61 sc_X2_isRefusedBy ml_X11_300 im_X2_isRefusedBy se_X2_isRefusedBy rfl rfl rfl (Nat.le_of_ble_eq_true rfl) hP18 (fun x_19 h_20 hP19 => ?_)
      clear hP18
      refine bz_if_ne (tgt := 169) (pc := 64) dX11_bestFor_64 rfl (fun c => ?_) (fun c => ?_)
      · have hP20 := hP19.1 c
        clear hP19
        refine bz_s_iinc (pc := 169) dX11_bestFor_169 (Nat.le_of_ble_eq_true rfl) rfl rfl [some (.inr (some a0)), some (.inl x1), some (.inr r2), some (.inr (some a_21)), some (.inl x4), some (.inl x5), some (.inl (x6 + 1)), some (.inr (some a_14)), u8] rfl ?_
        refine bz_goto (tgt := 19) (pc := 172) dX11_bestFor_172 rfl ?_
        exact hP20
      · have hP21 := hP19.2 c
        clear hP19
        refine bz_aload_n (pc := 67) dX11_bestFor_67 rfl rfl ?_
        refine bz_rw_rR (pc := 68) dX11_bestFor_68 fl_X11_50 hP21 (fun r_22 hP22 => ?_)
        clear hP21
        refine bz_aload (pc := 71) dX11_bestFor_71 rfl ?_
        refine bz_rw_rI (pc := 73) dX11_bestFor_73 fl_X11_183 hP22 (fun x_23 hP23 => ?_)
        clear hP22
        refine bz_aload (pc := 76) dX11_bestFor_76 rfl ?_
        refine bz_rw_rI (pc := 78) dX11_bestFor_78 fl_X11_188 hP23 (fun x_24 hP24 => ?_)
        clear hP23
        refine bz_aload_n (pc := 81) dX11_bestFor_81 rfl rfl ?_
        refine bz_rw_rR (pc := 82) dX11_bestFor_82 fl_X11_12 hP24 (fun r_25 hP25 => ?_)
        clear hP24
        obtain ⟨a_26, rfl, hP26⟩ := hP25
        refine bz_rw_rI (pc := 85) dX11_bestFor_85 fl_X11_103 hP26 (fun x_27 hP27 => ?_)
        clear hP26
        refine bz_aload_n (pc := 88) dX11_bestFor_88 rfl rfl ?_
        obtain ⟨a_30, rfl, hP28⟩ := hP27
        refine bz_kIV (as := [.inl x_23, .inl x_24, .inl x_27, .inr (some a_21)]) (st := []) (ci := 9) (n := 4) (mc := 0) (ms := 0) (bc := bc) (bs := bs) (yc := kX9_planOne) (q := (RX9, TX9, 11)) (b := a_30) (pc := 89) dX11_bestFor_89 sc_X9_planOne ml_X11_215 im_X9_planOne se_X9_planOne rfl rfl rfl (Nat.le_of_ble_eq_true rfl) hP28 (fun x_28 h_29 hP29 => ?_)
        clear hP28
        refine bz_if_ne (tgt := 98) (pc := 92) dX11_bestFor_92 rfl (fun c => ?_) (fun c => ?_)
        · have hP30 := hP29.1 c
          clear hP29
          refine bz_aload_n (pc := 98) dX11_bestFor_98 rfl rfl ?_
          refine bz_rw_rR (pc := 99) dX11_bestFor_99 fl_X11_12 hP30 (fun r_31 hP31 => ?_)
          clear hP30
          refine bz_aload_n (pc := 102) dX11_bestFor_102 rfl rfl ?_
          refine bz_rw_rR (pc := 103) dX11_bestFor_103 fl_X11_57 hP31 (fun r_32 hP32 => ?_)
          clear hP31
          refine bz_iload (pc := 106) dX11_bestFor_106 rfl ?_
          refine bz_aload_n (pc := 108) dX11_bestFor_108 rfl rfl ?_
          obtain ⟨a_35, rfl, hP33⟩ := hP32
          refine bz_kVV (as := [.inr r_32, .inl x6, .inr (some a_21)]) (st := []) (ci := 10) (n := 3) (mc := 0) (ms := 0) (bc := bc) (bs := bs) (yc := kX10_nameRider) (q := (RX10, TX10, 16)) (b := a_35) (pc := 109) dX11_bestFor_109 sc_X10_nameRider ml_X11_285 im_X10_nameRider se_X10_nameRider rfl rfl rfl (Nat.le_of_ble_eq_true rfl) hP33 (fun h_34 hP34 => ?_)
          clear hP33
          refine bz_aload_n (pc := 112) dX11_bestFor_112 rfl rfl ?_
          refine bz_rw_rR (pc := 113) dX11_bestFor_113 fl_X11_57 hP34 (fun r_36 hP35 => ?_)
          clear hP34
          refine bz_aload_n (pc := 116) dX11_bestFor_116 rfl rfl ?_
          refine bz_rw_rR (pc := 117) dX11_bestFor_117 fl_X11_12 hP35 (fun r_37 hP36 => ?_)
          clear hP35
          obtain ⟨a_38, rfl, hP37⟩ := hP36
          refine bz_rw_rI (pc := 120) dX11_bestFor_120 fl_X11_103 hP37 (fun x_39 hP38 => ?_)
          clear hP37
          refine bz_aload_n (pc := 123) dX11_bestFor_123 rfl rfl ?_
          refine bz_rw_rI (pc := 124) dX11_bestFor_124 fl_X11_147 hP38 (fun x_40 hP39 => ?_)
          clear hP38
          refine bz_isub (pc := 127) dX11_bestFor_127 ?_
          refine bz_aload_n (pc := 128) dX11_bestFor_128 rfl rfl ?_
          refine bz_rw_rR (pc := 129) dX11_bestFor_129 fl_X11_50 hP39 (fun r_41 hP40 => ?_)
          clear hP39
          obtain ⟨a_42, rfl, hP41⟩ := hP40
          refine bz_rw_rI (pc := 132) dX11_bestFor_132 fl_X11_222 hP41 (fun x_43 hP42 => ?_)
          clear hP41
          obtain ⟨a_46, rfl, hP43⟩ := hP42
          refine bz_kVV (as := [.inl (x_39 - x_40), .inl x_43]) (st := []) (ci := 0) (n := 2) (mc := 0) (ms := 0) (bc := bc) (bs := bs) (yc := kX0_putTimes) (q := (RX0, TX0, 2)) (b := a_46) (pc := 135) dX11_bestFor_135 sc_X0_putTimes ml_X11_289 im_X0_putTimes se_X0_putTimes rfl rfl rfl (Nat.le_of_ble_eq_true rfl) hP43 (fun h_45 hP44 => ?_)
          clear hP43
          refine bz_aload_n (pc := 138) dX11_bestFor_138 rfl rfl ?_
          refine bz_rw_rR (pc := 139) dX11_bestFor_139 fl_X11_57 hP44 (fun r_47 hP45 => ?_)
          clear hP44
          refine bz_aload_n (pc := 142) dX11_bestFor_142 rfl rfl ?_
          obtain ⟨a_50, rfl, hP46⟩ := hP45
          refine bz_kIV (as := [.inr r2]) (st := []) (ci := 0) (n := 1) (mc := 0) (ms := 0) (bc := bc) (bs := bs) (yc := kX0_worthOf) (q := (RX0, TX0, 2)) (b := a_50) (pc := 143) dX11_bestFor_143 sc_X0_worthOf ml_X11_292 im_X0_worthOf se_X0_worthOf rfl rfl rfl (Nat.le_of_ble_eq_true rfl) hP46 (fun x_48 h_49 hP47 => ?_)
          clear hP46
          refine bz_s_istore (pc := 146) dX11_bestFor_146 (Nat.le_of_ble_eq_true rfl) [some (.inr (some a0)), some (.inl x1), some (.inr r2), some (.inr (some a_21)), some (.inl x4), some (.inl x5), some (.inl x6), some (.inr (some a_14)), some (.inl x_48)] rfl ?_
          refine bz_iload (pc := 148) dX11_bestFor_148 rfl ?_
          refine bz_iconst (pc := 150) dX11_bestFor_150 ci_m1 ?_
          refine bz_icmp_eq (tgt := 161) (pc := 151) dX11_bestFor_151 rfl (fun c => ?_) (fun c => ?_)
          · have hP48 := hP47.1 c
            clear hP47
            refine bz_iload (pc := 161) dX11_bestFor_161 rfl ?_
            refine bz_s_istore (pc := 163) dX11_bestFor_163 (Nat.le_of_ble_eq_true rfl) [some (.inr (some a0)), some (.inl x1), some (.inr r2), some (.inr (some a_21)), some (.inl x6), some (.inl x5), some (.inl x6), some (.inr (some a_14)), some (.inl x_48)] rfl ?_
            refine bz_iload (pc := 165) dX11_bestFor_165 rfl ?_
            refine bz_s_istore (pc := 167) dX11_bestFor_167 (Nat.le_of_ble_eq_true rfl) [some (.inr (some a0)), some (.inl x1), some (.inr r2), some (.inr (some a_21)), some (.inl x6), some (.inl x_48), some (.inl x6), some (.inr (some a_14)), some (.inl x_48)] rfl ?_
            refine bz_s_iinc (pc := 169) dX11_bestFor_169 (Nat.le_of_ble_eq_true rfl) rfl rfl [some (.inr (some a0)), some (.inl x1), some (.inr r2), some (.inr (some a_21)), some (.inl x6), some (.inl x_48), some (.inl (x6 + 1)), some (.inr (some a_14)), some (.inl x_48)] rfl ?_
            refine bz_goto (tgt := 19) (pc := 172) dX11_bestFor_172 rfl ?_
            exact hP48
          · have hP49 := hP47.2 c
            clear hP47
            refine bz_iload (pc := 154) dX11_bestFor_154 rfl ?_
            refine bz_iload (pc := 156) dX11_bestFor_156 rfl ?_
            refine bz_icmp_le (tgt := 169) (pc := 158) dX11_bestFor_158 rfl (fun c => ?_) (fun c => ?_)
            · have hP50 := hP49.1 c
              clear hP49
              refine bz_s_iinc (pc := 169) dX11_bestFor_169 (Nat.le_of_ble_eq_true rfl) rfl rfl [some (.inr (some a0)), some (.inl x1), some (.inr r2), some (.inr (some a_21)), some (.inl x4), some (.inl x5), some (.inl (x6 + 1)), some (.inr (some a_14)), some (.inl x_48)] rfl ?_
              refine bz_goto (tgt := 19) (pc := 172) dX11_bestFor_172 rfl ?_
              exact hP50
            · have hP51 := hP49.2 c
              clear hP49
              refine bz_iload (pc := 161) dX11_bestFor_161 rfl ?_
              refine bz_s_istore (pc := 163) dX11_bestFor_163 (Nat.le_of_ble_eq_true rfl) [some (.inr (some a0)), some (.inl x1), some (.inr r2), some (.inr (some a_21)), some (.inl x6), some (.inl x5), some (.inl x6), some (.inr (some a_14)), some (.inl x_48)] rfl ?_
              refine bz_iload (pc := 165) dX11_bestFor_165 rfl ?_
              refine bz_s_istore (pc := 167) dX11_bestFor_167 (Nat.le_of_ble_eq_true rfl) [some (.inr (some a0)), some (.inl x1), some (.inr r2), some (.inr (some a_21)), some (.inl x6), some (.inl x_48), some (.inl x6), some (.inr (some a_14)), some (.inl x_48)] rfl ?_
              refine bz_s_iinc (pc := 169) dX11_bestFor_169 (Nat.le_of_ble_eq_true rfl) rfl rfl [some (.inr (some a0)), some (.inl x1), some (.inr r2), some (.inr (some a_21)), some (.inl x6), some (.inl x_48), some (.inl (x6 + 1)), some (.inr (some a_14)), some (.inl x_48)] rfl ?_
              refine bz_goto (tgt := 19) (pc := 172) dX11_bestFor_172 rfl ?_
              exact hP51
        · have hP52 := hP29.2 c
          clear hP29
          refine bz_goto (tgt := 169) (pc := 95) dX11_bestFor_95 rfl ?_
          refine bz_s_iinc (pc := 169) dX11_bestFor_169 (Nat.le_of_ble_eq_true rfl) rfl rfl [some (.inr (some a0)), some (.inl x1), some (.inr r2), some (.inr (some a_21)), some (.inl x4), some (.inl x5), some (.inl (x6 + 1)), some (.inr (some a_14)), u8] rfl ?_
          refine bz_goto (tgt := 19) (pc := 172) dX11_bestFor_172 rfl ?_
          exact hP52
theorem m_X11_bestFor {G : bz_G} {l : Launch} {d mc ms : Nat} {F : Option bz_V → bz_H → Prop} (a0 : Nat) (x1 : Int32) (r2 : Option Nat) (h : bz_H) (hP : ∀ (κ : bz_K) (bc bs : Nat), κ.2.1 = l → w_X11_bestFor_0 G κ l d F bc bs a0 x1 r2 h) : bz_Call G l (d + 1) kX11_bestFor [.inr (some a0), .inl x1, .inr r2] h mc ms F :=
  bz_body (by decide) (Nat.le_of_ble_eq_true rfl) (fun κ hl => g_X11_bestFor_0 hl a0 x1 r2 h (hP κ mc ms hl))
def w_X11_callOff_0 (G : bz_G) (l : Launch) (d : Nat) (F : Option bz_V → bz_H → Prop) (a0 : Nat) (x1 : Int32) (h : bz_H) : Prop := bz_rR h a0 11 0 (fun r_1 => bz_nn r_1 (fun a_4 => bz_rc h a_4 10 (bz_cR G l d kX10_orderAt [.inr (some a_4), .inl x1] h 0 0 (fun r_2 h_3 => (∀ a_5, r_2 = some a_5 → bz_rI h_3 a_5 2 7 (fun x_8 => (x_8 = 0 → bz_wI h_3 a_5 2 7 2 (fun h_9 => F (some (.inl 1)) h_9)) ∧ (¬ (x_8 = 0) → bz_rc h_3 a0 11 (bz_cI G l d kX11_finding [.inr (some a0), .inl (-1000005)] h_3 0 0 (fun x_10 h_11 => F (some (.inl x_10)) h_11))))) ∧ (r_2 = none → bz_rc h_3 a0 11 (bz_cI G l d kX11_finding [.inr (some a0), .inl (-1000001)] h_3 0 0 (fun x_6 h_7 => F (some (.inl x_6)) h_7)))))))
set_option maxRecDepth 20000 in
set_option maxHeartbeats 4000000 in
theorem g_X11_callOff_0 {G : bz_G} {κ : bz_K} {l : Launch} {d : Nat} {F : Option bz_V → bz_H → Prop} {bc bs : Nat} (hl : κ.2.1 = l) (a0 : Nat) (x1 : Int32) (h : bz_H) (hP0 : w_X11_callOff_0 G l d F a0 x1 h) : bz_J G κ kX11_callOff (d + 1) F bc bs 0 [some (.inr (some a0)), some (.inl x1), none] [] h := by
  subst hl
  unfold w_X11_callOff_0 at hP0
  refine bz_aload_n (pc := 0) dX11_callOff_0 rfl rfl ?_
  refine bz_rw_rR (pc := 1) dX11_callOff_1 fl_X11_12 hP0 (fun r_1 hP1 => ?_)
  clear hP0
  refine bz_iload_n (pc := 4) dX11_callOff_4 rfl rfl ?_
  obtain ⟨a_4, rfl, hP2⟩ := hP1
  refine bz_kRV (as := [.inl x1]) (st := []) (ci := 10) (n := 1) (mc := 0) (ms := 0) (bc := bc) (bs := bs) (yc := kX10_orderAt) (q := (RX10, TX10, 16)) (b := a_4) (pc := 5) dX11_callOff_5 sc_X10_orderAt ml_X11_132 im_X10_orderAt se_X10_orderAt rfl rfl rfl (Nat.le_of_ble_eq_true rfl) hP2 (fun r_2 h_3 hP3 => ?_)
  clear hP2
  refine bz_s_astore_n (pc := 8) dX11_callOff_8 rfl (Nat.le_of_ble_eq_true rfl) [some (.inr (some a0)), some (.inl x1), some (.inr r_2)] rfl ?_
  refine bz_aload_n (pc := 9) dX11_callOff_9 rfl rfl ?_
  refine bz_ifnonnull (tgt := 20) (pc := 10) dX11_callOff_10 rfl (fun a_5 c => ?_) (fun c => ?_)
  · have hP4 := hP3.1 a_5 c
    clear hP3
    subst c
    refine bz_aload_n (pc := 20) dX11_callOff_20 rfl rfl ?_
    refine bz_rw_rI (pc := 21) dX11_callOff_21 fl_X11_136 hP4 (fun x_8 hP5 => ?_)
    clear hP4
    refine bz_if_eq (tgt := 34) (pc := 24) dX11_callOff_24 rfl (fun c => ?_) (fun c => ?_)
    · have hP6 := hP5.1 c
      clear hP5
      refine bz_aload_n (pc := 34) dX11_callOff_34 rfl rfl ?_
      refine bz_iconst (pc := 35) dX11_callOff_35 ci_2 ?_
      refine bz_rw_wI (pc := 36) dX11_callOff_36 fl_X11_136 (fun q h9 => by cases h9; rfl) rfl hP6 (fun h_9 hP7 => ?_)
      clear hP6
      refine bz_iconst (pc := 39) dX11_callOff_39 ci_1 ?_
      exact bz_retI (pc := 40) dX11_callOff_40 rfl rfl hP7
    · have hP8 := hP5.2 c
      clear hP5
      refine bz_aload_n (pc := 27) dX11_callOff_27 rfl rfl ?_
      refine bz_ldc (pc := 28) dX11_callOff_28 ct_X11_107 ?_
      refine bz_kIV (as := [.inl (-1000005)]) (st := []) (ci := 11) (n := 1) (mc := 0) (ms := 0) (bc := bc) (bs := bs) (yc := kX11_finding) (q := (RX11, TX11, 9)) (b := a0) (pc := 30) dX11_callOff_30 sc_X11_finding ml_X11_79 im_X11_finding se_X11_finding rfl rfl rfl (Nat.le_of_ble_eq_true rfl) hP8 (fun x_10 h_11 hP9 => ?_)
      clear hP8
      exact bz_retI (pc := 33) dX11_callOff_33 rfl rfl hP9
  · have hP10 := hP3.2 c
    clear hP3
    subst c
    refine bz_aload_n (pc := 13) dX11_callOff_13 rfl rfl ?_
    refine bz_ldc (pc := 14) dX11_callOff_14 ct_X11_78 ?_
    refine bz_kIV (as := [.inl (-1000001)]) (st := []) (ci := 11) (n := 1) (mc := 0) (ms := 0) (bc := bc) (bs := bs) (yc := kX11_finding) (q := (RX11, TX11, 9)) (b := a0) (pc := 16) dX11_callOff_16 sc_X11_finding ml_X11_79 im_X11_finding se_X11_finding rfl rfl rfl (Nat.le_of_ble_eq_true rfl) hP10 (fun x_6 h_7 hP11 => ?_)
    clear hP10
    exact bz_retI (pc := 19) dX11_callOff_19 rfl rfl hP11
theorem m_X11_callOff {G : bz_G} {l : Launch} {d mc ms : Nat} {F : Option bz_V → bz_H → Prop} (a0 : Nat) (x1 : Int32) (h : bz_H) (hP : w_X11_callOff_0 G l d F a0 x1 h) : bz_Call G l (d + 1) kX11_callOff [.inr (some a0), .inl x1] h mc ms F :=
  bz_body (by decide) (Nat.le_of_ble_eq_true rfl) (fun κ hl => g_X11_callOff_0 hl a0 x1 h hP)
