def w_X12_payFor_0 (G : bz_G) (l : Launch) (d : Nat) (F : Option bz_V → bz_H → Prop) (a0 : Nat) (x1 : Int32) (x2 : Int32) (x3 : Int32) (h : bz_H) : Prop := bz_rR h a0 12 0 (fun r_1 => bz_nn r_1 (fun a_2 => bz_rA h a_2 6 (fun x_3 => (0 ≤ x_3 → bz_rc h a0 12 (bz_cI G l d kX12_ofRider [.inr (some a0), .inl x1, .inl 0] h 0 0 (fun x_4 h_5 => bz_rc h_5 a0 12 (bz_cI G l d kX12_ofRider [.inr (some a0), .inl x1, .inl 1] h_5 0 0 (fun x_6 h_7 => bz_rc h_7 a0 12 (bz_cV G l d kX12_nameWays [.inr (some a0), .inl x_4, .inl x_6, .inl x2] h_7 0 0 (fun h_9 => bz_rR h_9 a0 12 22 (fun r_10 => bz_rR h_9 a0 12 9 (fun r_11 => bz_nn r_11 (fun a_12 => bz_rA h_9 a_12 x3 (fun x_13 => bz_rc h_9 a0 12 (bz_cI G l d kX12_ofOrder [.inr (some a0), .inl x2, .inl 2] h_9 0 0 (fun x_14 h_15 => bz_nn r_10 (fun a_16 => bz_wA h_15 a_16 119 (x_13 - x_14) (fun h_17 => bz_rR h_17 a0 12 22 (fun r_18 => bz_rc h_17 a0 12 (bz_cI G l d kX12_ofRider [.inr (some a0), .inl x1, .inl 3] h_17 0 0 (fun x_19 h_20 => bz_nn r_18 (fun a_21 => bz_wA h_20 a_21 104 x_19 (fun h_22 => bz_rR h_22 a0 12 22 (fun r_23 => bz_rc h_22 a0 12 (bz_cI G l d kX12_ratingOfRider [.inr (some a0), .inl x1] h_22 0 0 (fun x_24 h_25 => bz_nn r_23 (fun a_26 => bz_wA h_25 a_26 114 x_24 (fun h_27 => bz_rR h_27 a0 12 22 (fun r_28 => bz_rR h_27 a0 12 10 (fun r_29 => bz_nn r_29 (fun a_30 => bz_rA h_27 a_30 x3 (fun x_31 => bz_rc h_27 a0 12 (bz_cI G l d kX12_lateBy [.inr (some a0), .inl x2, .inl x_31] h_27 0 0 (fun x_32 h_33 => bz_nn r_28 (fun a_34 => bz_wA h_33 a_34 108 x_32 (fun h_35 => bz_rR h_35 a0 12 22 (fun r_36 => bz_nn r_36 (fun a_37 => bz_wA h_35 a_37 110 x1 (fun h_38 => bz_rR h_38 a0 12 0 (fun r_39 => bz_nn r_39 (fun a_40 => bz_rA h_38 a_40 6 (fun x_41 => bz_rc h_38 a0 12 (bz_cI G l d kX12_works [.inr (some a0), .inl x_41] h_38 0 0 (fun x_42 h_43 => F (some (.inl (if 0 ≤ x_42 then if x_42 ≤ 9999 then x_42 else 9999 else 0))) h_43))))))))))))))))))))))))))))))))))))))))) ∧ (¬ (0 ≤ x_3) → F (some (.inl 0)) h))))
set_option maxRecDepth 20000 in
set_option maxHeartbeats 4000000 in
theorem g_X12_payFor_0 {G : bz_G} {κ : bz_K} {l : Launch} {d : Nat} {F : Option bz_V → bz_H → Prop} {bc bs : Nat} (hl : κ.2.1 = l) (a0 : Nat) (x1 : Int32) (x2 : Int32) (x3 : Int32) (h : bz_H) (hP0 : w_X12_payFor_0 G l d F a0 x1 x2 x3 h) : bz_J G κ kX12_payFor (d + 1) F bc bs 0 [some (.inr (some a0)), some (.inl x1), some (.inl x2), some (.inl x3), none, none] [] h := by
  subst hl
  unfold w_X12_payFor_0 at hP0
  refine bz_aload_n (pc := 0) dX12_payFor_0 rfl rfl ?_
  refine bz_rw_rR (pc := 1) dX12_payFor_1 fl_X12_7 hP0 (fun r_1 hP1 => ?_)
  clear hP0
  refine bz_bipush (pc := 4) dX12_payFor_4 cb_6 ?_
  obtain ⟨a_2, rfl, hP2⟩ := hP1
  refine bz_rw_rA (pc := 6) dX12_payFor_6 hP2 (fun x_3 hP3 => ?_)
  clear hP2
  refine bz_if_ge (tgt := 12) (pc := 7) dX12_payFor_7 rfl (fun c => ?_) (fun c => ?_)
  · have hP4 := hP3.1 c
    clear hP3
    refine bz_aload_n (pc := 12) dX12_payFor_12 rfl rfl ?_
    refine bz_iload_n (pc := 13) dX12_payFor_13 rfl rfl ?_
    refine bz_iconst (pc := 14) dX12_payFor_14 ci_0 ?_
    refine bz_kIV (as := [.inl x1, .inl 0]) (st := []) (ci := 12) (n := 2) (mc := 0) (ms := 0) (bc := bc) (bs := bs) (yc := kX12_ofRider) (q := (RX12, TX12, 34)) (b := a0) (pc := 15) dX12_payFor_15 sc_X12_ofRider ml_X12_136 im_X12_ofRider se_X12_ofRider rfl rfl rfl (Nat.le_of_ble_eq_true rfl) hP4 (fun x_4 h_5 hP5 => ?_)
    clear hP4
    refine bz_s_istore (pc := 18) dX12_payFor_18 (Nat.le_of_ble_eq_true rfl) [some (.inr (some a0)), some (.inl x1), some (.inl x2), some (.inl x3), some (.inl x_4), none] rfl ?_
    refine bz_aload_n (pc := 20) dX12_payFor_20 rfl rfl ?_
    refine bz_iload (pc := 21) dX12_payFor_21 rfl ?_
    refine bz_aload_n (pc := 23) dX12_payFor_23 rfl rfl ?_
    refine bz_iload_n (pc := 24) dX12_payFor_24 rfl rfl ?_
    refine bz_iconst (pc := 25) dX12_payFor_25 ci_1 ?_
    refine bz_kIV (as := [.inl x1, .inl 1]) (st := [.inl x_4, .inr (some a0)]) (ci := 12) (n := 2) (mc := 0) (ms := 0) (bc := bc) (bs := bs) (yc := kX12_ofRider) (q := (RX12, TX12, 34)) (b := a0) (pc := 26) dX12_payFor_26 sc_X12_ofRider ml_X12_136 im_X12_ofRider se_X12_ofRider rfl rfl rfl (Nat.le_of_ble_eq_true rfl) hP5 (fun x_6 h_7 hP6 => ?_)
    clear hP5
    refine bz_iload_n (pc := 29) dX12_payFor_29 rfl rfl ?_
    refine bz_kVV (as := [.inl x_4, .inl x_6, .inl x2]) (st := []) (ci := 12) (n := 3) (mc := 0) (ms := 0) (bc := bc) (bs := bs) (yc := kX12_nameWays) (q := (RX12, TX12, 34)) (b := a0) (pc := 30) dX12_payFor_30 sc_X12_nameWays ml_X12_215 im_X12_nameWays se_X12_nameWays rfl rfl rfl (Nat.le_of_ble_eq_true rfl) hP6 (fun h_9 hP7 => ?_)
    clear hP6
    refine bz_aload_n (pc := 33) dX12_payFor_33 rfl rfl ?_
    refine bz_rw_rR (pc := 34) dX12_payFor_34 fl_X12_34 hP7 (fun r_10 hP8 => ?_)
    clear hP7
    refine bz_bipush (pc := 37) dX12_payFor_37 cb_119 ?_
    refine bz_aload_n (pc := 39) dX12_payFor_39 rfl rfl ?_
    refine bz_rw_rR (pc := 40) dX12_payFor_40 fl_X12_22 hP8 (fun r_11 hP9 => ?_)
    clear hP8
    refine bz_iload_n (pc := 43) dX12_payFor_43 rfl rfl ?_
    obtain ⟨a_12, rfl, hP10⟩ := hP9
    refine bz_rw_rA (pc := 44) dX12_payFor_44 hP10 (fun x_13 hP11 => ?_)
    clear hP10
    refine bz_aload_n (pc := 45) dX12_payFor_45 rfl rfl ?_
    refine bz_iload_n (pc := 46) dX12_payFor_46 rfl rfl ?_
    refine bz_iconst (pc := 47) dX12_payFor_47 ci_2 ?_
    refine bz_kIV (as := [.inl x2, .inl 2]) (st := [.inl x_13, .inl 119, .inr r_10]) (ci := 12) (n := 2) (mc := 0) (ms := 0) (bc := bc) (bs := bs) (yc := kX12_ofOrder) (q := (RX12, TX12, 34)) (b := a0) (pc := 48) dX12_payFor_48 sc_X12_ofOrder ml_X12_99 im_X12_ofOrder se_X12_ofOrder rfl rfl rfl (Nat.le_of_ble_eq_true rfl) hP11 (fun x_14 h_15 hP12 => ?_)
    clear hP11
    refine bz_isub (pc := 51) dX12_payFor_51 ?_
    obtain ⟨a_16, rfl, hP13⟩ := hP12
    refine bz_rw_wA (pc := 52) dX12_payFor_52 hP13 (fun h_17 hP14 => ?_)
    clear hP13
    refine bz_aload_n (pc := 53) dX12_payFor_53 rfl rfl ?_
    refine bz_rw_rR (pc := 54) dX12_payFor_54 fl_X12_34 hP14 (fun r_18 hP15 => ?_)
    clear hP14
    refine bz_bipush (pc := 57) dX12_payFor_57 cb_104 ?_
    refine bz_aload_n (pc := 59) dX12_payFor_59 rfl rfl ?_
    refine bz_iload_n (pc := 60) dX12_payFor_60 rfl rfl ?_
    refine bz_iconst (pc := 61) dX12_payFor_61 ci_3 ?_
    refine bz_kIV (as := [.inl x1, .inl 3]) (st := [.inl 104, .inr r_18]) (ci := 12) (n := 2) (mc := 0) (ms := 0) (bc := bc) (bs := bs) (yc := kX12_ofRider) (q := (RX12, TX12, 34)) (b := a0) (pc := 62) dX12_payFor_62 sc_X12_ofRider ml_X12_136 im_X12_ofRider se_X12_ofRider rfl rfl rfl (Nat.le_of_ble_eq_true rfl) hP15 (fun x_19 h_20 hP16 => ?_)
    clear hP15
    obtain ⟨a_21, rfl, hP17⟩ := hP16
    refine bz_rw_wA (pc := 65) dX12_payFor_65 hP17 (fun h_22 hP18 => ?_)
    clear hP17
    refine bz_aload_n (pc := 66) dX12_payFor_66 rfl rfl ?_
    refine bz_rw_rR (pc := 67) dX12_payFor_67 fl_X12_34 hP18 (fun r_23 hP19 => ?_)
    clear hP18
    refine bz_bipush (pc := 70) dX12_payFor_70 cb_114 ?_
    refine bz_aload_n (pc := 72) dX12_payFor_72 rfl rfl ?_
    refine bz_iload_n (pc := 73) dX12_payFor_73 rfl rfl ?_
    refine bz_kIV (as := [.inl x1]) (st := [.inl 114, .inr r_23]) (ci := 12) (n := 1) (mc := 0) (ms := 0) (bc := bc) (bs := bs) (yc := kX12_ratingOfRider) (q := (RX12, TX12, 34)) (b := a0) (pc := 74) dX12_payFor_74 sc_X12_ratingOfRider ml_X12_148 im_X12_ratingOfRider se_X12_ratingOfRider rfl rfl rfl (Nat.le_of_ble_eq_true rfl) hP19 (fun x_24 h_25 hP20 => ?_)
    clear hP19
    obtain ⟨a_26, rfl, hP21⟩ := hP20
    refine bz_rw_wA (pc := 77) dX12_payFor_77 hP21 (fun h_27 hP22 => ?_)
    clear hP21
    refine bz_aload_n (pc := 78) dX12_payFor_78 rfl rfl ?_
    refine bz_rw_rR (pc := 79) dX12_payFor_79 fl_X12_34 hP22 (fun r_28 hP23 => ?_)
    clear hP22
    refine bz_bipush (pc := 82) dX12_payFor_82 cb_108 ?_
    refine bz_aload_n (pc := 84) dX12_payFor_84 rfl rfl ?_
    refine bz_iload_n (pc := 85) dX12_payFor_85 rfl rfl ?_
    refine bz_aload_n (pc := 86) dX12_payFor_86 rfl rfl ?_
    refine bz_rw_rR (pc := 87) dX12_payFor_87 fl_X12_25 hP23 (fun r_29 hP24 => ?_)
    clear hP23
    refine bz_iload_n (pc := 90) dX12_payFor_90 rfl rfl ?_
    obtain ⟨a_30, rfl, hP25⟩ := hP24
    refine bz_rw_rA (pc := 91) dX12_payFor_91 hP25 (fun x_31 hP26 => ?_)
    clear hP25
    refine bz_kIV (as := [.inl x2, .inl x_31]) (st := [.inl 108, .inr r_28]) (ci := 12) (n := 2) (mc := 0) (ms := 0) (bc := bc) (bs := bs) (yc := kX12_lateBy) (q := (RX12, TX12, 34)) (b := a0) (pc := 92) dX12_payFor_92 sc_X12_lateBy ml_X12_102 im_X12_lateBy se_X12_lateBy rfl rfl rfl (Nat.le_of_ble_eq_true rfl) hP26 (fun x_32 h_33 hP27 => ?_)
    clear hP26
    obtain ⟨a_34, rfl, hP28⟩ := hP27
    refine bz_rw_wA (pc := 95) dX12_payFor_95 hP28 (fun h_35 hP29 => ?_)
    clear hP28
    refine bz_aload_n (pc := 96) dX12_payFor_96 rfl rfl ?_
    refine bz_rw_rR (pc := 97) dX12_payFor_97 fl_X12_34 hP29 (fun r_36 hP30 => ?_)
    clear hP29
    refine bz_bipush (pc := 100) dX12_payFor_100 cb_110 ?_
    refine bz_iload_n (pc := 102) dX12_payFor_102 rfl rfl ?_
    obtain ⟨a_37, rfl, hP31⟩ := hP30
    refine bz_rw_wA (pc := 103) dX12_payFor_103 hP31 (fun h_38 hP32 => ?_)
    clear hP31
    refine bz_aload_n (pc := 104) dX12_payFor_104 rfl rfl ?_
    refine bz_aload_n (pc := 105) dX12_payFor_105 rfl rfl ?_
    refine bz_rw_rR (pc := 106) dX12_payFor_106 fl_X12_7 hP32 (fun r_39 hP33 => ?_)
    clear hP32
    refine bz_bipush (pc := 109) dX12_payFor_109 cb_6 ?_
    obtain ⟨a_40, rfl, hP34⟩ := hP33
    refine bz_rw_rA (pc := 111) dX12_payFor_111 hP34 (fun x_41 hP35 => ?_)
    clear hP34
    refine bz_kIV (as := [.inl x_41]) (st := []) (ci := 12) (n := 1) (mc := 0) (ms := 0) (bc := bc) (bs := bs) (yc := kX12_works) (q := (RX12, TX12, 34)) (b := a0) (pc := 112) dX12_payFor_112 sc_X12_works ml_X12_218 im_X12_works se_X12_works rfl rfl rfl (Nat.le_of_ble_eq_true rfl) hP35 (fun x_42 h_43 hP36 => ?_)
    clear hP35
    refine bz_s_istore (pc := 115) dX12_payFor_115 (Nat.le_of_ble_eq_true rfl) [some (.inr (some a0)), some (.inl x1), some (.inl x2), some (.inl x3), some (.inl x_4), some (.inl x_42)] rfl ?_
    refine bz_iload (pc := 117) dX12_payFor_117 rfl ?_
    have hJ : bz_J G κ kX12_payFor (d + 1) F bc bs 142 [some (.inr (some a0)), some (.inl x1), some (.inl x2), some (.inl x3), some (.inl x_4), some (.inl x_42)] [.inl (if 0 ≤ x_42 then if x_42 ≤ 9999 then x_42 else 9999 else 0)] h_43 := by
      exact bz_retI (pc := 142) dX12_payFor_142 rfl rfl hP36
    refine bz_if_ge (tgt := 126) (pc := 119) dX12_payFor_119 rfl (fun c => ?_) (fun c => ?_)
    · have e9 : ((if 0 ≤ x_42 then if x_42 ≤ 9999 then x_42 else 9999 else 0) : Int32) = (if x_42 ≤ 9999 then x_42 else 9999) := if_pos c
      rw [e9] at hJ
      refine bz_iload (pc := 126) dX12_payFor_126 rfl ?_
      refine bz_sipush (pc := 128) dX12_payFor_128 cs_9999 ?_
      refine bz_icmp_le (tgt := 140) (pc := 131) dX12_payFor_131 rfl (fun c => ?_) (fun c => ?_)
      · have e9 : ((if x_42 ≤ 9999 then x_42 else 9999) : Int32) = (x_42) := if_pos c
        rw [e9] at hJ
        refine bz_iload (pc := 140) dX12_payFor_140 rfl ?_
        exact hJ
      · have e9 : ((if x_42 ≤ 9999 then x_42 else 9999) : Int32) = (9999) := if_neg c
        rw [e9] at hJ
        refine bz_sipush (pc := 134) dX12_payFor_134 cs_9999 ?_
        refine bz_goto (tgt := 142) (pc := 137) dX12_payFor_137 rfl ?_
        exact hJ
    · have e9 : ((if 0 ≤ x_42 then if x_42 ≤ 9999 then x_42 else 9999 else 0) : Int32) = (0) := if_neg c
      rw [e9] at hJ
      refine bz_iconst (pc := 122) dX12_payFor_122 ci_0 ?_
      refine bz_goto (tgt := 142) (pc := 123) dX12_payFor_123 rfl ?_
      exact hJ
  · have hP37 := hP3.2 c
    clear hP3
    refine bz_iconst (pc := 10) dX12_payFor_10 ci_0 ?_
    exact bz_retI (pc := 11) dX12_payFor_11 rfl rfl hP37
theorem m_X12_payFor {G : bz_G} {l : Launch} {d mc ms : Nat} {F : Option bz_V → bz_H → Prop} (a0 : Nat) (x1 : Int32) (x2 : Int32) (x3 : Int32) (h : bz_H) (hP : w_X12_payFor_0 G l d F a0 x1 x2 x3 h) : bz_Call G l (d + 1) kX12_payFor [.inr (some a0), .inl x1, .inl x2, .inl x3] h mc ms F :=
  bz_body (by decide) (Nat.le_of_ble_eq_true rfl) (fun κ hl => g_X12_payFor_0 hl a0 x1 x2 x3 h hP)
def w_X12_payOfAll_0 (G : bz_G) (κ : bz_K) (l : Launch) (d : Nat) (F : Option bz_V → bz_H → Prop) (bc bs : Nat) (a0 : Nat) (x1 : Int32) (h : bz_H) : Prop := bz_J G κ kX12_payOfAll (d + 1) F bc bs 4 [some (.inr (some a0)), some (.inl x1), some (.inl 0), some (.inl 0)] [] h
set_option maxRecDepth 20000 in
set_option maxHeartbeats 4000000 in
theorem g_X12_payOfAll_0 {G : bz_G} {κ : bz_K} {l : Launch} {d : Nat} {F : Option bz_V → bz_H → Prop} {bc bs : Nat} (hl : κ.2.1 = l) (a0 : Nat) (x1 : Int32) (h : bz_H) (hP0 : w_X12_payOfAll_0 G κ l d F bc bs a0 x1 h) : bz_J G κ kX12_payOfAll (d + 1) F bc bs 0 [some (.inr (some a0)), some (.inl x1), none, none] [] h := by
  subst hl
  unfold w_X12_payOfAll_0 at hP0
  refine bz_iconst (pc := 0) dX12_payOfAll_0 ci_0 ?_
  refine bz_s_istore_n (pc := 1) dX12_payOfAll_1 rfl (Nat.le_of_ble_eq_true rfl) [some (.inr (some a0)), some (.inl x1), some (.inl 0), none] rfl ?_
  refine bz_iconst (pc := 2) dX12_payOfAll_2 ci_0 ?_
  refine bz_s_istore_n (pc := 3) dX12_payOfAll_3 rfl (Nat.le_of_ble_eq_true rfl) [some (.inr (some a0)), some (.inl x1), some (.inl 0), some (.inl 0)] rfl ?_
  exact hP0
def w_X12_payOfAll_4 (G : bz_G) (κ : bz_K) (l : Launch) (d : Nat) (F : Option bz_V → bz_H → Prop) (bc bs : Nat) (a0 : Nat) (x1 : Int32) (x2 : Int32) (x3 : Int32) (h : bz_H) : Prop := bz_rR h a0 12 0 (fun r_1 => bz_nn r_1 (fun a_2 => bz_rA h a_2 2 (fun x_3 => (x_3 ≤ x3 → F (some (.inl x2)) h) ∧ (¬ (x_3 ≤ x3) → bz_rc h a0 12 (bz_cI G l d kX12_isHis [.inr (some a0), .inl x1, .inl x3] h 0 0 (fun x_4 h_5 => (x_4 = 0 → bz_J G κ kX12_payOfAll (d + 1) F bc bs 4 [some (.inr (some a0)), some (.inl x1), some (.inl (x2 + 0)), some (.inl (x3 + 1))] [] h_5) ∧ (¬ (x_4 = 0) → bz_rc h_5 a0 12 (bz_cI G l d kX12_payOf [.inr (some a0), .inl x3] h_5 0 0 (fun x_6 h_7 => bz_J G κ kX12_payOfAll (d + 1) F bc bs 4 [some (.inr (some a0)), some (.inl x1), some (.inl (x2 + x_6)), some (.inl (x3 + 1))] [] h_7)))))))))
set_option maxRecDepth 20000 in
set_option maxHeartbeats 4000000 in
theorem g_X12_payOfAll_4 {G : bz_G} {κ : bz_K} {l : Launch} {d : Nat} {F : Option bz_V → bz_H → Prop} {bc bs : Nat} (hl : κ.2.1 = l) (a0 : Nat) (x1 : Int32) (x2 : Int32) (x3 : Int32) (h : bz_H) (hP0 : w_X12_payOfAll_4 G κ l d F bc bs a0 x1 x2 x3 h) : bz_J G κ kX12_payOfAll (d + 1) F bc bs 4 [some (.inr (some a0)), some (.inl x1), some (.inl x2), some (.inl x3)] [] h := by
  subst hl
  unfold w_X12_payOfAll_4 at hP0
  refine bz_iload_n (pc := 4) dX12_payOfAll_4 rfl rfl ?_
  refine bz_aload_n (pc := 5) dX12_payOfAll_5 rfl rfl ?_
  refine bz_rw_rR (pc := 6) dX12_payOfAll_6 fl_X12_7 hP0 (fun r_1 hP1 => ?_)
  clear hP0
  refine bz_iconst (pc := 9) dX12_payOfAll_9 ci_2 ?_
  obtain ⟨a_2, rfl, hP2⟩ := hP1
  refine bz_rw_rA (pc := 10) dX12_payOfAll_10 hP2 (fun x_3 hP3 => ?_)
  clear hP2
  refine bz_icmp_ge (tgt := 41) (pc := 11) dX12_payOfAll_11 rfl (fun c => ?_) (fun c => ?_)
  · have hP4 := hP3.1 c
    clear hP3
    refine bz_iload_n (pc := 41) dX12_payOfAll_41 rfl rfl ?_
    exact bz_retI (pc := 42) dX12_payOfAll_42 rfl rfl hP4
  · have hP5 := hP3.2 c
    clear hP3
    refine bz_iload_n (pc := 14) dX12_payOfAll_14 rfl rfl ?_
    refine bz_aload_n (pc := 15) dX12_payOfAll_15 rfl rfl ?_
    refine bz_iload_n (pc := 16) dX12_payOfAll_16 rfl rfl ?_
    refine bz_iload_n (pc := 17) dX12_payOfAll_17 rfl rfl ?_
    refine bz_kIV (as := [.inl x1, .inl x3]) (st := [.inl x2]) (ci := 12) (n := 2) (mc := 0) (ms := 0) (bc := bc) (bs := bs) (yc := kX12_isHis) (q := (RX12, TX12, 34)) (b := a0) (pc := 18) dX12_payOfAll_18 sc_X12_isHis ml_X12_132 im_X12_isHis se_X12_isHis rfl rfl rfl (Nat.le_of_ble_eq_true rfl) hP5 (fun x_4 h_5 hP6 => ?_)
    clear hP5
    refine bz_if_eq (tgt := 32) (pc := 21) dX12_payOfAll_21 rfl (fun c => ?_) (fun c => ?_)
    · have hP7 := hP6.1 c
      clear hP6
      refine bz_iconst (pc := 32) dX12_payOfAll_32 ci_0 ?_
      refine bz_iadd (pc := 33) dX12_payOfAll_33 ?_
      refine bz_s_istore_n (pc := 34) dX12_payOfAll_34 rfl (Nat.le_of_ble_eq_true rfl) [some (.inr (some a0)), some (.inl x1), some (.inl (x2 + 0)), some (.inl x3)] rfl ?_
      refine bz_s_iinc (pc := 35) dX12_payOfAll_35 (Nat.le_of_ble_eq_true rfl) rfl rfl [some (.inr (some a0)), some (.inl x1), some (.inl (x2 + 0)), some (.inl (x3 + 1))] rfl ?_
      refine bz_goto (tgt := 4) (pc := 38) dX12_payOfAll_38 rfl ?_
      exact hP7
    · have hP8 := hP6.2 c
      clear hP6
      refine bz_aload_n (pc := 24) dX12_payOfAll_24 rfl rfl ?_
      refine bz_iload_n (pc := 25) dX12_payOfAll_25 rfl rfl ?_
      refine bz_kIV (as := [.inl x3]) (st := [.inl x2]) (ci := 12) (n := 1) (mc := 0) (ms := 0) (bc := bc) (bs := bs) (yc := kX12_payOf) (q := (RX12, TX12, 34)) (b := a0) (pc := 26) dX12_payOfAll_26 sc_X12_payOf ml_X12_123 im_X12_payOf se_X12_payOf rfl rfl rfl (Nat.le_of_ble_eq_true rfl) hP8 (fun x_6 h_7 hP9 => ?_)
      clear hP8
      refine bz_goto (tgt := 33) (pc := 29) dX12_payOfAll_29 rfl ?_
      refine bz_iadd (pc := 33) dX12_payOfAll_33 ?_
      refine bz_s_istore_n (pc := 34) dX12_payOfAll_34 rfl (Nat.le_of_ble_eq_true rfl) [some (.inr (some a0)), some (.inl x1), some (.inl (x2 + x_6)), some (.inl x3)] rfl ?_
      refine bz_s_iinc (pc := 35) dX12_payOfAll_35 (Nat.le_of_ble_eq_true rfl) rfl rfl [some (.inr (some a0)), some (.inl x1), some (.inl (x2 + x_6)), some (.inl (x3 + 1))] rfl ?_
      refine bz_goto (tgt := 4) (pc := 38) dX12_payOfAll_38 rfl ?_
      exact hP9
theorem m_X12_payOfAll {G : bz_G} {l : Launch} {d mc ms : Nat} {F : Option bz_V → bz_H → Prop} (a0 : Nat) (x1 : Int32) (h : bz_H) (hP : ∀ (κ : bz_K) (bc bs : Nat), κ.2.1 = l → w_X12_payOfAll_0 G κ l d F bc bs a0 x1 h) : bz_Call G l (d + 1) kX12_payOfAll [.inr (some a0), .inl x1] h mc ms F :=
  bz_body (by decide) (Nat.le_of_ble_eq_true rfl) (fun κ hl => g_X12_payOfAll_0 hl a0 x1 h (hP κ mc ms hl))
def w_X12_payOf_0 (G : bz_G) (κ : bz_K) (l : Launch) (d : Nat) (F : Option bz_V → bz_H → Prop) (bc bs : Nat) (a0 : Nat) (x1 : Int32) (h : bz_H) : Prop := bz_J G κ kX12_payOf (d + 1) F bc bs 4 [some (.inr (some a0)), some (.inl x1), some (.inl 0), some (.inl 0)] [] h
set_option maxRecDepth 20000 in
set_option maxHeartbeats 4000000 in
theorem g_X12_payOf_0 {G : bz_G} {κ : bz_K} {l : Launch} {d : Nat} {F : Option bz_V → bz_H → Prop} {bc bs : Nat} (hl : κ.2.1 = l) (a0 : Nat) (x1 : Int32) (h : bz_H) (hP0 : w_X12_payOf_0 G κ l d F bc bs a0 x1 h) : bz_J G κ kX12_payOf (d + 1) F bc bs 0 [some (.inr (some a0)), some (.inl x1), none, none] [] h := by
  subst hl
  unfold w_X12_payOf_0 at hP0
  refine bz_iconst (pc := 0) dX12_payOf_0 ci_0 ?_
  refine bz_s_istore_n (pc := 1) dX12_payOf_1 rfl (Nat.le_of_ble_eq_true rfl) [some (.inr (some a0)), some (.inl x1), some (.inl 0), none] rfl ?_
  refine bz_iconst (pc := 2) dX12_payOf_2 ci_0 ?_
  refine bz_s_istore_n (pc := 3) dX12_payOf_3 rfl (Nat.le_of_ble_eq_true rfl) [some (.inr (some a0)), some (.inl x1), some (.inl 0), some (.inl 0)] rfl ?_
  exact hP0
def w_X12_payOf_4 (G : bz_G) (κ : bz_K) (l : Launch) (d : Nat) (F : Option bz_V → bz_H → Prop) (bc bs : Nat) (a0 : Nat) (x1 : Int32) (x2 : Int32) (x3 : Int32) (h : bz_H) : Prop := bz_rR h a0 12 0 (fun r_1 => bz_nn r_1 (fun a_2 => bz_rA h a_2 7 (fun x_3 => (x_3 ≤ x3 → bz_rc h a0 12 (bz_cI G l d kX12_ofOrder [.inr (some a0), .inl x1, .inl 9] h 0 0 (fun x_4 h_5 => bz_rc h_5 a0 12 (bz_cI G l d kX12_ofOrder [.inr (some a0), .inl x1, .inl 9] h_5 0 0 (fun x_6 h_7 => F (some (.inl (x_4 + ((x_6 * x2) / 100)))) h_7))))) ∧ (¬ (x_3 ≤ x3) → bz_rc h a0 12 (bz_cI G l d kX12_ofOrder [.inr (some a0), .inl x1, .inl 7] h 0 0 (fun x_8 h_9 => bz_rR h_9 a0 12 0 (fun r_10 => bz_nn r_10 (fun a_11 => bz_rA h_9 a_11 (708 + (3 * x3)) (fun x_12 => bz_rR h_9 a0 12 0 (fun r_13 => bz_nn r_13 (fun a_14 => bz_rA h_9 a_14 ((708 + (3 * x3)) + 1) (fun x_15 => bz_cI G l d kX12_in [.inl x_8, .inl x_12, .inl x_15] h_9 0 0 (fun x_16 h_17 => (x_16 = 0 → bz_J G κ kX12_payOf (d + 1) F bc bs 4 [some (.inr (some a0)), some (.inl x1), some (.inl (x2 + 0)), some (.inl (x3 + 1))] [] h_17) ∧ (¬ (x_16 = 0) → bz_rR h_17 a0 12 0 (fun r_18 => bz_nn r_18 (fun a_19 => bz_rA h_17 a_19 ((708 + (3 * x3)) + 2) (fun x_20 => bz_J G κ kX12_payOf (d + 1) F bc bs 4 [some (.inr (some a0)), some (.inl x1), some (.inl (x2 + x_20)), some (.inl (x3 + 1))] [] h_17)))))))))))))))))
set_option maxRecDepth 20000 in
set_option maxHeartbeats 4000000 in
theorem g_X12_payOf_4 {G : bz_G} {κ : bz_K} {l : Launch} {d : Nat} {F : Option bz_V → bz_H → Prop} {bc bs : Nat} (hl : κ.2.1 = l) (a0 : Nat) (x1 : Int32) (x2 : Int32) (x3 : Int32) (h : bz_H) (hP0 : w_X12_payOf_4 G κ l d F bc bs a0 x1 x2 x3 h) : bz_J G κ kX12_payOf (d + 1) F bc bs 4 [some (.inr (some a0)), some (.inl x1), some (.inl x2), some (.inl x3)] [] h := by
  subst hl
  unfold w_X12_payOf_4 at hP0
  refine bz_iload_n (pc := 4) dX12_payOf_4 rfl rfl ?_
  refine bz_aload_n (pc := 5) dX12_payOf_5 rfl rfl ?_
  refine bz_rw_rR (pc := 6) dX12_payOf_6 fl_X12_7 hP0 (fun r_1 hP1 => ?_)
  clear hP0
  refine bz_bipush (pc := 9) dX12_payOf_9 cb_7 ?_
  obtain ⟨a_2, rfl, hP2⟩ := hP1
  refine bz_rw_rA (pc := 11) dX12_payOf_11 hP2 (fun x_3 hP3 => ?_)
  clear hP2
  refine bz_icmp_ge (tgt := 81) (pc := 12) dX12_payOf_12 rfl (fun c => ?_) (fun c => ?_)
  · have hP4 := hP3.1 c
    clear hP3
    refine bz_aload_n (pc := 81) dX12_payOf_81 rfl rfl ?_
    refine bz_iload_n (pc := 82) dX12_payOf_82 rfl rfl ?_
    refine bz_bipush (pc := 83) dX12_payOf_83 cb_9 ?_
    refine bz_kIV (as := [.inl x1, .inl 9]) (st := []) (ci := 12) (n := 2) (mc := 0) (ms := 0) (bc := bc) (bs := bs) (yc := kX12_ofOrder) (q := (RX12, TX12, 34)) (b := a0) (pc := 85) dX12_payOf_85 sc_X12_ofOrder ml_X12_99 im_X12_ofOrder se_X12_ofOrder rfl rfl rfl (Nat.le_of_ble_eq_true rfl) hP4 (fun x_4 h_5 hP5 => ?_)
    clear hP4
    refine bz_aload_n (pc := 88) dX12_payOf_88 rfl rfl ?_
    refine bz_iload_n (pc := 89) dX12_payOf_89 rfl rfl ?_
    refine bz_bipush (pc := 90) dX12_payOf_90 cb_9 ?_
    refine bz_kIV (as := [.inl x1, .inl 9]) (st := [.inl x_4]) (ci := 12) (n := 2) (mc := 0) (ms := 0) (bc := bc) (bs := bs) (yc := kX12_ofOrder) (q := (RX12, TX12, 34)) (b := a0) (pc := 92) dX12_payOf_92 sc_X12_ofOrder ml_X12_99 im_X12_ofOrder se_X12_ofOrder rfl rfl rfl (Nat.le_of_ble_eq_true rfl) hP5 (fun x_6 h_7 hP6 => ?_)
    clear hP5
    refine bz_iload_n (pc := 95) dX12_payOf_95 rfl rfl ?_
    refine bz_imul (pc := 96) dX12_payOf_96 ?_
    refine bz_bipush (pc := 97) dX12_payOf_97 cb_100 ?_
    refine bz_idiv (pc := 99) dX12_payOf_99 (by decide) ?_
    refine bz_iadd (pc := 100) dX12_payOf_100 ?_
    exact bz_retI (pc := 101) dX12_payOf_101 rfl rfl hP6
  · have hP7 := hP3.2 c
    clear hP3
    refine bz_iload_n (pc := 15) dX12_payOf_15 rfl rfl ?_
    refine bz_aload_n (pc := 16) dX12_payOf_16 rfl rfl ?_
    refine bz_iload_n (pc := 17) dX12_payOf_17 rfl rfl ?_
    refine bz_bipush (pc := 18) dX12_payOf_18 cb_7 ?_
    refine bz_kIV (as := [.inl x1, .inl 7]) (st := [.inl x2]) (ci := 12) (n := 2) (mc := 0) (ms := 0) (bc := bc) (bs := bs) (yc := kX12_ofOrder) (q := (RX12, TX12, 34)) (b := a0) (pc := 20) dX12_payOf_20 sc_X12_ofOrder ml_X12_99 im_X12_ofOrder se_X12_ofOrder rfl rfl rfl (Nat.le_of_ble_eq_true rfl) hP7 (fun x_8 h_9 hP8 => ?_)
    clear hP7
    refine bz_aload_n (pc := 23) dX12_payOf_23 rfl rfl ?_
    refine bz_rw_rR (pc := 24) dX12_payOf_24 fl_X12_7 hP8 (fun r_10 hP9 => ?_)
    clear hP8
    refine bz_sipush (pc := 27) dX12_payOf_27 cs_708 ?_
    refine bz_iconst (pc := 30) dX12_payOf_30 ci_3 ?_
    refine bz_iload_n (pc := 31) dX12_payOf_31 rfl rfl ?_
    refine bz_imul (pc := 32) dX12_payOf_32 ?_
    refine bz_iadd (pc := 33) dX12_payOf_33 ?_
    obtain ⟨a_11, rfl, hP10⟩ := hP9
    refine bz_rw_rA (pc := 34) dX12_payOf_34 hP10 (fun x_12 hP11 => ?_)
    clear hP10
    refine bz_aload_n (pc := 35) dX12_payOf_35 rfl rfl ?_
    refine bz_rw_rR (pc := 36) dX12_payOf_36 fl_X12_7 hP11 (fun r_13 hP12 => ?_)
    clear hP11
    refine bz_sipush (pc := 39) dX12_payOf_39 cs_708 ?_
    refine bz_iconst (pc := 42) dX12_payOf_42 ci_3 ?_
    refine bz_iload_n (pc := 43) dX12_payOf_43 rfl rfl ?_
    refine bz_imul (pc := 44) dX12_payOf_44 ?_
    refine bz_iadd (pc := 45) dX12_payOf_45 ?_
    refine bz_iconst (pc := 46) dX12_payOf_46 ci_1 ?_
    refine bz_iadd (pc := 47) dX12_payOf_47 ?_
    obtain ⟨a_14, rfl, hP13⟩ := hP12
    refine bz_rw_rA (pc := 48) dX12_payOf_48 hP13 (fun x_15 hP14 => ?_)
    clear hP13
    refine bz_kIS (as := [.inl x_8, .inl x_12, .inl x_15]) (st := [.inl x2]) (n := 3) (mc := 0) (ms := 0) (bc := bc) (bs := bs) (yc := kX12_in) (pc := 49) dX12_payOf_49 sc_X12_in ml_X12_65 ss_X12_in rfl (Nat.le_of_ble_eq_true rfl) hP14 (fun x_16 h_17 hP15 => ?_)
    clear hP14
    refine bz_if_eq (tgt := 72) (pc := 52) dX12_payOf_52 rfl (fun c => ?_) (fun c => ?_)
    · have hP16 := hP15.1 c
      clear hP15
      refine bz_iconst (pc := 72) dX12_payOf_72 ci_0 ?_
      refine bz_iadd (pc := 73) dX12_payOf_73 ?_
      refine bz_s_istore_n (pc := 74) dX12_payOf_74 rfl (Nat.le_of_ble_eq_true rfl) [some (.inr (some a0)), some (.inl x1), some (.inl (x2 + 0)), some (.inl x3)] rfl ?_
      refine bz_s_iinc (pc := 75) dX12_payOf_75 (Nat.le_of_ble_eq_true rfl) rfl rfl [some (.inr (some a0)), some (.inl x1), some (.inl (x2 + 0)), some (.inl (x3 + 1))] rfl ?_
      refine bz_goto (tgt := 4) (pc := 78) dX12_payOf_78 rfl ?_
      exact hP16
    · have hP17 := hP15.2 c
      clear hP15
      refine bz_aload_n (pc := 55) dX12_payOf_55 rfl rfl ?_
      refine bz_rw_rR (pc := 56) dX12_payOf_56 fl_X12_7 hP17 (fun r_18 hP18 => ?_)
      clear hP17
      refine bz_sipush (pc := 59) dX12_payOf_59 cs_708 ?_
      refine bz_iconst (pc := 62) dX12_payOf_62 ci_3 ?_
      refine bz_iload_n (pc := 63) dX12_payOf_63 rfl rfl ?_
      refine bz_imul (pc := 64) dX12_payOf_64 ?_
      refine bz_iadd (pc := 65) dX12_payOf_65 ?_
      refine bz_iconst (pc := 66) dX12_payOf_66 ci_2 ?_
      refine bz_iadd (pc := 67) dX12_payOf_67 ?_
      obtain ⟨a_19, rfl, hP19⟩ := hP18
      refine bz_rw_rA (pc := 68) dX12_payOf_68 hP19 (fun x_20 hP20 => ?_)
      clear hP19
      refine bz_goto (tgt := 73) (pc := 69) dX12_payOf_69 rfl ?_
      refine bz_iadd (pc := 73) dX12_payOf_73 ?_
      refine bz_s_istore_n (pc := 74) dX12_payOf_74 rfl (Nat.le_of_ble_eq_true rfl) [some (.inr (some a0)), some (.inl x1), some (.inl (x2 + x_20)), some (.inl x3)] rfl ?_
      refine bz_s_iinc (pc := 75) dX12_payOf_75 (Nat.le_of_ble_eq_true rfl) rfl rfl [some (.inr (some a0)), some (.inl x1), some (.inl (x2 + x_20)), some (.inl (x3 + 1))] rfl ?_
      refine bz_goto (tgt := 4) (pc := 78) dX12_payOf_78 rfl ?_
      exact hP20
theorem m_X12_payOf {G : bz_G} {l : Launch} {d mc ms : Nat} {F : Option bz_V → bz_H → Prop} (a0 : Nat) (x1 : Int32) (h : bz_H) (hP : ∀ (κ : bz_K) (bc bs : Nat), κ.2.1 = l → w_X12_payOf_0 G κ l d F bc bs a0 x1 h) : bz_Call G l (d + 1) kX12_payOf [.inr (some a0), .inl x1] h mc ms F :=
  bz_body (by decide) (Nat.le_of_ble_eq_true rfl) (fun κ hl => g_X12_payOf_0 hl a0 x1 h (hP κ mc ms hl))
def w_X12_pickUp_0 (G : bz_G) (l : Launch) (d : Nat) (F : Option bz_V → bz_H → Prop) (a0 : Nat) (x1 : Int32) (x2 : Int32) (x3 : Int32) (h : bz_H) : Prop := bz_rc h a0 12 (bz_cI G l d kX12_kitchenAt [.inr (some a0), .inl x2] h 0 0 (fun x_1 h_2 => bz_rc h_2 a0 12 (bz_cV G l d kX12_ride [.inr (some a0), .inl x1, .inl x_1] h_2 0 0 (fun h_4 => bz_rI h_4 a0 12 7 (fun x_5 => bz_rc h_4 a0 12 (bz_cI G l d kX12_ready [.inr (some a0), .inl x2] h_4 0 0 (fun x_6 h_7 => (x_5 ≤ x_6 → bz_rc h_7 a0 12 (bz_cI G l d kX12_ready [.inr (some a0), .inl x2] h_7 0 0 (fun x_8 h_9 => bz_wI h_9 a0 12 7 x_8 (fun h_10 => bz_rR h_10 a0 12 9 (fun r_11 => bz_rI h_10 a0 12 7 (fun x_12 => bz_nn r_11 (fun a_13 => bz_wA h_10 a_13 x3 x_12 (fun h_14 => F none h_14)))))))) ∧ (¬ (x_5 ≤ x_6) → bz_rI h_7 a0 12 7 (fun x_15 => bz_wI h_7 a0 12 7 x_15 (fun h_16 => bz_rR h_16 a0 12 9 (fun r_17 => bz_rI h_16 a0 12 7 (fun x_18 => bz_nn r_17 (fun a_19 => bz_wA h_16 a_19 x3 x_18 (fun h_20 => F none h_20))))))))))))))
set_option maxRecDepth 20000 in
set_option maxHeartbeats 4000000 in
theorem g_X12_pickUp_0 {G : bz_G} {κ : bz_K} {l : Launch} {d : Nat} {F : Option bz_V → bz_H → Prop} {bc bs : Nat} (hl : κ.2.1 = l) (a0 : Nat) (x1 : Int32) (x2 : Int32) (x3 : Int32) (h : bz_H) (hP0 : w_X12_pickUp_0 G l d F a0 x1 x2 x3 h) : bz_J G κ kX12_pickUp (d + 1) F bc bs 0 [some (.inr (some a0)), some (.inl x1), some (.inl x2), some (.inl x3)] [] h := by
  subst hl
  unfold w_X12_pickUp_0 at hP0
  refine bz_aload_n (pc := 0) dX12_pickUp_0 rfl rfl ?_
  refine bz_iload_n (pc := 1) dX12_pickUp_1 rfl rfl ?_
  refine bz_aload_n (pc := 2) dX12_pickUp_2 rfl rfl ?_
  refine bz_iload_n (pc := 3) dX12_pickUp_3 rfl rfl ?_
  refine bz_kIV (as := [.inl x2]) (st := [.inl x1, .inr (some a0)]) (ci := 12) (n := 1) (mc := 0) (ms := 0) (bc := bc) (bs := bs) (yc := kX12_kitchenAt) (q := (RX12, TX12, 34)) (b := a0) (pc := 4) dX12_pickUp_4 sc_X12_kitchenAt ml_X12_170 im_X12_kitchenAt se_X12_kitchenAt rfl rfl rfl (Nat.le_of_ble_eq_true rfl) hP0 (fun x_1 h_2 hP1 => ?_)
  clear hP0
  refine bz_kVV (as := [.inl x1, .inl x_1]) (st := []) (ci := 12) (n := 2) (mc := 0) (ms := 0) (bc := bc) (bs := bs) (yc := kX12_ride) (q := (RX12, TX12, 34)) (b := a0) (pc := 7) dX12_pickUp_7 sc_X12_ride ml_X12_173 im_X12_ride se_X12_ride rfl rfl rfl (Nat.le_of_ble_eq_true rfl) hP1 (fun h_4 hP2 => ?_)
  clear hP1
  refine bz_aload_n (pc := 10) dX12_pickUp_10 rfl rfl ?_
  refine bz_aload_n (pc := 11) dX12_pickUp_11 rfl rfl ?_
  refine bz_rw_rI (pc := 12) dX12_pickUp_12 fl_X12_167 hP2 (fun x_5 hP3 => ?_)
  clear hP2
  refine bz_aload_n (pc := 15) dX12_pickUp_15 rfl rfl ?_
  refine bz_iload_n (pc := 16) dX12_pickUp_16 rfl rfl ?_
  refine bz_kIV (as := [.inl x2]) (st := [.inl x_5, .inr (some a0)]) (ci := 12) (n := 1) (mc := 0) (ms := 0) (bc := bc) (bs := bs) (yc := kX12_ready) (q := (RX12, TX12, 34)) (b := a0) (pc := 17) dX12_pickUp_17 sc_X12_ready ml_X12_108 im_X12_ready se_X12_ready rfl rfl rfl (Nat.le_of_ble_eq_true rfl) hP3 (fun x_6 h_7 hP4 => ?_)
  clear hP3
  refine bz_icmp_le (tgt := 30) (pc := 20) dX12_pickUp_20 rfl (fun c => ?_) (fun c => ?_)
  · have hP5 := hP4.1 c
    clear hP4
    refine bz_aload_n (pc := 30) dX12_pickUp_30 rfl rfl ?_
    refine bz_iload_n (pc := 31) dX12_pickUp_31 rfl rfl ?_
    refine bz_kIV (as := [.inl x2]) (st := [.inr (some a0)]) (ci := 12) (n := 1) (mc := 0) (ms := 0) (bc := bc) (bs := bs) (yc := kX12_ready) (q := (RX12, TX12, 34)) (b := a0) (pc := 32) dX12_pickUp_32 sc_X12_ready ml_X12_108 im_X12_ready se_X12_ready rfl rfl rfl (Nat.le_of_ble_eq_true rfl) hP5 (fun x_8 h_9 hP6 => ?_)
    clear hP5
    refine bz_rw_wI (pc := 35) dX12_pickUp_35 fl_X12_167 (fun q h9 => by cases h9; rfl) rfl hP6 (fun h_10 hP7 => ?_)
    clear hP6
    refine bz_aload_n (pc := 38) dX12_pickUp_38 rfl rfl ?_
    refine bz_rw_rR (pc := 39) dX12_pickUp_39 fl_X12_22 hP7 (fun r_11 hP8 => ?_)
    clear hP7
    refine bz_iload_n (pc := 42) dX12_pickUp_42 rfl rfl ?_
    refine bz_aload_n (pc := 43) dX12_pickUp_43 rfl rfl ?_
    refine bz_rw_rI (pc := 44) dX12_pickUp_44 fl_X12_167 hP8 (fun x_12 hP9 => ?_)
    clear hP8
    obtain ⟨a_13, rfl, hP10⟩ := hP9
    refine bz_rw_wA (pc := 47) dX12_pickUp_47 hP10 (fun h_14 hP11 => ?_)
    clear hP10
    exact bz_retV (pc := 48) dX12_pickUp_48 rfl hP11
  · have hP12 := hP4.2 c
    clear hP4
    refine bz_aload_n (pc := 23) dX12_pickUp_23 rfl rfl ?_
    refine bz_rw_rI (pc := 24) dX12_pickUp_24 fl_X12_167 hP12 (fun x_15 hP13 => ?_)
    clear hP12
    refine bz_goto (tgt := 35) (pc := 27) dX12_pickUp_27 rfl ?_
    refine bz_rw_wI (pc := 35) dX12_pickUp_35 fl_X12_167 (fun q h9 => by cases h9; rfl) rfl hP13 (fun h_16 hP14 => ?_)
    clear hP13
    refine bz_aload_n (pc := 38) dX12_pickUp_38 rfl rfl ?_
    refine bz_rw_rR (pc := 39) dX12_pickUp_39 fl_X12_22 hP14 (fun r_17 hP15 => ?_)
    clear hP14
    refine bz_iload_n (pc := 42) dX12_pickUp_42 rfl rfl ?_
    refine bz_aload_n (pc := 43) dX12_pickUp_43 rfl rfl ?_
    refine bz_rw_rI (pc := 44) dX12_pickUp_44 fl_X12_167 hP15 (fun x_18 hP16 => ?_)
    clear hP15
    obtain ⟨a_19, rfl, hP17⟩ := hP16
    refine bz_rw_wA (pc := 47) dX12_pickUp_47 hP17 (fun h_20 hP18 => ?_)
    clear hP17
    exact bz_retV (pc := 48) dX12_pickUp_48 rfl hP18
theorem m_X12_pickUp {G : bz_G} {l : Launch} {d mc ms : Nat} {F : Option bz_V → bz_H → Prop} (a0 : Nat) (x1 : Int32) (x2 : Int32) (x3 : Int32) (h : bz_H) (hP : w_X12_pickUp_0 G l d F a0 x1 x2 x3 h) : bz_Call G l (d + 1) kX12_pickUp [.inr (some a0), .inl x1, .inl x2, .inl x3] h mc ms F :=
  bz_body (by decide) (Nat.le_of_ble_eq_true rfl) (fun κ hl => g_X12_pickUp_0 hl a0 x1 x2 x3 h hP)
def w_X12_rain_0 (G : bz_G) (l : Launch) (d : Nat) (F : Option bz_V → bz_H → Prop) (a0 : Nat) (x1 : Int32) (x2 : Int32) (x3 : Int32) (h : bz_H) : Prop := bz_cI G l d kX12_isMinute [.inl x1] h 0 0 (fun x_1 h_2 => (x_1 = 0 → bz_rc h_2 a0 12 (bz_cI G l d kX12_finding [.inr (some a0), .inl 0] h_2 0 0 (fun x_3 h_4 => F (some (.inl x_3)) h_4))) ∧ (¬ (x_1 = 0) → bz_cI G l d kX12_isMinute [.inl x2] h_2 0 0 (fun x_5 h_6 => (x_5 = 0 → bz_rc h_6 a0 12 (bz_cI G l d kX12_finding [.inr (some a0), .inl 0] h_6 0 0 (fun x_7 h_8 => F (some (.inl x_7)) h_8))) ∧ (¬ (x_5 = 0) → (x2 < x1 → bz_rc h_6 a0 12 (bz_cI G l d kX12_finding [.inr (some a0), .inl 0] h_6 0 0 (fun x_9 h_10 => F (some (.inl x_9)) h_10))) ∧ (¬ (x2 < x1) → bz_cI G l d kX12_in [.inl x3, .inl 1, .inl 99] h_6 0 0 (fun x_11 h_12 => (¬ x_11 = 0 → bz_rR h_12 a0 12 0 (fun r_13 => bz_nn r_13 (fun a_14 => bz_rA h_12 a_14 7 (fun x_15 => (¬ x_15 = 6 → bz_rR h_12 a0 12 0 (fun r_16 => bz_nn r_16 (fun a_17 => bz_rA h_12 a_17 7 (fun x_18 => bz_rR h_12 a0 12 0 (fun r_19 => bz_nn r_19 (fun a_20 => bz_wA h_12 a_20 (708 + (3 * x_18)) x1 (fun h_21 => bz_rR h_21 a0 12 0 (fun r_22 => bz_nn r_22 (fun a_23 => bz_wA h_21 a_23 ((708 + (3 * x_18)) + 1) x2 (fun h_24 => bz_rR h_24 a0 12 0 (fun r_25 => bz_nn r_25 (fun a_26 => bz_wA h_24 a_26 ((708 + (3 * x_18)) + 2) x3 (fun h_27 => bz_rR h_27 a0 12 0 (fun r_28 => bz_nn r_28 (fun a_29 => bz_rA h_27 a_29 7 (fun x_30 => bz_wA h_27 a_29 7 (x_30 + 1) (fun h_31 => bz_rR h_31 a0 12 0 (fun r_32 => bz_nn r_32 (fun a_33 => bz_rA h_31 a_33 7 (fun x_34 => F (some (.inl x_34)) h_31)))))))))))))))))))) ∧ (x_15 = 6 → bz_rc h_12 a0 12 (bz_cI G l d kX12_finding [.inr (some a0), .inl 1] h_12 0 0 (fun x_35 h_36 => F (some (.inl x_35)) h_36))))))) ∧ (x_11 = 0 → bz_rc h_12 a0 12 (bz_cI G l d kX12_finding [.inr (some a0), .inl 0] h_12 0 0 (fun x_37 h_38 => F (some (.inl x_37)) h_38)))))))))
set_option maxRecDepth 20000 in
set_option maxHeartbeats 4000000 in
theorem g_X12_rain_0 {G : bz_G} {κ : bz_K} {l : Launch} {d : Nat} {F : Option bz_V → bz_H → Prop} {bc bs : Nat} (hl : κ.2.1 = l) (a0 : Nat) (x1 : Int32) (x2 : Int32) (x3 : Int32) (h : bz_H) (hP0 : w_X12_rain_0 G l d F a0 x1 x2 x3 h) : bz_J G κ kX12_rain (d + 1) F bc bs 0 [some (.inr (some a0)), some (.inl x1), some (.inl x2), some (.inl x3), none] [] h := by
  subst hl
  unfold w_X12_rain_0 at hP0
  refine bz_iload_n (pc := 0) dX12_rain_0 rfl rfl ?_
  refine bz_kIS (as := [.inl x1]) (st := []) (n := 1) (mc := 0) (ms := 0) (bc := bc) (bs := bs) (yc := kX12_isMinute) (pc := 1) dX12_rain_1 sc_X12_isMinute ml_X12_305 ss_X12_isMinute rfl (Nat.le_of_ble_eq_true rfl) hP0 (fun x_1 h_2 hP1 => ?_)
  clear hP0
  refine bz_if_eq (tgt := 29) (pc := 4) dX12_rain_4 rfl (fun c => ?_) (fun c => ?_)
  · have hP2 := hP1.1 c
    clear hP1
    refine bz_aload_n (pc := 29) dX12_rain_29 rfl rfl ?_
    refine bz_iconst (pc := 30) dX12_rain_30 ci_0 ?_
    refine bz_kIV (as := [.inl 0]) (st := []) (ci := 12) (n := 1) (mc := 0) (ms := 0) (bc := bc) (bs := bs) (yc := kX12_finding) (q := (RX12, TX12, 34)) (b := a0) (pc := 31) dX12_rain_31 sc_X12_finding ml_X12_73 im_X12_finding se_X12_finding rfl rfl rfl (Nat.le_of_ble_eq_true rfl) hP2 (fun x_3 h_4 hP3 => ?_)
    clear hP2
    exact bz_retI (pc := 34) dX12_rain_34 rfl rfl hP3
  · have hP4 := hP1.2 c
    clear hP1
    refine bz_iload_n (pc := 7) dX12_rain_7 rfl rfl ?_
    refine bz_kIS (as := [.inl x2]) (st := []) (n := 1) (mc := 0) (ms := 0) (bc := bc) (bs := bs) (yc := kX12_isMinute) (pc := 8) dX12_rain_8 sc_X12_isMinute ml_X12_305 ss_X12_isMinute rfl (Nat.le_of_ble_eq_true rfl) hP4 (fun x_5 h_6 hP5 => ?_)
    clear hP4
    refine bz_if_eq (tgt := 29) (pc := 11) dX12_rain_11 rfl (fun c => ?_) (fun c => ?_)
    · have hP6 := hP5.1 c
      clear hP5
      refine bz_aload_n (pc := 29) dX12_rain_29 rfl rfl ?_
      refine bz_iconst (pc := 30) dX12_rain_30 ci_0 ?_
      refine bz_kIV (as := [.inl 0]) (st := []) (ci := 12) (n := 1) (mc := 0) (ms := 0) (bc := bc) (bs := bs) (yc := kX12_finding) (q := (RX12, TX12, 34)) (b := a0) (pc := 31) dX12_rain_31 sc_X12_finding ml_X12_73 im_X12_finding se_X12_finding rfl rfl rfl (Nat.le_of_ble_eq_true rfl) hP6 (fun x_7 h_8 hP7 => ?_)
      clear hP6
      exact bz_retI (pc := 34) dX12_rain_34 rfl rfl hP7
    · have hP8 := hP5.2 c
      clear hP5
      refine bz_iload_n (pc := 14) dX12_rain_14 rfl rfl ?_
      refine bz_iload_n (pc := 15) dX12_rain_15 rfl rfl ?_
      refine bz_icmp_lt (tgt := 29) (pc := 16) dX12_rain_16 rfl (fun c => ?_) (fun c => ?_)
      · have hP9 := hP8.1 c
        clear hP8
        refine bz_aload_n (pc := 29) dX12_rain_29 rfl rfl ?_
        refine bz_iconst (pc := 30) dX12_rain_30 ci_0 ?_
        refine bz_kIV (as := [.inl 0]) (st := []) (ci := 12) (n := 1) (mc := 0) (ms := 0) (bc := bc) (bs := bs) (yc := kX12_finding) (q := (RX12, TX12, 34)) (b := a0) (pc := 31) dX12_rain_31 sc_X12_finding ml_X12_73 im_X12_finding se_X12_finding rfl rfl rfl (Nat.le_of_ble_eq_true rfl) hP9 (fun x_9 h_10 hP10 => ?_)
        clear hP9
        exact bz_retI (pc := 34) dX12_rain_34 rfl rfl hP10
      · have hP11 := hP8.2 c
        clear hP8
        refine bz_iload_n (pc := 19) dX12_rain_19 rfl rfl ?_
        refine bz_iconst (pc := 20) dX12_rain_20 ci_1 ?_
        refine bz_bipush (pc := 21) dX12_rain_21 cb_99 ?_
        refine bz_kIS (as := [.inl x3, .inl 1, .inl 99]) (st := []) (n := 3) (mc := 0) (ms := 0) (bc := bc) (bs := bs) (yc := kX12_in) (pc := 23) dX12_rain_23 sc_X12_in ml_X12_65 ss_X12_in rfl (Nat.le_of_ble_eq_true rfl) hP11 (fun x_11 h_12 hP12 => ?_)
        clear hP11
        refine bz_if_ne (tgt := 35) (pc := 26) dX12_rain_26 rfl (fun c => ?_) (fun c => ?_)
        · have hP13 := hP12.1 c
          clear hP12
          refine bz_aload_n (pc := 35) dX12_rain_35 rfl rfl ?_
          refine bz_rw_rR (pc := 36) dX12_rain_36 fl_X12_7 hP13 (fun r_13 hP14 => ?_)
          clear hP13
          refine bz_bipush (pc := 39) dX12_rain_39 cb_7 ?_
          obtain ⟨a_14, rfl, hP15⟩ := hP14
          refine bz_rw_rA (pc := 41) dX12_rain_41 hP15 (fun x_15 hP16 => ?_)
          clear hP15
          refine bz_bipush (pc := 42) dX12_rain_42 cb_6 ?_
          refine bz_icmp_ne (tgt := 53) (pc := 44) dX12_rain_44 rfl (fun c => ?_) (fun c => ?_)
          · have hP17 := hP16.1 c
            clear hP16
            refine bz_sipush (pc := 53) dX12_rain_53 cs_708 ?_
            refine bz_iconst (pc := 56) dX12_rain_56 ci_3 ?_
            refine bz_aload_n (pc := 57) dX12_rain_57 rfl rfl ?_
            refine bz_rw_rR (pc := 58) dX12_rain_58 fl_X12_7 hP17 (fun r_16 hP18 => ?_)
            clear hP17
            refine bz_bipush (pc := 61) dX12_rain_61 cb_7 ?_
            obtain ⟨a_17, rfl, hP19⟩ := hP18
            refine bz_rw_rA (pc := 63) dX12_rain_63 hP19 (fun x_18 hP20 => ?_)
            clear hP19
            refine bz_imul (pc := 64) dX12_rain_64 ?_
            refine bz_iadd (pc := 65) dX12_rain_65 ?_
            refine bz_s_istore (pc := 66) dX12_rain_66 (Nat.le_of_ble_eq_true rfl) [some (.inr (some a0)), some (.inl x1), some (.inl x2), some (.inl x3), some (.inl (708 + (3 * x_18)))] rfl ?_
            refine bz_aload_n (pc := 68) dX12_rain_68 rfl rfl ?_
            refine bz_rw_rR (pc := 69) dX12_rain_69 fl_X12_7 hP20 (fun r_19 hP21 => ?_)
            clear hP20
            refine bz_iload (pc := 72) dX12_rain_72 rfl ?_
            refine bz_iload_n (pc := 74) dX12_rain_74 rfl rfl ?_
            obtain ⟨a_20, rfl, hP22⟩ := hP21
            refine bz_rw_wA (pc := 75) dX12_rain_75 hP22 (fun h_21 hP23 => ?_)
            clear hP22
            refine bz_aload_n (pc := 76) dX12_rain_76 rfl rfl ?_
            refine bz_rw_rR (pc := 77) dX12_rain_77 fl_X12_7 hP23 (fun r_22 hP24 => ?_)
            clear hP23
            refine bz_iload (pc := 80) dX12_rain_80 rfl ?_
            refine bz_iconst (pc := 82) dX12_rain_82 ci_1 ?_
            refine bz_iadd (pc := 83) dX12_rain_83 ?_
            refine bz_iload_n (pc := 84) dX12_rain_84 rfl rfl ?_
            obtain ⟨a_23, rfl, hP25⟩ := hP24
            refine bz_rw_wA (pc := 85) dX12_rain_85 hP25 (fun h_24 hP26 => ?_)
            clear hP25
            refine bz_aload_n (pc := 86) dX12_rain_86 rfl rfl ?_
            refine bz_rw_rR (pc := 87) dX12_rain_87 fl_X12_7 hP26 (fun r_25 hP27 => ?_)
            clear hP26
            refine bz_iload (pc := 90) dX12_rain_90 rfl ?_
            refine bz_iconst (pc := 92) dX12_rain_92 ci_2 ?_
            refine bz_iadd (pc := 93) dX12_rain_93 ?_
            refine bz_iload_n (pc := 94) dX12_rain_94 rfl rfl ?_
            obtain ⟨a_26, rfl, hP28⟩ := hP27
            refine bz_rw_wA (pc := 95) dX12_rain_95 hP28 (fun h_27 hP29 => ?_)
            clear hP28
            refine bz_aload_n (pc := 96) dX12_rain_96 rfl rfl ?_
            refine bz_rw_rR (pc := 97) dX12_rain_97 fl_X12_7 hP29 (fun r_28 hP30 => ?_)
            clear hP29
            refine bz_bipush (pc := 100) dX12_rain_100 cb_7 ?_
            refine bz_dup2 (pc := 102) dX12_rain_102 ?_
            obtain ⟨a_29, rfl, hP31⟩ := hP30
            refine bz_rw_rA (pc := 103) dX12_rain_103 hP31 (fun x_30 hP32 => ?_)
            clear hP31
            refine bz_iconst (pc := 104) dX12_rain_104 ci_1 ?_
            refine bz_iadd (pc := 105) dX12_rain_105 ?_
            refine bz_rw_wA (pc := 106) dX12_rain_106 hP32 (fun h_31 hP33 => ?_)
            clear hP32
            refine bz_aload_n (pc := 107) dX12_rain_107 rfl rfl ?_
            refine bz_rw_rR (pc := 108) dX12_rain_108 fl_X12_7 hP33 (fun r_32 hP34 => ?_)
            clear hP33
            refine bz_bipush (pc := 111) dX12_rain_111 cb_7 ?_
            obtain ⟨a_33, rfl, hP35⟩ := hP34
            refine bz_rw_rA (pc := 113) dX12_rain_113 hP35 (fun x_34 hP36 => ?_)
            clear hP35
            exact bz_retI (pc := 114) dX12_rain_114 rfl rfl hP36
          · have hP37 := hP16.2 c
            clear hP16
            refine bz_aload_n (pc := 47) dX12_rain_47 rfl rfl ?_
            refine bz_iconst (pc := 48) dX12_rain_48 ci_1 ?_
            refine bz_kIV (as := [.inl 1]) (st := []) (ci := 12) (n := 1) (mc := 0) (ms := 0) (bc := bc) (bs := bs) (yc := kX12_finding) (q := (RX12, TX12, 34)) (b := a0) (pc := 49) dX12_rain_49 sc_X12_finding ml_X12_73 im_X12_finding se_X12_finding rfl rfl rfl (Nat.le_of_ble_eq_true rfl) hP37 (fun x_35 h_36 hP38 => ?_)
            clear hP37
            exact bz_retI (pc := 52) dX12_rain_52 rfl rfl hP38
        · have hP39 := hP12.2 c
          clear hP12
          refine bz_aload_n (pc := 29) dX12_rain_29 rfl rfl ?_
          refine bz_iconst (pc := 30) dX12_rain_30 ci_0 ?_
          refine bz_kIV (as := [.inl 0]) (st := []) (ci := 12) (n := 1) (mc := 0) (ms := 0) (bc := bc) (bs := bs) (yc := kX12_finding) (q := (RX12, TX12, 34)) (b := a0) (pc := 31) dX12_rain_31 sc_X12_finding ml_X12_73 im_X12_finding se_X12_finding rfl rfl rfl (Nat.le_of_ble_eq_true rfl) hP39 (fun x_37 h_38 hP40 => ?_)
          clear hP39
          exact bz_retI (pc := 34) dX12_rain_34 rfl rfl hP40
theorem m_X12_rain {G : bz_G} {l : Launch} {d mc ms : Nat} {F : Option bz_V → bz_H → Prop} (a0 : Nat) (x1 : Int32) (x2 : Int32) (x3 : Int32) (h : bz_H) (hP : w_X12_rain_0 G l d F a0 x1 x2 x3 h) : bz_Call G l (d + 1) kX12_rain [.inr (some a0), .inl x1, .inl x2, .inl x3] h mc ms F :=
  bz_body (by decide) (Nat.le_of_ble_eq_true rfl) (fun κ hl => g_X12_rain_0 hl a0 x1 x2 x3 h hP)
def w_X12_ratingOfRider_0 (G : bz_G) (κ : bz_K) (l : Launch) (d : Nat) (F : Option bz_V → bz_H → Prop) (bc bs : Nat) (a0 : Nat) (x1 : Int32) (h : bz_H) : Prop := bz_J G κ kX12_ratingOfRider (d + 1) F bc bs 4 [some (.inr (some a0)), some (.inl x1), some (.inl 0), some (.inl 0)] [] h
set_option maxRecDepth 20000 in
set_option maxHeartbeats 4000000 in
theorem g_X12_ratingOfRider_0 {G : bz_G} {κ : bz_K} {l : Launch} {d : Nat} {F : Option bz_V → bz_H → Prop} {bc bs : Nat} (hl : κ.2.1 = l) (a0 : Nat) (x1 : Int32) (h : bz_H) (hP0 : w_X12_ratingOfRider_0 G κ l d F bc bs a0 x1 h) : bz_J G κ kX12_ratingOfRider (d + 1) F bc bs 0 [some (.inr (some a0)), some (.inl x1), none, none] [] h := by
  subst hl
  unfold w_X12_ratingOfRider_0 at hP0
  refine bz_iconst (pc := 0) dX12_ratingOfRider_0 ci_0 ?_
  refine bz_s_istore_n (pc := 1) dX12_ratingOfRider_1 rfl (Nat.le_of_ble_eq_true rfl) [some (.inr (some a0)), some (.inl x1), some (.inl 0), none] rfl ?_
  refine bz_iconst (pc := 2) dX12_ratingOfRider_2 ci_0 ?_
  refine bz_s_istore_n (pc := 3) dX12_ratingOfRider_3 rfl (Nat.le_of_ble_eq_true rfl) [some (.inr (some a0)), some (.inl x1), some (.inl 0), some (.inl 0)] rfl ?_
  exact hP0
def w_X12_ratingOfRider_4 (G : bz_G) (κ : bz_K) (l : Launch) (d : Nat) (F : Option bz_V → bz_H → Prop) (bc bs : Nat) (a0 : Nat) (x1 : Int32) (x2 : Int32) (x3 : Int32) (h : bz_H) : Prop := bz_rR h a0 12 0 (fun r_1 => bz_nn r_1 (fun a_2 => bz_rA h a_2 2 (fun x_3 => (x_3 ≤ x3 → bz_rc h a0 12 (bz_cI G l d kX12_ofRider [.inr (some a0), .inl x1, .inl 3] h 0 0 (fun x_4 h_5 => (¬ x_4 = 0 → bz_rc h_5 a0 12 (bz_cI G l d kX12_ofRider [.inr (some a0), .inl x1, .inl 3] h_5 0 0 (fun x_6 h_7 => (¬ x_6 = 0) ∧ (F (some (.inl (x2 / x_6))) h_7)))) ∧ (x_4 = 0 → F (some (.inl 25)) h_5)))) ∧ (¬ (x_3 ≤ x3) → bz_rc h a0 12 (bz_cI G l d kX12_isHis [.inr (some a0), .inl x1, .inl x3] h 0 0 (fun x_8 h_9 => (x_8 = 0 → bz_J G κ kX12_ratingOfRider (d + 1) F bc bs 4 [some (.inr (some a0)), some (.inl x1), some (.inl (x2 + 0)), some (.inl (x3 + 1))] [] h_9) ∧ (¬ (x_8 = 0) → bz_rc h_9 a0 12 (bz_cI G l d kX12_ratingOf [.inr (some a0), .inl x3] h_9 0 0 (fun x_10 h_11 => bz_J G κ kX12_ratingOfRider (d + 1) F bc bs 4 [some (.inr (some a0)), some (.inl x1), some (.inl (x2 + x_10)), some (.inl (x3 + 1))] [] h_11)))))))))
set_option maxRecDepth 20000 in
set_option maxHeartbeats 4000000 in
theorem g_X12_ratingOfRider_4 {G : bz_G} {κ : bz_K} {l : Launch} {d : Nat} {F : Option bz_V → bz_H → Prop} {bc bs : Nat} (hl : κ.2.1 = l) (a0 : Nat) (x1 : Int32) (x2 : Int32) (x3 : Int32) (h : bz_H) (hP0 : w_X12_ratingOfRider_4 G κ l d F bc bs a0 x1 x2 x3 h) : bz_J G κ kX12_ratingOfRider (d + 1) F bc bs 4 [some (.inr (some a0)), some (.inl x1), some (.inl x2), some (.inl x3)] [] h := by
  subst hl
  unfold w_X12_ratingOfRider_4 at hP0
  refine bz_iload_n (pc := 4) dX12_ratingOfRider_4 rfl rfl ?_
  refine bz_aload_n (pc := 5) dX12_ratingOfRider_5 rfl rfl ?_
  refine bz_rw_rR (pc := 6) dX12_ratingOfRider_6 fl_X12_7 hP0 (fun r_1 hP1 => ?_)
  clear hP0
  refine bz_iconst (pc := 9) dX12_ratingOfRider_9 ci_2 ?_
  obtain ⟨a_2, rfl, hP2⟩ := hP1
  refine bz_rw_rA (pc := 10) dX12_ratingOfRider_10 hP2 (fun x_3 hP3 => ?_)
  clear hP2
  refine bz_icmp_ge (tgt := 41) (pc := 11) dX12_ratingOfRider_11 rfl (fun c => ?_) (fun c => ?_)
  · have hP4 := hP3.1 c
    clear hP3
    refine bz_aload_n (pc := 41) dX12_ratingOfRider_41 rfl rfl ?_
    refine bz_iload_n (pc := 42) dX12_ratingOfRider_42 rfl rfl ?_
    refine bz_iconst (pc := 43) dX12_ratingOfRider_43 ci_3 ?_
    refine bz_kIV (as := [.inl x1, .inl 3]) (st := []) (ci := 12) (n := 2) (mc := 0) (ms := 0) (bc := bc) (bs := bs) (yc := kX12_ofRider) (q := (RX12, TX12, 34)) (b := a0) (pc := 44) dX12_ratingOfRider_44 sc_X12_ofRider ml_X12_136 im_X12_ofRider se_X12_ofRider rfl rfl rfl (Nat.le_of_ble_eq_true rfl) hP4 (fun x_4 h_5 hP5 => ?_)
    clear hP4
    refine bz_if_ne (tgt := 55) (pc := 47) dX12_ratingOfRider_47 rfl (fun c => ?_) (fun c => ?_)
    · have hP6 := hP5.1 c
      clear hP5
      refine bz_iload_n (pc := 55) dX12_ratingOfRider_55 rfl rfl ?_
      refine bz_aload_n (pc := 56) dX12_ratingOfRider_56 rfl rfl ?_
      refine bz_iload_n (pc := 57) dX12_ratingOfRider_57 rfl rfl ?_
      refine bz_iconst (pc := 58) dX12_ratingOfRider_58 ci_3 ?_
      refine bz_kIV (as := [.inl x1, .inl 3]) (st := [.inl x2]) (ci := 12) (n := 2) (mc := 0) (ms := 0) (bc := bc) (bs := bs) (yc := kX12_ofRider) (q := (RX12, TX12, 34)) (b := a0) (pc := 59) dX12_ratingOfRider_59 sc_X12_ofRider ml_X12_136 im_X12_ofRider se_X12_ofRider rfl rfl rfl (Nat.le_of_ble_eq_true rfl) hP6 (fun x_6 h_7 hP7 => ?_)
      clear hP6
      obtain ⟨hz, hP8⟩ := hP7
      refine bz_idiv (pc := 62) dX12_ratingOfRider_62 hz ?_
      exact bz_retI (pc := 63) dX12_ratingOfRider_63 rfl rfl hP8
    · have hP9 := hP5.2 c
      clear hP5
      refine bz_bipush (pc := 50) dX12_ratingOfRider_50 cb_25 ?_
      refine bz_goto (tgt := 63) (pc := 52) dX12_ratingOfRider_52 rfl ?_
      exact bz_retI (pc := 63) dX12_ratingOfRider_63 rfl rfl hP9
  · have hP10 := hP3.2 c
    clear hP3
    refine bz_iload_n (pc := 14) dX12_ratingOfRider_14 rfl rfl ?_
    refine bz_aload_n (pc := 15) dX12_ratingOfRider_15 rfl rfl ?_
    refine bz_iload_n (pc := 16) dX12_ratingOfRider_16 rfl rfl ?_
    refine bz_iload_n (pc := 17) dX12_ratingOfRider_17 rfl rfl ?_
    refine bz_kIV (as := [.inl x1, .inl x3]) (st := [.inl x2]) (ci := 12) (n := 2) (mc := 0) (ms := 0) (bc := bc) (bs := bs) (yc := kX12_isHis) (q := (RX12, TX12, 34)) (b := a0) (pc := 18) dX12_ratingOfRider_18 sc_X12_isHis ml_X12_132 im_X12_isHis se_X12_isHis rfl rfl rfl (Nat.le_of_ble_eq_true rfl) hP10 (fun x_8 h_9 hP11 => ?_)
    clear hP10
    refine bz_if_eq (tgt := 32) (pc := 21) dX12_ratingOfRider_21 rfl (fun c => ?_) (fun c => ?_)
    · have hP12 := hP11.1 c
      clear hP11
      refine bz_iconst (pc := 32) dX12_ratingOfRider_32 ci_0 ?_
      refine bz_iadd (pc := 33) dX12_ratingOfRider_33 ?_
      refine bz_s_istore_n (pc := 34) dX12_ratingOfRider_34 rfl (Nat.le_of_ble_eq_true rfl) [some (.inr (some a0)), some (.inl x1), some (.inl (x2 + 0)), some (.inl x3)] rfl ?_
      refine bz_s_iinc (pc := 35) dX12_ratingOfRider_35 (Nat.le_of_ble_eq_true rfl) rfl rfl [some (.inr (some a0)), some (.inl x1), some (.inl (x2 + 0)), some (.inl (x3 + 1))] rfl ?_
      refine bz_goto (tgt := 4) (pc := 38) dX12_ratingOfRider_38 rfl ?_
      exact hP12
    · have hP13 := hP11.2 c
      clear hP11
      refine bz_aload_n (pc := 24) dX12_ratingOfRider_24 rfl rfl ?_
      refine bz_iload_n (pc := 25) dX12_ratingOfRider_25 rfl rfl ?_
      refine bz_kIV (as := [.inl x3]) (st := [.inl x2]) (ci := 12) (n := 1) (mc := 0) (ms := 0) (bc := bc) (bs := bs) (yc := kX12_ratingOf) (q := (RX12, TX12, 34)) (b := a0) (pc := 26) dX12_ratingOfRider_26 sc_X12_ratingOf ml_X12_126 im_X12_ratingOf se_X12_ratingOf rfl rfl rfl (Nat.le_of_ble_eq_true rfl) hP13 (fun x_10 h_11 hP14 => ?_)
      clear hP13
      refine bz_goto (tgt := 33) (pc := 29) dX12_ratingOfRider_29 rfl ?_
      refine bz_iadd (pc := 33) dX12_ratingOfRider_33 ?_
      refine bz_s_istore_n (pc := 34) dX12_ratingOfRider_34 rfl (Nat.le_of_ble_eq_true rfl) [some (.inr (some a0)), some (.inl x1), some (.inl (x2 + x_10)), some (.inl x3)] rfl ?_
      refine bz_s_iinc (pc := 35) dX12_ratingOfRider_35 (Nat.le_of_ble_eq_true rfl) rfl rfl [some (.inr (some a0)), some (.inl x1), some (.inl (x2 + x_10)), some (.inl (x3 + 1))] rfl ?_
      refine bz_goto (tgt := 4) (pc := 38) dX12_ratingOfRider_38 rfl ?_
      exact hP14
theorem m_X12_ratingOfRider {G : bz_G} {l : Launch} {d mc ms : Nat} {F : Option bz_V → bz_H → Prop} (a0 : Nat) (x1 : Int32) (h : bz_H) (hP : ∀ (κ : bz_K) (bc bs : Nat), κ.2.1 = l → w_X12_ratingOfRider_0 G κ l d F bc bs a0 x1 h) : bz_Call G l (d + 1) kX12_ratingOfRider [.inr (some a0), .inl x1] h mc ms F :=
  bz_body (by decide) (Nat.le_of_ble_eq_true rfl) (fun κ hl => g_X12_ratingOfRider_0 hl a0 x1 h (hP κ mc ms hl))
def w_X12_ratingOf_0 (G : bz_G) (l : Launch) (d : Nat) (F : Option bz_V → bz_H → Prop) (a0 : Nat) (x1 : Int32) (h : bz_H) : Prop := bz_rc h a0 12 (bz_cI G l d kX12_lack [.inr (some a0), .inl x1, .inl 0] h 0 0 (fun x_1 h_2 => bz_rc h_2 a0 12 (bz_cI G l d kX12_lack [.inr (some a0), .inl x1, .inl 1] h_2 0 0 (fun x_3 h_4 => bz_rc h_4 a0 12 (bz_cI G l d kX12_lack [.inr (some a0), .inl x1, .inl 2] h_4 0 0 (fun x_5 h_6 => bz_cI G l d kX12_lessOf50 [.inl ((x_1 + x_3) + x_5)] h_6 0 0 (fun x_7 h_8 => F (some (.inl x_7)) h_8)))))))
set_option maxRecDepth 20000 in
set_option maxHeartbeats 4000000 in
theorem g_X12_ratingOf_0 {G : bz_G} {κ : bz_K} {l : Launch} {d : Nat} {F : Option bz_V → bz_H → Prop} {bc bs : Nat} (hl : κ.2.1 = l) (a0 : Nat) (x1 : Int32) (h : bz_H) (hP0 : w_X12_ratingOf_0 G l d F a0 x1 h) : bz_J G κ kX12_ratingOf (d + 1) F bc bs 0 [some (.inr (some a0)), some (.inl x1)] [] h := by
  subst hl
  unfold w_X12_ratingOf_0 at hP0
  refine bz_aload_n (pc := 0) dX12_ratingOf_0 rfl rfl ?_
  refine bz_iload_n (pc := 1) dX12_ratingOf_1 rfl rfl ?_
  refine bz_iconst (pc := 2) dX12_ratingOf_2 ci_0 ?_
  refine bz_kIV (as := [.inl x1, .inl 0]) (st := []) (ci := 12) (n := 2) (mc := 0) (ms := 0) (bc := bc) (bs := bs) (yc := kX12_lack) (q := (RX12, TX12, 34)) (b := a0) (pc := 3) dX12_ratingOf_3 sc_X12_lack ml_X12_111 im_X12_lack se_X12_lack rfl rfl rfl (Nat.le_of_ble_eq_true rfl) hP0 (fun x_1 h_2 hP1 => ?_)
  clear hP0
  refine bz_aload_n (pc := 6) dX12_ratingOf_6 rfl rfl ?_
  refine bz_iload_n (pc := 7) dX12_ratingOf_7 rfl rfl ?_
  refine bz_iconst (pc := 8) dX12_ratingOf_8 ci_1 ?_
  refine bz_kIV (as := [.inl x1, .inl 1]) (st := [.inl x_1]) (ci := 12) (n := 2) (mc := 0) (ms := 0) (bc := bc) (bs := bs) (yc := kX12_lack) (q := (RX12, TX12, 34)) (b := a0) (pc := 9) dX12_ratingOf_9 sc_X12_lack ml_X12_111 im_X12_lack se_X12_lack rfl rfl rfl (Nat.le_of_ble_eq_true rfl) hP1 (fun x_3 h_4 hP2 => ?_)
  clear hP1
  refine bz_iadd (pc := 12) dX12_ratingOf_12 ?_
  refine bz_aload_n (pc := 13) dX12_ratingOf_13 rfl rfl ?_
  refine bz_iload_n (pc := 14) dX12_ratingOf_14 rfl rfl ?_
  refine bz_iconst (pc := 15) dX12_ratingOf_15 ci_2 ?_
  refine bz_kIV (as := [.inl x1, .inl 2]) (st := [.inl (x_1 + x_3)]) (ci := 12) (n := 2) (mc := 0) (ms := 0) (bc := bc) (bs := bs) (yc := kX12_lack) (q := (RX12, TX12, 34)) (b := a0) (pc := 16) dX12_ratingOf_16 sc_X12_lack ml_X12_111 im_X12_lack se_X12_lack rfl rfl rfl (Nat.le_of_ble_eq_true rfl) hP2 (fun x_5 h_6 hP3 => ?_)
  clear hP2
  refine bz_iadd (pc := 19) dX12_ratingOf_19 ?_
  refine bz_kIS (as := [.inl ((x_1 + x_3) + x_5)]) (st := []) (n := 1) (mc := 0) (ms := 0) (bc := bc) (bs := bs) (yc := kX12_lessOf50) (pc := 20) dX12_ratingOf_20 sc_X12_lessOf50 ml_X12_114 ss_X12_lessOf50 rfl (Nat.le_of_ble_eq_true rfl) hP3 (fun x_7 h_8 hP4 => ?_)
  clear hP3
  exact bz_retI (pc := 23) dX12_ratingOf_23 rfl rfl hP4
theorem m_X12_ratingOf {G : bz_G} {l : Launch} {d mc ms : Nat} {F : Option bz_V → bz_H → Prop} (a0 : Nat) (x1 : Int32) (h : bz_H) (hP : w_X12_ratingOf_0 G l d F a0 x1 h) : bz_Call G l (d + 1) kX12_ratingOf [.inr (some a0), .inl x1] h mc ms F :=
  bz_body (by decide) (Nat.le_of_ble_eq_true rfl) (fun κ hl => g_X12_ratingOf_0 hl a0 x1 h hP)
def w_X12_ready_0 (G : bz_G) (l : Launch) (d : Nat) (F : Option bz_V → bz_H → Prop) (a0 : Nat) (x1 : Int32) (h : bz_H) : Prop := bz_rc h a0 12 (bz_cI G l d kX12_ofOrder [.inr (some a0), .inl x1, .inl 2] h 0 0 (fun x_1 h_2 => bz_rR h_2 a0 12 0 (fun r_3 => bz_rc h_2 a0 12 (bz_cI G l d kX12_ofOrder [.inr (some a0), .inl x1, .inl 0] h_2 0 0 (fun x_4 h_5 => bz_nn r_3 (fun a_6 => bz_rA h_5 a_6 ((300 + (2 * x_4)) + 1) (fun x_7 => bz_rc h_5 a0 12 (bz_cI G l d kX12_ofOrder [.inr (some a0), .inl x1, .inl 4] h_5 0 0 (fun x_8 h_9 => F (some (.inl ((x_1 + x_7) + x_8))) h_9)))))))))
set_option maxRecDepth 20000 in
set_option maxHeartbeats 4000000 in
theorem g_X12_ready_0 {G : bz_G} {κ : bz_K} {l : Launch} {d : Nat} {F : Option bz_V → bz_H → Prop} {bc bs : Nat} (hl : κ.2.1 = l) (a0 : Nat) (x1 : Int32) (h : bz_H) (hP0 : w_X12_ready_0 G l d F a0 x1 h) : bz_J G κ kX12_ready (d + 1) F bc bs 0 [some (.inr (some a0)), some (.inl x1)] [] h := by
  subst hl
  unfold w_X12_ready_0 at hP0
  refine bz_aload_n (pc := 0) dX12_ready_0 rfl rfl ?_
  refine bz_iload_n (pc := 1) dX12_ready_1 rfl rfl ?_
  refine bz_iconst (pc := 2) dX12_ready_2 ci_2 ?_
  refine bz_kIV (as := [.inl x1, .inl 2]) (st := []) (ci := 12) (n := 2) (mc := 0) (ms := 0) (bc := bc) (bs := bs) (yc := kX12_ofOrder) (q := (RX12, TX12, 34)) (b := a0) (pc := 3) dX12_ready_3 sc_X12_ofOrder ml_X12_99 im_X12_ofOrder se_X12_ofOrder rfl rfl rfl (Nat.le_of_ble_eq_true rfl) hP0 (fun x_1 h_2 hP1 => ?_)
  clear hP0
  refine bz_aload_n (pc := 6) dX12_ready_6 rfl rfl ?_
  refine bz_rw_rR (pc := 7) dX12_ready_7 fl_X12_7 hP1 (fun r_3 hP2 => ?_)
  clear hP1
  refine bz_sipush (pc := 10) dX12_ready_10 cs_300 ?_
  refine bz_iconst (pc := 13) dX12_ready_13 ci_2 ?_
  refine bz_aload_n (pc := 14) dX12_ready_14 rfl rfl ?_
  refine bz_iload_n (pc := 15) dX12_ready_15 rfl rfl ?_
  refine bz_iconst (pc := 16) dX12_ready_16 ci_0 ?_
  refine bz_kIV (as := [.inl x1, .inl 0]) (st := [.inl 2, .inl 300, .inr r_3, .inl x_1]) (ci := 12) (n := 2) (mc := 0) (ms := 0) (bc := bc) (bs := bs) (yc := kX12_ofOrder) (q := (RX12, TX12, 34)) (b := a0) (pc := 17) dX12_ready_17 sc_X12_ofOrder ml_X12_99 im_X12_ofOrder se_X12_ofOrder rfl rfl rfl (Nat.le_of_ble_eq_true rfl) hP2 (fun x_4 h_5 hP3 => ?_)
  clear hP2
  refine bz_imul (pc := 20) dX12_ready_20 ?_
  refine bz_iadd (pc := 21) dX12_ready_21 ?_
  refine bz_iconst (pc := 22) dX12_ready_22 ci_1 ?_
  refine bz_iadd (pc := 23) dX12_ready_23 ?_
  obtain ⟨a_6, rfl, hP4⟩ := hP3
  refine bz_rw_rA (pc := 24) dX12_ready_24 hP4 (fun x_7 hP5 => ?_)
  clear hP4
  refine bz_iadd (pc := 25) dX12_ready_25 ?_
  refine bz_aload_n (pc := 26) dX12_ready_26 rfl rfl ?_
  refine bz_iload_n (pc := 27) dX12_ready_27 rfl rfl ?_
  refine bz_iconst (pc := 28) dX12_ready_28 ci_4 ?_
  refine bz_kIV (as := [.inl x1, .inl 4]) (st := [.inl (x_1 + x_7)]) (ci := 12) (n := 2) (mc := 0) (ms := 0) (bc := bc) (bs := bs) (yc := kX12_ofOrder) (q := (RX12, TX12, 34)) (b := a0) (pc := 29) dX12_ready_29 sc_X12_ofOrder ml_X12_99 im_X12_ofOrder se_X12_ofOrder rfl rfl rfl (Nat.le_of_ble_eq_true rfl) hP5 (fun x_8 h_9 hP6 => ?_)
  clear hP5
  refine bz_iadd (pc := 32) dX12_ready_32 ?_
  exact bz_retI (pc := 33) dX12_ready_33 rfl rfl hP6
theorem m_X12_ready {G : bz_G} {l : Launch} {d mc ms : Nat} {F : Option bz_V → bz_H → Prop} (a0 : Nat) (x1 : Int32) (h : bz_H) (hP : w_X12_ready_0 G l d F a0 x1 h) : bz_Call G l (d + 1) kX12_ready [.inr (some a0), .inl x1] h mc ms F :=
  bz_body (by decide) (Nat.le_of_ble_eq_true rfl) (fun κ hl => g_X12_ready_0 hl a0 x1 h hP)
def w_X12_refusals_0 (G : bz_G) (κ : bz_K) (l : Launch) (d : Nat) (F : Option bz_V → bz_H → Prop) (bc bs : Nat) (a0 : Nat) (x1 : Int32) (h : bz_H) : Prop := bz_J G κ kX12_refusals (d + 1) F bc bs 4 [some (.inr (some a0)), some (.inl x1), some (.inl 0), some (.inl 0)] [] h
set_option maxRecDepth 20000 in
set_option maxHeartbeats 4000000 in
theorem g_X12_refusals_0 {G : bz_G} {κ : bz_K} {l : Launch} {d : Nat} {F : Option bz_V → bz_H → Prop} {bc bs : Nat} (hl : κ.2.1 = l) (a0 : Nat) (x1 : Int32) (h : bz_H) (hP0 : w_X12_refusals_0 G κ l d F bc bs a0 x1 h) : bz_J G κ kX12_refusals (d + 1) F bc bs 0 [some (.inr (some a0)), some (.inl x1), none, none] [] h := by
  subst hl
  unfold w_X12_refusals_0 at hP0
  refine bz_iconst (pc := 0) dX12_refusals_0 ci_0 ?_
  refine bz_s_istore_n (pc := 1) dX12_refusals_1 rfl (Nat.le_of_ble_eq_true rfl) [some (.inr (some a0)), some (.inl x1), some (.inl 0), none] rfl ?_
  refine bz_iconst (pc := 2) dX12_refusals_2 ci_0 ?_
  refine bz_s_istore_n (pc := 3) dX12_refusals_3 rfl (Nat.le_of_ble_eq_true rfl) [some (.inr (some a0)), some (.inl x1), some (.inl 0), some (.inl 0)] rfl ?_
  exact hP0
def w_X12_refusals_4 (G : bz_G) (κ : bz_K) (l : Launch) (d : Nat) (F : Option bz_V → bz_H → Prop) (bc bs : Nat) (a0 : Nat) (x1 : Int32) (x2 : Int32) (x3 : Int32) (h : bz_H) : Prop := (24 ≤ x3 → F (some (.inl x2)) h) ∧ (¬ (24 ≤ x3) → bz_rR h a0 12 0 (fun r_1 => bz_nn r_1 (fun a_2 => bz_rA h a_2 (696 + x1) (fun x_3 => bz_J G κ kX12_refusals (d + 1) F bc bs 4 [some (.inr (some a0)), some (.inl x1), some (.inl (x2 + ((x_3 >>> (x3 &&& 31)) &&& 1))), some (.inl (x3 + 1))] [] h))))
set_option maxRecDepth 20000 in
set_option maxHeartbeats 4000000 in
theorem g_X12_refusals_4 {G : bz_G} {κ : bz_K} {l : Launch} {d : Nat} {F : Option bz_V → bz_H → Prop} {bc bs : Nat} (hl : κ.2.1 = l) (a0 : Nat) (x1 : Int32) (x2 : Int32) (x3 : Int32) (h : bz_H) (hP0 : w_X12_refusals_4 G κ l d F bc bs a0 x1 x2 x3 h) : bz_J G κ kX12_refusals (d + 1) F bc bs 4 [some (.inr (some a0)), some (.inl x1), some (.inl x2), some (.inl x3)] [] h := by
  subst hl
  unfold w_X12_refusals_4 at hP0
  refine bz_iload_n (pc := 4) dX12_refusals_4 rfl rfl ?_
  refine bz_bipush (pc := 5) dX12_refusals_5 cb_24 ?_
  refine bz_icmp_ge (tgt := 33) (pc := 7) dX12_refusals_7 rfl (fun c => ?_) (fun c => ?_)
  · have hP1 := hP0.1 c
    clear hP0
    refine bz_iload_n (pc := 33) dX12_refusals_33 rfl rfl ?_
    exact bz_retI (pc := 34) dX12_refusals_34 rfl rfl hP1
  · have hP2 := hP0.2 c
    clear hP0
    refine bz_iload_n (pc := 10) dX12_refusals_10 rfl rfl ?_
    refine bz_aload_n (pc := 11) dX12_refusals_11 rfl rfl ?_
    refine bz_rw_rR (pc := 12) dX12_refusals_12 fl_X12_7 hP2 (fun r_1 hP3 => ?_)
    clear hP2
    refine bz_sipush (pc := 15) dX12_refusals_15 cs_696 ?_
    refine bz_iload_n (pc := 18) dX12_refusals_18 rfl rfl ?_
    refine bz_iadd (pc := 19) dX12_refusals_19 ?_
    obtain ⟨a_2, rfl, hP4⟩ := hP3
    refine bz_rw_rA (pc := 20) dX12_refusals_20 hP4 (fun x_3 hP5 => ?_)
    clear hP4
    refine bz_iload_n (pc := 21) dX12_refusals_21 rfl rfl ?_
    refine bz_ishr (pc := 22) dX12_refusals_22 ?_
    refine bz_iconst (pc := 23) dX12_refusals_23 ci_1 ?_
    refine bz_iand (pc := 24) dX12_refusals_24 ?_
    refine bz_iadd (pc := 25) dX12_refusals_25 ?_
    refine bz_s_istore_n (pc := 26) dX12_refusals_26 rfl (Nat.le_of_ble_eq_true rfl) [some (.inr (some a0)), some (.inl x1), some (.inl (x2 + ((x_3 >>> (x3 &&& 31)) &&& 1))), some (.inl x3)] rfl ?_
    refine bz_s_iinc (pc := 27) dX12_refusals_27 (Nat.le_of_ble_eq_true rfl) rfl rfl [some (.inr (some a0)), some (.inl x1), some (.inl (x2 + ((x_3 >>> (x3 &&& 31)) &&& 1))), some (.inl (x3 + 1))] rfl ?_
    refine bz_goto (tgt := 4) (pc := 30) dX12_refusals_30 rfl ?_
    exact hP5
theorem m_X12_refusals {G : bz_G} {l : Launch} {d mc ms : Nat} {F : Option bz_V → bz_H → Prop} (a0 : Nat) (x1 : Int32) (h : bz_H) (hP : ∀ (κ : bz_K) (bc bs : Nat), κ.2.1 = l → w_X12_refusals_0 G κ l d F bc bs a0 x1 h) : bz_Call G l (d + 1) kX12_refusals [.inr (some a0), .inl x1] h mc ms F :=
  bz_body (by decide) (Nat.le_of_ble_eq_true rfl) (fun κ hl => g_X12_refusals_0 hl a0 x1 h (hP κ mc ms hl))
def w_X12_refuse_0 (G : bz_G) (l : Launch) (d : Nat) (F : Option bz_V → bz_H → Prop) (a0 : Nat) (x1 : Int32) (x2 : Int32) (h : bz_H) : Prop := bz_rc h a0 12 (bz_cI G l d kX12_isRider [.inr (some a0), .inl x1] h 0 0 (fun x_1 h_2 => (x_1 = 0 → bz_rc h_2 a0 12 (bz_cI G l d kX12_finding [.inr (some a0), .inl 0] h_2 0 0 (fun x_3 h_4 => F (some (.inl x_3)) h_4))) ∧ (¬ (x_1 = 0) → bz_rc h_2 a0 12 (bz_cI G l d kX12_isOrder [.inr (some a0), .inl x2] h_2 0 0 (fun x_5 h_6 => (¬ x_5 = 0 → bz_rc h_6 a0 12 (bz_cI G l d kX12_isWaiting [.inr (some a0), .inl x2] h_6 0 0 (fun x_7 h_8 => (x_7 = 0 → bz_rc h_8 a0 12 (bz_cI G l d kX12_finding [.inr (some a0), .inl 4] h_8 0 0 (fun x_9 h_10 => F (some (.inl x_9)) h_10))) ∧ (¬ (x_7 = 0) → bz_rR h_8 a0 12 0 (fun r_11 => bz_nn r_11 (fun a_12 => bz_rA h_8 a_12 (696 + x1) (fun x_13 => (¬ ((x_13 >>> (x2 &&& 31)) &&& 1) = 1 → bz_rR h_8 a0 12 0 (fun r_14 => bz_nn r_14 (fun a_15 => bz_rA h_8 a_15 (696 + x1) (fun x_16 => bz_wA h_8 a_15 (696 + x1) (x_16 ||| (1 <<< (x2 &&& 31))) (fun h_17 => bz_rc h_17 a0 12 (bz_cI G l d kX12_refusals [.inr (some a0), .inl x1] h_17 0 0 (fun x_18 h_19 => F (some (.inl x_18)) h_19))))))) ∧ (((x_13 >>> (x2 &&& 31)) &&& 1) = 1 → bz_rc h_8 a0 12 (bz_cI G l d kX12_finding [.inr (some a0), .inl 4] h_8 0 0 (fun x_20 h_21 => F (some (.inl x_20)) h_21)))))))))) ∧ (x_5 = 0 → bz_rc h_6 a0 12 (bz_cI G l d kX12_finding [.inr (some a0), .inl 0] h_6 0 0 (fun x_22 h_23 => F (some (.inl x_22)) h_23))))))))
set_option maxRecDepth 20000 in
set_option maxHeartbeats 4000000 in
theorem g_X12_refuse_0 {G : bz_G} {κ : bz_K} {l : Launch} {d : Nat} {F : Option bz_V → bz_H → Prop} {bc bs : Nat} (hl : κ.2.1 = l) (a0 : Nat) (x1 : Int32) (x2 : Int32) (h : bz_H) (hP0 : w_X12_refuse_0 G l d F a0 x1 x2 h) : bz_J G κ kX12_refuse (d + 1) F bc bs 0 [some (.inr (some a0)), some (.inl x1), some (.inl x2)] [] h := by
  subst hl
  unfold w_X12_refuse_0 at hP0
  refine bz_aload_n (pc := 0) dX12_refuse_0 rfl rfl ?_
  refine bz_iload_n (pc := 1) dX12_refuse_1 rfl rfl ?_
  refine bz_kIV (as := [.inl x1]) (st := []) (ci := 12) (n := 1) (mc := 0) (ms := 0) (bc := bc) (bs := bs) (yc := kX12_isRider) (q := (RX12, TX12, 34)) (b := a0) (pc := 2) dX12_refuse_2 sc_X12_isRider ml_X12_139 im_X12_isRider se_X12_isRider rfl rfl rfl (Nat.le_of_ble_eq_true rfl) hP0 (fun x_1 h_2 hP1 => ?_)
  clear hP0
  refine bz_if_eq (tgt := 16) (pc := 5) dX12_refuse_5 rfl (fun c => ?_) (fun c => ?_)
  · have hP2 := hP1.1 c
    clear hP1
    refine bz_aload_n (pc := 16) dX12_refuse_16 rfl rfl ?_
    refine bz_iconst (pc := 17) dX12_refuse_17 ci_0 ?_
    refine bz_kIV (as := [.inl 0]) (st := []) (ci := 12) (n := 1) (mc := 0) (ms := 0) (bc := bc) (bs := bs) (yc := kX12_finding) (q := (RX12, TX12, 34)) (b := a0) (pc := 18) dX12_refuse_18 sc_X12_finding ml_X12_73 im_X12_finding se_X12_finding rfl rfl rfl (Nat.le_of_ble_eq_true rfl) hP2 (fun x_3 h_4 hP3 => ?_)
    clear hP2
    exact bz_retI (pc := 21) dX12_refuse_21 rfl rfl hP3
  · have hP4 := hP1.2 c
    clear hP1
    refine bz_aload_n (pc := 8) dX12_refuse_8 rfl rfl ?_
    refine bz_iload_n (pc := 9) dX12_refuse_9 rfl rfl ?_
    refine bz_kIV (as := [.inl x2]) (st := []) (ci := 12) (n := 1) (mc := 0) (ms := 0) (bc := bc) (bs := bs) (yc := kX12_isOrder) (q := (RX12, TX12, 34)) (b := a0) (pc := 10) dX12_refuse_10 sc_X12_isOrder ml_X12_117 im_X12_isOrder se_X12_isOrder rfl rfl rfl (Nat.le_of_ble_eq_true rfl) hP4 (fun x_5 h_6 hP5 => ?_)
    clear hP4
    refine bz_if_ne (tgt := 22) (pc := 13) dX12_refuse_13 rfl (fun c => ?_) (fun c => ?_)
    · have hP6 := hP5.1 c
      clear hP5
      refine bz_aload_n (pc := 22) dX12_refuse_22 rfl rfl ?_
      refine bz_iload_n (pc := 23) dX12_refuse_23 rfl rfl ?_
      refine bz_kIV (as := [.inl x2]) (st := []) (ci := 12) (n := 1) (mc := 0) (ms := 0) (bc := bc) (bs := bs) (yc := kX12_isWaiting) (q := (RX12, TX12, 34)) (b := a0) (pc := 24) dX12_refuse_24 sc_X12_isWaiting ml_X12_129 im_X12_isWaiting se_X12_isWaiting rfl rfl rfl (Nat.le_of_ble_eq_true rfl) hP6 (fun x_7 h_8 hP7 => ?_)
      clear hP6
      refine bz_if_eq (tgt := 48) (pc := 27) dX12_refuse_27 rfl (fun c => ?_) (fun c => ?_)
      · have hP8 := hP7.1 c
        clear hP7
        refine bz_aload_n (pc := 48) dX12_refuse_48 rfl rfl ?_
        refine bz_iconst (pc := 49) dX12_refuse_49 ci_4 ?_
        refine bz_kIV (as := [.inl 4]) (st := []) (ci := 12) (n := 1) (mc := 0) (ms := 0) (bc := bc) (bs := bs) (yc := kX12_finding) (q := (RX12, TX12, 34)) (b := a0) (pc := 50) dX12_refuse_50 sc_X12_finding ml_X12_73 im_X12_finding se_X12_finding rfl rfl rfl (Nat.le_of_ble_eq_true rfl) hP8 (fun x_9 h_10 hP9 => ?_)
        clear hP8
        exact bz_retI (pc := 53) dX12_refuse_53 rfl rfl hP9
      · have hP10 := hP7.2 c
        clear hP7
        refine bz_aload_n (pc := 30) dX12_refuse_30 rfl rfl ?_
        refine bz_rw_rR (pc := 31) dX12_refuse_31 fl_X12_7 hP10 (fun r_11 hP11 => ?_)
        clear hP10
        refine bz_sipush (pc := 34) dX12_refuse_34 cs_696 ?_
        refine bz_iload_n (pc := 37) dX12_refuse_37 rfl rfl ?_
        refine bz_iadd (pc := 38) dX12_refuse_38 ?_
        obtain ⟨a_12, rfl, hP12⟩ := hP11
        refine bz_rw_rA (pc := 39) dX12_refuse_39 hP12 (fun x_13 hP13 => ?_)
        clear hP12
        refine bz_iload_n (pc := 40) dX12_refuse_40 rfl rfl ?_
        refine bz_ishr (pc := 41) dX12_refuse_41 ?_
        refine bz_iconst (pc := 42) dX12_refuse_42 ci_1 ?_
        refine bz_iand (pc := 43) dX12_refuse_43 ?_
        refine bz_iconst (pc := 44) dX12_refuse_44 ci_1 ?_
        refine bz_icmp_ne (tgt := 54) (pc := 45) dX12_refuse_45 rfl (fun c => ?_) (fun c => ?_)
        · have hP14 := hP13.1 c
          clear hP13
          refine bz_aload_n (pc := 54) dX12_refuse_54 rfl rfl ?_
          refine bz_rw_rR (pc := 55) dX12_refuse_55 fl_X12_7 hP14 (fun r_14 hP15 => ?_)
          clear hP14
          refine bz_sipush (pc := 58) dX12_refuse_58 cs_696 ?_
          refine bz_iload_n (pc := 61) dX12_refuse_61 rfl rfl ?_
          refine bz_iadd (pc := 62) dX12_refuse_62 ?_
          refine bz_dup2 (pc := 63) dX12_refuse_63 ?_
          obtain ⟨a_15, rfl, hP16⟩ := hP15
          refine bz_rw_rA (pc := 64) dX12_refuse_64 hP16 (fun x_16 hP17 => ?_)
          clear hP16
          refine bz_iconst (pc := 65) dX12_refuse_65 ci_1 ?_
          refine bz_iload_n (pc := 66) dX12_refuse_66 rfl rfl ?_
          refine bz_ishl (pc := 67) dX12_refuse_67 ?_
          refine bz_ior (pc := 68) dX12_refuse_68 ?_
          refine bz_rw_wA (pc := 69) dX12_refuse_69 hP17 (fun h_17 hP18 => ?_)
          clear hP17
          refine bz_aload_n (pc := 70) dX12_refuse_70 rfl rfl ?_
          refine bz_iload_n (pc := 71) dX12_refuse_71 rfl rfl ?_
          refine bz_kIV (as := [.inl x1]) (st := []) (ci := 12) (n := 1) (mc := 0) (ms := 0) (bc := bc) (bs := bs) (yc := kX12_refusals) (q := (RX12, TX12, 34)) (b := a0) (pc := 72) dX12_refuse_72 sc_X12_refusals ml_X12_151 im_X12_refusals se_X12_refusals rfl rfl rfl (Nat.le_of_ble_eq_true rfl) hP18 (fun x_18 h_19 hP19 => ?_)
          clear hP18
          exact bz_retI (pc := 75) dX12_refuse_75 rfl rfl hP19
        · have hP20 := hP13.2 c
          clear hP13
          refine bz_aload_n (pc := 48) dX12_refuse_48 rfl rfl ?_
          refine bz_iconst (pc := 49) dX12_refuse_49 ci_4 ?_
          refine bz_kIV (as := [.inl 4]) (st := []) (ci := 12) (n := 1) (mc := 0) (ms := 0) (bc := bc) (bs := bs) (yc := kX12_finding) (q := (RX12, TX12, 34)) (b := a0) (pc := 50) dX12_refuse_50 sc_X12_finding ml_X12_73 im_X12_finding se_X12_finding rfl rfl rfl (Nat.le_of_ble_eq_true rfl) hP20 (fun x_20 h_21 hP21 => ?_)
          clear hP20
          exact bz_retI (pc := 53) dX12_refuse_53 rfl rfl hP21
    · have hP22 := hP5.2 c
      clear hP5
      refine bz_aload_n (pc := 16) dX12_refuse_16 rfl rfl ?_
      refine bz_iconst (pc := 17) dX12_refuse_17 ci_0 ?_
      refine bz_kIV (as := [.inl 0]) (st := []) (ci := 12) (n := 1) (mc := 0) (ms := 0) (bc := bc) (bs := bs) (yc := kX12_finding) (q := (RX12, TX12, 34)) (b := a0) (pc := 18) dX12_refuse_18 sc_X12_finding ml_X12_73 im_X12_finding se_X12_finding rfl rfl rfl (Nat.le_of_ble_eq_true rfl) hP22 (fun x_22 h_23 hP23 => ?_)
      clear hP22
      exact bz_retI (pc := 21) dX12_refuse_21 rfl rfl hP23
theorem m_X12_refuse {G : bz_G} {l : Launch} {d mc ms : Nat} {F : Option bz_V → bz_H → Prop} (a0 : Nat) (x1 : Int32) (x2 : Int32) (h : bz_H) (hP : w_X12_refuse_0 G l d F a0 x1 x2 h) : bz_Call G l (d + 1) kX12_refuse [.inr (some a0), .inl x1, .inl x2] h mc ms F :=
  bz_body (by decide) (Nat.le_of_ble_eq_true rfl) (fun κ hl => g_X12_refuse_0 hl a0 x1 x2 h hP)
def w_X12_ride_0 (G : bz_G) (l : Launch) (d : Nat) (F : Option bz_V → bz_H → Prop) (a0 : Nat) (x1 : Int32) (x2 : Int32) (h : bz_H) : Prop := bz_rI h a0 12 8 (fun x_1 => (x_1 = 0 → bz_b 0 (bz_wI h a0 12 8 0 (fun h_2 => bz_rI h_2 a0 12 7 (fun x_3 => bz_rI h_2 a0 12 8 (fun x_4 => (x_4 = 0 → bz_wI h_2 a0 12 7 (x_3 + 0) (fun h_5 => bz_wI h_5 a0 12 6 x2 (fun h_6 => F none h_6))) ∧ (¬ (x_4 = 0) → bz_rI h_2 a0 12 6 (fun x_7 => bz_rc h_2 a0 12 (bz_cI G l d kX12_goesOf [.inr (some a0), .inl x1, .inl x_7, .inl x2] h_2 0 0 (fun x_8 h_9 => bz_wI h_9 a0 12 7 (x_3 + x_8) (fun h_10 => bz_wI h_10 a0 12 6 x2 (fun h_11 => F none h_11))))))))))) ∧ (¬ (x_1 = 0) → bz_rI h a0 12 6 (fun x_12 => bz_rc h a0 12 (bz_cI G l d kX12_wayOf [.inr (some a0), .inl x_12, .inl x2] h 0 0 (fun x_13 h_14 => bz_b (if x_13 < 0 then 0 else 1) (bz_wI h_14 a0 12 8 (if x_13 < 0 then 0 else 1) (fun h_15 => bz_rI h_15 a0 12 7 (fun x_16 => bz_rI h_15 a0 12 8 (fun x_17 => (x_17 = 0 → bz_wI h_15 a0 12 7 (x_16 + 0) (fun h_18 => bz_wI h_18 a0 12 6 x2 (fun h_19 => F none h_19))) ∧ (¬ (x_17 = 0) → bz_rI h_15 a0 12 6 (fun x_20 => bz_rc h_15 a0 12 (bz_cI G l d kX12_goesOf [.inr (some a0), .inl x1, .inl x_20, .inl x2] h_15 0 0 (fun x_21 h_22 => bz_wI h_22 a0 12 7 (x_16 + x_21) (fun h_23 => bz_wI h_23 a0 12 6 x2 (fun h_24 => F none h_24)))))))))))))))
set_option maxRecDepth 20000 in
set_option maxHeartbeats 4000000 in
theorem g_X12_ride_0 {G : bz_G} {κ : bz_K} {l : Launch} {d : Nat} {F : Option bz_V → bz_H → Prop} {bc bs : Nat} (hl : κ.2.1 = l) (a0 : Nat) (x1 : Int32) (x2 : Int32) (h : bz_H) (hP0 : w_X12_ride_0 G l d F a0 x1 x2 h) : bz_J G κ kX12_ride (d + 1) F bc bs 0 [some (.inr (some a0)), some (.inl x1), some (.inl x2)] [] h := by
  subst hl
  unfold w_X12_ride_0 at hP0
  refine bz_aload_n (pc := 0) dX12_ride_0 rfl rfl ?_
  refine bz_aload_n (pc := 1) dX12_ride_1 rfl rfl ?_
  refine bz_rw_rI (pc := 2) dX12_ride_2 fl_X12_160 hP0 (fun x_1 hP1 => ?_)
  clear hP0
  refine bz_if_eq (tgt := 24) (pc := 5) dX12_ride_5 rfl (fun c => ?_) (fun c => ?_)
  · have hP2 := hP1.1 c
    clear hP1
    refine bz_iconst (pc := 24) dX12_ride_24 ci_0 ?_
    refine bz_rw_wZ (pc := 25) dX12_ride_25 fl_X12_160 (fun q h9 => by cases h9; rfl) rfl hP2 (fun h_2 hP3 => ?_)
    clear hP2
    refine bz_aload_n (pc := 28) dX12_ride_28 rfl rfl ?_
    refine bz_dup (pc := 29) dX12_ride_29 ?_
    refine bz_rw_rI (pc := 30) dX12_ride_30 fl_X12_167 hP3 (fun x_3 hP4 => ?_)
    clear hP3
    refine bz_aload_n (pc := 33) dX12_ride_33 rfl rfl ?_
    refine bz_rw_rI (pc := 34) dX12_ride_34 fl_X12_160 hP4 (fun x_4 hP5 => ?_)
    clear hP4
    refine bz_if_eq (tgt := 53) (pc := 37) dX12_ride_37 rfl (fun c => ?_) (fun c => ?_)
    · have hP6 := hP5.1 c
      clear hP5
      refine bz_iconst (pc := 53) dX12_ride_53 ci_0 ?_
      refine bz_iadd (pc := 54) dX12_ride_54 ?_
      refine bz_rw_wI (pc := 55) dX12_ride_55 fl_X12_167 (fun q h9 => by cases h9; rfl) rfl hP6 (fun h_5 hP7 => ?_)
      clear hP6
      refine bz_aload_n (pc := 58) dX12_ride_58 rfl rfl ?_
      refine bz_iload_n (pc := 59) dX12_ride_59 rfl rfl ?_
      refine bz_rw_wI (pc := 60) dX12_ride_60 fl_X12_163 (fun q h9 => by cases h9; rfl) rfl hP7 (fun h_6 hP8 => ?_)
      clear hP7
      exact bz_retV (pc := 63) dX12_ride_63 rfl hP8
    · have hP9 := hP5.2 c
      clear hP5
      refine bz_aload_n (pc := 40) dX12_ride_40 rfl rfl ?_
      refine bz_iload_n (pc := 41) dX12_ride_41 rfl rfl ?_
      refine bz_aload_n (pc := 42) dX12_ride_42 rfl rfl ?_
      refine bz_rw_rI (pc := 43) dX12_ride_43 fl_X12_163 hP9 (fun x_7 hP10 => ?_)
      clear hP9
      refine bz_iload_n (pc := 46) dX12_ride_46 rfl rfl ?_
      refine bz_kIV (as := [.inl x1, .inl x_7, .inl x2]) (st := [.inl x_3, .inr (some a0)]) (ci := 12) (n := 3) (mc := 0) (ms := 0) (bc := bc) (bs := bs) (yc := kX12_goesOf) (q := (RX12, TX12, 34)) (b := a0) (pc := 47) dX12_ride_47 sc_X12_goesOf ml_X12_157 im_X12_goesOf se_X12_goesOf rfl rfl rfl (Nat.le_of_ble_eq_true rfl) hP10 (fun x_8 h_9 hP11 => ?_)
      clear hP10
      refine bz_goto (tgt := 54) (pc := 50) dX12_ride_50 rfl ?_
      refine bz_iadd (pc := 54) dX12_ride_54 ?_
      refine bz_rw_wI (pc := 55) dX12_ride_55 fl_X12_167 (fun q h9 => by cases h9; rfl) rfl hP11 (fun h_10 hP12 => ?_)
      clear hP11
      refine bz_aload_n (pc := 58) dX12_ride_58 rfl rfl ?_
      refine bz_iload_n (pc := 59) dX12_ride_59 rfl rfl ?_
      refine bz_rw_wI (pc := 60) dX12_ride_60 fl_X12_163 (fun q h9 => by cases h9; rfl) rfl hP12 (fun h_11 hP13 => ?_)
      clear hP12
      exact bz_retV (pc := 63) dX12_ride_63 rfl hP13
  · have hP14 := hP1.2 c
    clear hP1
    refine bz_aload_n (pc := 8) dX12_ride_8 rfl rfl ?_
    refine bz_aload_n (pc := 9) dX12_ride_9 rfl rfl ?_
    refine bz_rw_rI (pc := 10) dX12_ride_10 fl_X12_163 hP14 (fun x_12 hP15 => ?_)
    clear hP14
    refine bz_iload_n (pc := 13) dX12_ride_13 rfl rfl ?_
    refine bz_kIV (as := [.inl x_12, .inl x2]) (st := [.inr (some a0)]) (ci := 12) (n := 2) (mc := 0) (ms := 0) (bc := bc) (bs := bs) (yc := kX12_wayOf) (q := (RX12, TX12, 34)) (b := a0) (pc := 14) dX12_ride_14 sc_X12_wayOf ml_X12_96 im_X12_wayOf se_X12_wayOf rfl rfl rfl (Nat.le_of_ble_eq_true rfl) hP15 (fun x_13 h_14 hP16 => ?_)
    clear hP15
    have hJ : bz_J G κ kX12_ride (d + 1) F bc bs 25 [some (.inr (some a0)), some (.inl x1), some (.inl x2)] [.inl (if x_13 < 0 then 0 else 1), .inr (some a0)] h_14 := by
      refine bz_rw_wZ (pc := 25) dX12_ride_25 fl_X12_160 (fun q h9 => by cases h9; rfl) rfl hP16 (fun h_15 hP17 => ?_)
      clear hP16
      refine bz_aload_n (pc := 28) dX12_ride_28 rfl rfl ?_
      refine bz_dup (pc := 29) dX12_ride_29 ?_
      refine bz_rw_rI (pc := 30) dX12_ride_30 fl_X12_167 hP17 (fun x_16 hP18 => ?_)
      clear hP17
      refine bz_aload_n (pc := 33) dX12_ride_33 rfl rfl ?_
      refine bz_rw_rI (pc := 34) dX12_ride_34 fl_X12_160 hP18 (fun x_17 hP19 => ?_)
      clear hP18
      refine bz_if_eq (tgt := 53) (pc := 37) dX12_ride_37 rfl (fun c => ?_) (fun c => ?_)
      · have hP20 := hP19.1 c
        clear hP19
        refine bz_iconst (pc := 53) dX12_ride_53 ci_0 ?_
        refine bz_iadd (pc := 54) dX12_ride_54 ?_
        refine bz_rw_wI (pc := 55) dX12_ride_55 fl_X12_167 (fun q h9 => by cases h9; rfl) rfl hP20 (fun h_18 hP21 => ?_)
        clear hP20
        refine bz_aload_n (pc := 58) dX12_ride_58 rfl rfl ?_
        refine bz_iload_n (pc := 59) dX12_ride_59 rfl rfl ?_
        refine bz_rw_wI (pc := 60) dX12_ride_60 fl_X12_163 (fun q h9 => by cases h9; rfl) rfl hP21 (fun h_19 hP22 => ?_)
        clear hP21
        exact bz_retV (pc := 63) dX12_ride_63 rfl hP22
      · have hP23 := hP19.2 c
        clear hP19
        refine bz_aload_n (pc := 40) dX12_ride_40 rfl rfl ?_
        refine bz_iload_n (pc := 41) dX12_ride_41 rfl rfl ?_
        refine bz_aload_n (pc := 42) dX12_ride_42 rfl rfl ?_
        refine bz_rw_rI (pc := 43) dX12_ride_43 fl_X12_163 hP23 (fun x_20 hP24 => ?_)
        clear hP23
        refine bz_iload_n (pc := 46) dX12_ride_46 rfl rfl ?_
        refine bz_kIV (as := [.inl x1, .inl x_20, .inl x2]) (st := [.inl x_16, .inr (some a0)]) (ci := 12) (n := 3) (mc := 0) (ms := 0) (bc := bc) (bs := bs) (yc := kX12_goesOf) (q := (RX12, TX12, 34)) (b := a0) (pc := 47) dX12_ride_47 sc_X12_goesOf ml_X12_157 im_X12_goesOf se_X12_goesOf rfl rfl rfl (Nat.le_of_ble_eq_true rfl) hP24 (fun x_21 h_22 hP25 => ?_)
        clear hP24
        refine bz_goto (tgt := 54) (pc := 50) dX12_ride_50 rfl ?_
        refine bz_iadd (pc := 54) dX12_ride_54 ?_
        refine bz_rw_wI (pc := 55) dX12_ride_55 fl_X12_167 (fun q h9 => by cases h9; rfl) rfl hP25 (fun h_23 hP26 => ?_)
        clear hP25
        refine bz_aload_n (pc := 58) dX12_ride_58 rfl rfl ?_
        refine bz_iload_n (pc := 59) dX12_ride_59 rfl rfl ?_
        refine bz_rw_wI (pc := 60) dX12_ride_60 fl_X12_163 (fun q h9 => by cases h9; rfl) rfl hP26 (fun h_24 hP27 => ?_)
        clear hP26
        exact bz_retV (pc := 63) dX12_ride_63 rfl hP27
    refine bz_if_lt (tgt := 24) (pc := 17) dX12_ride_17 rfl (fun c => ?_) (fun c => ?_)
    · have e9 : ((if x_13 < 0 then 0 else 1) : Int32) = (0) := if_pos c
      rw [e9] at hJ
      refine bz_iconst (pc := 24) dX12_ride_24 ci_0 ?_
      exact hJ
    · have e9 : ((if x_13 < 0 then 0 else 1) : Int32) = (1) := if_neg c
      rw [e9] at hJ
      refine bz_iconst (pc := 20) dX12_ride_20 ci_1 ?_
      refine bz_goto (tgt := 25) (pc := 21) dX12_ride_21 rfl ?_
      exact hJ
theorem m_X12_ride {G : bz_G} {l : Launch} {d mc ms : Nat} {F : Option bz_V → bz_H → Prop} (a0 : Nat) (x1 : Int32) (x2 : Int32) (h : bz_H) (hP : w_X12_ride_0 G l d F a0 x1 x2 h) : bz_Call G l (d + 1) kX12_ride [.inr (some a0), .inl x1, .inl x2] h mc ms F :=
  bz_body (by decide) (Nat.le_of_ble_eq_true rfl) (fun κ hl => g_X12_ride_0 hl a0 x1 x2 h hP)
def w_X12_riderOf_0 (G : bz_G) (l : Launch) (d : Nat) (F : Option bz_V → bz_H → Prop) (a0 : Nat) (x1 : Int32) (x2 : Int32) (h : bz_H) : Prop := bz_rc h a0 12 (bz_cI G l d kX12_isRider [.inr (some a0), .inl x1] h 0 0 (fun x_1 h_2 => (x_1 = 0 → bz_rc h_2 a0 12 (bz_cI G l d kX12_finding [.inr (some a0), .inl 0] h_2 0 0 (fun x_3 h_4 => F (some (.inl x_3)) h_4))) ∧ (¬ (x_1 = 0) → bz_cI G l d kX12_in [.inl x2, .inl 0, .inl 7] h_2 0 0 (fun x_5 h_6 => (¬ x_5 = 0 → (x2 = 4 → bz_rc h_6 a0 12 (bz_cI G l d kX12_engaged [.inr (some a0), .inl x1] h_6 0 0 (fun x_7 h_8 => F (some (.inl x_7)) h_8))) ∧ (¬ x2 = 4 → (x2 = 5 → bz_rc h_6 a0 12 (bz_cI G l d kX12_payOfAll [.inr (some a0), .inl x1] h_6 0 0 (fun x_9 h_10 => F (some (.inl x_9)) h_10))) ∧ (¬ x2 = 5 → (x2 = 6 → bz_rc h_6 a0 12 (bz_cI G l d kX12_ratingOfRider [.inr (some a0), .inl x1] h_6 0 0 (fun x_11 h_12 => F (some (.inl x_11)) h_12))) ∧ (¬ x2 = 6 → (x2 = 7 → bz_rc h_6 a0 12 (bz_cI G l d kX12_refusals [.inr (some a0), .inl x1] h_6 0 0 (fun x_13 h_14 => F (some (.inl x_13)) h_14))) ∧ (¬ x2 = 7 → bz_rc h_6 a0 12 (bz_cI G l d kX12_ofRider [.inr (some a0), .inl x1, .inl x2] h_6 0 0 (fun x_15 h_16 => F (some (.inl x_15)) h_16))))))) ∧ (x_5 = 0 → bz_rc h_6 a0 12 (bz_cI G l d kX12_finding [.inr (some a0), .inl 0] h_6 0 0 (fun x_17 h_18 => F (some (.inl x_17)) h_18)))))))
set_option maxRecDepth 20000 in
set_option maxHeartbeats 4000000 in
theorem g_X12_riderOf_0 {G : bz_G} {κ : bz_K} {l : Launch} {d : Nat} {F : Option bz_V → bz_H → Prop} {bc bs : Nat} (hl : κ.2.1 = l) (a0 : Nat) (x1 : Int32) (x2 : Int32) (h : bz_H) (hP0 : w_X12_riderOf_0 G l d F a0 x1 x2 h) : bz_J G κ kX12_riderOf (d + 1) F bc bs 0 [some (.inr (some a0)), some (.inl x1), some (.inl x2)] [] h := by
  subst hl
  unfold w_X12_riderOf_0 at hP0
  refine bz_aload_n (pc := 0) dX12_riderOf_0 rfl rfl ?_
  refine bz_iload_n (pc := 1) dX12_riderOf_1 rfl rfl ?_
  refine bz_kIV (as := [.inl x1]) (st := []) (ci := 12) (n := 1) (mc := 0) (ms := 0) (bc := bc) (bs := bs) (yc := kX12_isRider) (q := (RX12, TX12, 34)) (b := a0) (pc := 2) dX12_riderOf_2 sc_X12_isRider ml_X12_139 im_X12_isRider se_X12_isRider rfl rfl rfl (Nat.le_of_ble_eq_true rfl) hP0 (fun x_1 h_2 hP1 => ?_)
  clear hP0
  refine bz_if_eq (tgt := 18) (pc := 5) dX12_riderOf_5 rfl (fun c => ?_) (fun c => ?_)
  · have hP2 := hP1.1 c
    clear hP1
    refine bz_aload_n (pc := 18) dX12_riderOf_18 rfl rfl ?_
    refine bz_iconst (pc := 19) dX12_riderOf_19 ci_0 ?_
    refine bz_kIV (as := [.inl 0]) (st := []) (ci := 12) (n := 1) (mc := 0) (ms := 0) (bc := bc) (bs := bs) (yc := kX12_finding) (q := (RX12, TX12, 34)) (b := a0) (pc := 20) dX12_riderOf_20 sc_X12_finding ml_X12_73 im_X12_finding se_X12_finding rfl rfl rfl (Nat.le_of_ble_eq_true rfl) hP2 (fun x_3 h_4 hP3 => ?_)
    clear hP2
    exact bz_retI (pc := 23) dX12_riderOf_23 rfl rfl hP3
  · have hP4 := hP1.2 c
    clear hP1
    refine bz_iload_n (pc := 8) dX12_riderOf_8 rfl rfl ?_
    refine bz_iconst (pc := 9) dX12_riderOf_9 ci_0 ?_
    refine bz_bipush (pc := 10) dX12_riderOf_10 cb_7 ?_
    refine bz_kIS (as := [.inl x2, .inl 0, .inl 7]) (st := []) (n := 3) (mc := 0) (ms := 0) (bc := bc) (bs := bs) (yc := kX12_in) (pc := 12) dX12_riderOf_12 sc_X12_in ml_X12_65 ss_X12_in rfl (Nat.le_of_ble_eq_true rfl) hP4 (fun x_5 h_6 hP5 => ?_)
    clear hP4
    refine bz_if_ne (tgt := 24) (pc := 15) dX12_riderOf_15 rfl (fun c => ?_) (fun c => ?_)
    · have hP6 := hP5.1 c
      clear hP5
      refine bz_iload_n (pc := 24) dX12_riderOf_24 rfl rfl ?_
      refine bz_table (pc := 25) [(4, 31), (5, 37), (6, 43), (7, 49)] dX12_riderOf_25 (by decide) (by decide) (by decide) (by decide) (by decide) ?_
      refine ⟨fun c => ?_, fun c => ?_⟩
      · have hP7 := hP6.1 c
        clear hP6
        show bz_J G κ kX12_riderOf (d + 1) F bc bs 56 [some (.inr (some a0)), some (.inl x1), some (.inl x2)] [] h_6
        refine bz_aload_n (pc := 56) dX12_riderOf_56 rfl rfl ?_
        refine bz_iload_n (pc := 57) dX12_riderOf_57 rfl rfl ?_
        refine bz_kIV (as := [.inl x1]) (st := []) (ci := 12) (n := 1) (mc := 0) (ms := 0) (bc := bc) (bs := bs) (yc := kX12_engaged) (q := (RX12, TX12, 34)) (b := a0) (pc := 58) dX12_riderOf_58 sc_X12_engaged ml_X12_142 im_X12_engaged se_X12_engaged rfl rfl rfl (Nat.le_of_ble_eq_true rfl) hP7 (fun x_7 h_8 hP8 => ?_)
        clear hP7
        exact bz_retI (pc := 61) dX12_riderOf_61 rfl rfl hP8
      · have hP9 := hP6.2 c
        clear hP6
        refine ⟨fun c => ?_, fun c => ?_⟩
        · have hP10 := hP9.1 c
          clear hP9
          show bz_J G κ kX12_riderOf (d + 1) F bc bs 62 [some (.inr (some a0)), some (.inl x1), some (.inl x2)] [] h_6
          refine bz_aload_n (pc := 62) dX12_riderOf_62 rfl rfl ?_
          refine bz_iload_n (pc := 63) dX12_riderOf_63 rfl rfl ?_
          refine bz_kIV (as := [.inl x1]) (st := []) (ci := 12) (n := 1) (mc := 0) (ms := 0) (bc := bc) (bs := bs) (yc := kX12_payOfAll) (q := (RX12, TX12, 34)) (b := a0) (pc := 64) dX12_riderOf_64 sc_X12_payOfAll ml_X12_145 im_X12_payOfAll se_X12_payOfAll rfl rfl rfl (Nat.le_of_ble_eq_true rfl) hP10 (fun x_9 h_10 hP11 => ?_)
          clear hP10
          exact bz_retI (pc := 67) dX12_riderOf_67 rfl rfl hP11
        · have hP12 := hP9.2 c
          clear hP9
          refine ⟨fun c => ?_, fun c => ?_⟩
          · have hP13 := hP12.1 c
            clear hP12
            show bz_J G κ kX12_riderOf (d + 1) F bc bs 68 [some (.inr (some a0)), some (.inl x1), some (.inl x2)] [] h_6
            refine bz_aload_n (pc := 68) dX12_riderOf_68 rfl rfl ?_
            refine bz_iload_n (pc := 69) dX12_riderOf_69 rfl rfl ?_
            refine bz_kIV (as := [.inl x1]) (st := []) (ci := 12) (n := 1) (mc := 0) (ms := 0) (bc := bc) (bs := bs) (yc := kX12_ratingOfRider) (q := (RX12, TX12, 34)) (b := a0) (pc := 70) dX12_riderOf_70 sc_X12_ratingOfRider ml_X12_148 im_X12_ratingOfRider se_X12_ratingOfRider rfl rfl rfl (Nat.le_of_ble_eq_true rfl) hP13 (fun x_11 h_12 hP14 => ?_)
            clear hP13
            exact bz_retI (pc := 73) dX12_riderOf_73 rfl rfl hP14
          · have hP15 := hP12.2 c
            clear hP12
            refine ⟨fun c => ?_, fun c => ?_⟩
            · have hP16 := hP15.1 c
              clear hP15
              show bz_J G κ kX12_riderOf (d + 1) F bc bs 74 [some (.inr (some a0)), some (.inl x1), some (.inl x2)] [] h_6
              refine bz_aload_n (pc := 74) dX12_riderOf_74 rfl rfl ?_
              refine bz_iload_n (pc := 75) dX12_riderOf_75 rfl rfl ?_
              refine bz_kIV (as := [.inl x1]) (st := []) (ci := 12) (n := 1) (mc := 0) (ms := 0) (bc := bc) (bs := bs) (yc := kX12_refusals) (q := (RX12, TX12, 34)) (b := a0) (pc := 76) dX12_riderOf_76 sc_X12_refusals ml_X12_151 im_X12_refusals se_X12_refusals rfl rfl rfl (Nat.le_of_ble_eq_true rfl) hP16 (fun x_13 h_14 hP17 => ?_)
              clear hP16
              exact bz_retI (pc := 79) dX12_riderOf_79 rfl rfl hP17
            · have hP18 := hP15.2 c
              clear hP15
              show bz_J G κ kX12_riderOf (d + 1) F bc bs 80 [some (.inr (some a0)), some (.inl x1), some (.inl x2)] [] h_6
              refine bz_aload_n (pc := 80) dX12_riderOf_80 rfl rfl ?_
              refine bz_iload_n (pc := 81) dX12_riderOf_81 rfl rfl ?_
              refine bz_iload_n (pc := 82) dX12_riderOf_82 rfl rfl ?_
              refine bz_kIV (as := [.inl x1, .inl x2]) (st := []) (ci := 12) (n := 2) (mc := 0) (ms := 0) (bc := bc) (bs := bs) (yc := kX12_ofRider) (q := (RX12, TX12, 34)) (b := a0) (pc := 83) dX12_riderOf_83 sc_X12_ofRider ml_X12_136 im_X12_ofRider se_X12_ofRider rfl rfl rfl (Nat.le_of_ble_eq_true rfl) hP18 (fun x_15 h_16 hP19 => ?_)
              clear hP18
              exact bz_retI (pc := 86) dX12_riderOf_86 rfl rfl hP19
    · have hP20 := hP5.2 c
      clear hP5
      refine bz_aload_n (pc := 18) dX12_riderOf_18 rfl rfl ?_
      refine bz_iconst (pc := 19) dX12_riderOf_19 ci_0 ?_
      refine bz_kIV (as := [.inl 0]) (st := []) (ci := 12) (n := 1) (mc := 0) (ms := 0) (bc := bc) (bs := bs) (yc := kX12_finding) (q := (RX12, TX12, 34)) (b := a0) (pc := 20) dX12_riderOf_20 sc_X12_finding ml_X12_73 im_X12_finding se_X12_finding rfl rfl rfl (Nat.le_of_ble_eq_true rfl) hP20 (fun x_17 h_18 hP21 => ?_)
      clear hP20
      exact bz_retI (pc := 23) dX12_riderOf_23 rfl rfl hP21
theorem m_X12_riderOf {G : bz_G} {l : Launch} {d mc ms : Nat} {F : Option bz_V → bz_H → Prop} (a0 : Nat) (x1 : Int32) (x2 : Int32) (h : bz_H) (hP : w_X12_riderOf_0 G l d F a0 x1 x2 h) : bz_Call G l (d + 1) kX12_riderOf [.inr (some a0), .inl x1, .inl x2] h mc ms F :=
  bz_body (by decide) (Nat.le_of_ble_eq_true rfl) (fun κ hl => g_X12_riderOf_0 hl a0 x1 x2 h hP)
def w_X12_rider_0 (G : bz_G) (l : Launch) (d : Nat) (F : Option bz_V → bz_H → Prop) (a0 : Nat) (x1 : Int32) (x2 : Int32) (h : bz_H) : Prop := bz_cI G l d kX12_in [.inl x1, .inl 0, .inl 6] h 0 0 (fun x_1 h_2 => (x_1 = 0 → bz_rc h_2 a0 12 (bz_cI G l d kX12_finding [.inr (some a0), .inl 0] h_2 0 0 (fun x_3 h_4 => F (some (.inl x_3)) h_4))) ∧ (¬ (x_1 = 0) → bz_cI G l d kX12_isCrossing [.inl x2] h_2 0 0 (fun x_5 h_6 => (¬ x_5 = 0 → bz_rR h_6 a0 12 0 (fun r_7 => bz_nn r_7 (fun a_8 => bz_rA h_6 a_8 3 (fun x_9 => (¬ x_9 = 12 → bz_rR h_6 a0 12 0 (fun r_10 => bz_nn r_10 (fun a_11 => bz_rA h_6 a_11 3 (fun x_12 => bz_rR h_6 a0 12 0 (fun r_13 => bz_nn r_13 (fun a_14 => bz_wA h_6 a_14 ((600 + (8 * x_12)) + 0) x1 (fun h_15 => bz_rR h_15 a0 12 0 (fun r_16 => bz_nn r_16 (fun a_17 => bz_wA h_15 a_17 ((600 + (8 * x_12)) + 1) x2 (fun h_18 => bz_rR h_18 a0 12 0 (fun r_19 => bz_rR h_18 a0 12 0 (fun r_20 => bz_nn r_20 (fun a_21 => bz_rA h_18 a_21 0 (fun x_22 => bz_nn r_19 (fun a_23 => bz_wA h_18 a_23 ((600 + (8 * x_12)) + 2) x_22 (fun h_24 => bz_rR h_24 a0 12 0 (fun r_25 => bz_nn r_25 (fun a_26 => bz_wA h_24 a_26 ((600 + (8 * x_12)) + 3) 0 (fun h_27 => bz_rR h_27 a0 12 0 (fun r_28 => bz_nn r_28 (fun a_29 => bz_wA h_27 a_29 ((600 + (8 * x_12)) + 4) x2 (fun h_30 => bz_rR h_30 a0 12 0 (fun r_31 => bz_rR h_30 a0 12 0 (fun r_32 => bz_nn r_32 (fun a_33 => bz_rA h_30 a_33 0 (fun x_34 => bz_nn r_31 (fun a_35 => bz_wA h_30 a_35 ((600 + (8 * x_12)) + 5) x_34 (fun h_36 => bz_rR h_36 a0 12 0 (fun r_37 => bz_nn r_37 (fun a_38 => bz_rA h_36 a_38 3 (fun x_39 => bz_wA h_36 a_38 3 (x_39 + 1) (fun h_40 => bz_rR h_40 a0 12 0 (fun r_41 => bz_nn r_41 (fun a_42 => bz_rA h_40 a_42 3 (fun x_43 => F (some (.inl (x_43 - 1))) h_40))))))))))))))))))))))))))))))))))) ∧ (x_9 = 12 → bz_rc h_6 a0 12 (bz_cI G l d kX12_finding [.inr (some a0), .inl 1] h_6 0 0 (fun x_44 h_45 => F (some (.inl x_44)) h_45))))))) ∧ (x_5 = 0 → bz_rc h_6 a0 12 (bz_cI G l d kX12_finding [.inr (some a0), .inl 0] h_6 0 0 (fun x_46 h_47 => F (some (.inl x_46)) h_47))))))
set_option maxRecDepth 20000 in
set_option maxHeartbeats 4000000 in
theorem g_X12_rider_0 {G : bz_G} {κ : bz_K} {l : Launch} {d : Nat} {F : Option bz_V → bz_H → Prop} {bc bs : Nat} (hl : κ.2.1 = l) (a0 : Nat) (x1 : Int32) (x2 : Int32) (h : bz_H) (hP0 : w_X12_rider_0 G l d F a0 x1 x2 h) : bz_J G κ kX12_rider (d + 1) F bc bs 0 [some (.inr (some a0)), some (.inl x1), some (.inl x2), none] [] h := by
  subst hl
  unfold w_X12_rider_0 at hP0
  refine bz_iload_n (pc := 0) dX12_rider_0 rfl rfl ?_
  refine bz_iconst (pc := 1) dX12_rider_1 ci_0 ?_
  refine bz_bipush (pc := 2) dX12_rider_2 cb_6 ?_
  refine bz_kIS (as := [.inl x1, .inl 0, .inl 6]) (st := []) (n := 3) (mc := 0) (ms := 0) (bc := bc) (bs := bs) (yc := kX12_in) (pc := 4) dX12_rider_4 sc_X12_in ml_X12_65 ss_X12_in rfl (Nat.le_of_ble_eq_true rfl) hP0 (fun x_1 h_2 hP1 => ?_)
  clear hP0
  refine bz_if_eq (tgt := 17) (pc := 7) dX12_rider_7 rfl (fun c => ?_) (fun c => ?_)
  · have hP2 := hP1.1 c
    clear hP1
    refine bz_aload_n (pc := 17) dX12_rider_17 rfl rfl ?_
    refine bz_iconst (pc := 18) dX12_rider_18 ci_0 ?_
    refine bz_kIV (as := [.inl 0]) (st := []) (ci := 12) (n := 1) (mc := 0) (ms := 0) (bc := bc) (bs := bs) (yc := kX12_finding) (q := (RX12, TX12, 34)) (b := a0) (pc := 19) dX12_rider_19 sc_X12_finding ml_X12_73 im_X12_finding se_X12_finding rfl rfl rfl (Nat.le_of_ble_eq_true rfl) hP2 (fun x_3 h_4 hP3 => ?_)
    clear hP2
    exact bz_retI (pc := 22) dX12_rider_22 rfl rfl hP3
  · have hP4 := hP1.2 c
    clear hP1
    refine bz_iload_n (pc := 10) dX12_rider_10 rfl rfl ?_
    refine bz_kIS (as := [.inl x2]) (st := []) (n := 1) (mc := 0) (ms := 0) (bc := bc) (bs := bs) (yc := kX12_isCrossing) (pc := 11) dX12_rider_11 sc_X12_isCrossing ml_X12_69 ss_X12_isCrossing rfl (Nat.le_of_ble_eq_true rfl) hP4 (fun x_5 h_6 hP5 => ?_)
    clear hP4
    refine bz_if_ne (tgt := 23) (pc := 14) dX12_rider_14 rfl (fun c => ?_) (fun c => ?_)
    · have hP6 := hP5.1 c
      clear hP5
      refine bz_aload_n (pc := 23) dX12_rider_23 rfl rfl ?_
      refine bz_rw_rR (pc := 24) dX12_rider_24 fl_X12_7 hP6 (fun r_7 hP7 => ?_)
      clear hP6
      refine bz_iconst (pc := 27) dX12_rider_27 ci_3 ?_
      obtain ⟨a_8, rfl, hP8⟩ := hP7
      refine bz_rw_rA (pc := 28) dX12_rider_28 hP8 (fun x_9 hP9 => ?_)
      clear hP8
      refine bz_bipush (pc := 29) dX12_rider_29 cb_12 ?_
      refine bz_icmp_ne (tgt := 40) (pc := 31) dX12_rider_31 rfl (fun c => ?_) (fun c => ?_)
      · have hP10 := hP9.1 c
        clear hP9
        refine bz_sipush (pc := 40) dX12_rider_40 cs_600 ?_
        refine bz_bipush (pc := 43) dX12_rider_43 cb_8 ?_
        refine bz_aload_n (pc := 45) dX12_rider_45 rfl rfl ?_
        refine bz_rw_rR (pc := 46) dX12_rider_46 fl_X12_7 hP10 (fun r_10 hP11 => ?_)
        clear hP10
        refine bz_iconst (pc := 49) dX12_rider_49 ci_3 ?_
        obtain ⟨a_11, rfl, hP12⟩ := hP11
        refine bz_rw_rA (pc := 50) dX12_rider_50 hP12 (fun x_12 hP13 => ?_)
        clear hP12
        refine bz_imul (pc := 51) dX12_rider_51 ?_
        refine bz_iadd (pc := 52) dX12_rider_52 ?_
        refine bz_s_istore_n (pc := 53) dX12_rider_53 rfl (Nat.le_of_ble_eq_true rfl) [some (.inr (some a0)), some (.inl x1), some (.inl x2), some (.inl (600 + (8 * x_12)))] rfl ?_
        refine bz_aload_n (pc := 54) dX12_rider_54 rfl rfl ?_
        refine bz_rw_rR (pc := 55) dX12_rider_55 fl_X12_7 hP13 (fun r_13 hP14 => ?_)
        clear hP13
        refine bz_iload_n (pc := 58) dX12_rider_58 rfl rfl ?_
        refine bz_iconst (pc := 59) dX12_rider_59 ci_0 ?_
        refine bz_iadd (pc := 60) dX12_rider_60 ?_
        refine bz_iload_n (pc := 61) dX12_rider_61 rfl rfl ?_
        obtain ⟨a_14, rfl, hP15⟩ := hP14
        refine bz_rw_wA (pc := 62) dX12_rider_62 hP15 (fun h_15 hP16 => ?_)
        clear hP15
        refine bz_aload_n (pc := 63) dX12_rider_63 rfl rfl ?_
        refine bz_rw_rR (pc := 64) dX12_rider_64 fl_X12_7 hP16 (fun r_16 hP17 => ?_)
        clear hP16
        refine bz_iload_n (pc := 67) dX12_rider_67 rfl rfl ?_
        refine bz_iconst (pc := 68) dX12_rider_68 ci_1 ?_
        refine bz_iadd (pc := 69) dX12_rider_69 ?_
        refine bz_iload_n (pc := 70) dX12_rider_70 rfl rfl ?_
        obtain ⟨a_17, rfl, hP18⟩ := hP17
        refine bz_rw_wA (pc := 71) dX12_rider_71 hP18 (fun h_18 hP19 => ?_)
        clear hP18
        refine bz_aload_n (pc := 72) dX12_rider_72 rfl rfl ?_
        refine bz_rw_rR (pc := 73) dX12_rider_73 fl_X12_7 hP19 (fun r_19 hP20 => ?_)
        clear hP19
        refine bz_iload_n (pc := 76) dX12_rider_76 rfl rfl ?_
        refine bz_iconst (pc := 77) dX12_rider_77 ci_2 ?_
        refine bz_iadd (pc := 78) dX12_rider_78 ?_
        refine bz_aload_n (pc := 79) dX12_rider_79 rfl rfl ?_
        refine bz_rw_rR (pc := 80) dX12_rider_80 fl_X12_7 hP20 (fun r_20 hP21 => ?_)
        clear hP20
        refine bz_iconst (pc := 83) dX12_rider_83 ci_0 ?_
        obtain ⟨a_21, rfl, hP22⟩ := hP21
        refine bz_rw_rA (pc := 84) dX12_rider_84 hP22 (fun x_22 hP23 => ?_)
        clear hP22
        obtain ⟨a_23, rfl, hP24⟩ := hP23
        refine bz_rw_wA (pc := 85) dX12_rider_85 hP24 (fun h_24 hP25 => ?_)
        clear hP24
        refine bz_aload_n (pc := 86) dX12_rider_86 rfl rfl ?_
        refine bz_rw_rR (pc := 87) dX12_rider_87 fl_X12_7 hP25 (fun r_25 hP26 => ?_)
        clear hP25
        refine bz_iload_n (pc := 90) dX12_rider_90 rfl rfl ?_
        refine bz_iconst (pc := 91) dX12_rider_91 ci_3 ?_
        refine bz_iadd (pc := 92) dX12_rider_92 ?_
        refine bz_iconst (pc := 93) dX12_rider_93 ci_0 ?_
        obtain ⟨a_26, rfl, hP27⟩ := hP26
        refine bz_rw_wA (pc := 94) dX12_rider_94 hP27 (fun h_27 hP28 => ?_)
        clear hP27
        refine bz_aload_n (pc := 95) dX12_rider_95 rfl rfl ?_
        refine bz_rw_rR (pc := 96) dX12_rider_96 fl_X12_7 hP28 (fun r_28 hP29 => ?_)
        clear hP28
        refine bz_iload_n (pc := 99) dX12_rider_99 rfl rfl ?_
        refine bz_iconst (pc := 100) dX12_rider_100 ci_4 ?_
        refine bz_iadd (pc := 101) dX12_rider_101 ?_
        refine bz_iload_n (pc := 102) dX12_rider_102 rfl rfl ?_
        obtain ⟨a_29, rfl, hP30⟩ := hP29
        refine bz_rw_wA (pc := 103) dX12_rider_103 hP30 (fun h_30 hP31 => ?_)
        clear hP30
        refine bz_aload_n (pc := 104) dX12_rider_104 rfl rfl ?_
        refine bz_rw_rR (pc := 105) dX12_rider_105 fl_X12_7 hP31 (fun r_31 hP32 => ?_)
        clear hP31
        refine bz_iload_n (pc := 108) dX12_rider_108 rfl rfl ?_
        refine bz_iconst (pc := 109) dX12_rider_109 ci_5 ?_
        refine bz_iadd (pc := 110) dX12_rider_110 ?_
        refine bz_aload_n (pc := 111) dX12_rider_111 rfl rfl ?_
        refine bz_rw_rR (pc := 112) dX12_rider_112 fl_X12_7 hP32 (fun r_32 hP33 => ?_)
        clear hP32
        refine bz_iconst (pc := 115) dX12_rider_115 ci_0 ?_
        obtain ⟨a_33, rfl, hP34⟩ := hP33
        refine bz_rw_rA (pc := 116) dX12_rider_116 hP34 (fun x_34 hP35 => ?_)
        clear hP34
        obtain ⟨a_35, rfl, hP36⟩ := hP35
        refine bz_rw_wA (pc := 117) dX12_rider_117 hP36 (fun h_36 hP37 => ?_)
        clear hP36
        refine bz_aload_n (pc := 118) dX12_rider_118 rfl rfl ?_
        refine bz_rw_rR (pc := 119) dX12_rider_119 fl_X12_7 hP37 (fun r_37 hP38 => ?_)
        clear hP37
        refine bz_iconst (pc := 122) dX12_rider_122 ci_3 ?_
        refine bz_dup2 (pc := 123) dX12_rider_123 ?_
        obtain ⟨a_38, rfl, hP39⟩ := hP38
        refine bz_rw_rA (pc := 124) dX12_rider_124 hP39 (fun x_39 hP40 => ?_)
        clear hP39
        refine bz_iconst (pc := 125) dX12_rider_125 ci_1 ?_
        refine bz_iadd (pc := 126) dX12_rider_126 ?_
        refine bz_rw_wA (pc := 127) dX12_rider_127 hP40 (fun h_40 hP41 => ?_)
        clear hP40
        refine bz_aload_n (pc := 128) dX12_rider_128 rfl rfl ?_
        refine bz_rw_rR (pc := 129) dX12_rider_129 fl_X12_7 hP41 (fun r_41 hP42 => ?_)
        clear hP41
        refine bz_iconst (pc := 132) dX12_rider_132 ci_3 ?_
        obtain ⟨a_42, rfl, hP43⟩ := hP42
        refine bz_rw_rA (pc := 133) dX12_rider_133 hP43 (fun x_43 hP44 => ?_)
        clear hP43
        refine bz_iconst (pc := 134) dX12_rider_134 ci_1 ?_
        refine bz_isub (pc := 135) dX12_rider_135 ?_
        exact bz_retI (pc := 136) dX12_rider_136 rfl rfl hP44
      · have hP45 := hP9.2 c
        clear hP9
        refine bz_aload_n (pc := 34) dX12_rider_34 rfl rfl ?_
        refine bz_iconst (pc := 35) dX12_rider_35 ci_1 ?_
        refine bz_kIV (as := [.inl 1]) (st := []) (ci := 12) (n := 1) (mc := 0) (ms := 0) (bc := bc) (bs := bs) (yc := kX12_finding) (q := (RX12, TX12, 34)) (b := a0) (pc := 36) dX12_rider_36 sc_X12_finding ml_X12_73 im_X12_finding se_X12_finding rfl rfl rfl (Nat.le_of_ble_eq_true rfl) hP45 (fun x_44 h_45 hP46 => ?_)
        clear hP45
        exact bz_retI (pc := 39) dX12_rider_39 rfl rfl hP46
    · have hP47 := hP5.2 c
      clear hP5
      refine bz_aload_n (pc := 17) dX12_rider_17 rfl rfl ?_
      refine bz_iconst (pc := 18) dX12_rider_18 ci_0 ?_
      refine bz_kIV (as := [.inl 0]) (st := []) (ci := 12) (n := 1) (mc := 0) (ms := 0) (bc := bc) (bs := bs) (yc := kX12_finding) (q := (RX12, TX12, 34)) (b := a0) (pc := 19) dX12_rider_19 sc_X12_finding ml_X12_73 im_X12_finding se_X12_finding rfl rfl rfl (Nat.le_of_ble_eq_true rfl) hP47 (fun x_46 h_47 hP48 => ?_)
      clear hP47
      exact bz_retI (pc := 22) dX12_rider_22 rfl rfl hP48
theorem m_X12_rider {G : bz_G} {l : Launch} {d mc ms : Nat} {F : Option bz_V → bz_H → Prop} (a0 : Nat) (x1 : Int32) (x2 : Int32) (h : bz_H) (hP : w_X12_rider_0 G l d F a0 x1 x2 h) : bz_Call G l (d + 1) kX12_rider [.inr (some a0), .inl x1, .inl x2] h mc ms F :=
  bz_body (by decide) (Nat.le_of_ble_eq_true rfl) (fun κ hl => g_X12_rider_0 hl a0 x1 x2 h hP)
def w_X12_road_0 (G : bz_G) (l : Launch) (d : Nat) (F : Option bz_V → bz_H → Prop) (a0 : Nat) (x1 : Int32) (x2 : Int32) (x3 : Int32) (h : bz_H) : Prop := bz_cI G l d kX12_isRoad [.inl x1, .inl x2, .inl x3] h 0 0 (fun x_1 h_2 => (x_1 = 0 → bz_rc h_2 a0 12 (bz_cI G l d kX12_finding [.inr (some a0), .inl 0] h_2 0 0 (fun x_3 h_4 => F (some (.inl x_3)) h_4))) ∧ (¬ (x_1 = 0) → bz_rc h_2 a0 12 (bz_cI G l d kX12_lay [.inr (some a0), .inl x1, .inl x2, .inl x3] h_2 0 0 (fun x_5 h_6 => F (some (.inl x_5)) h_6))))
set_option maxRecDepth 20000 in
set_option maxHeartbeats 4000000 in
theorem g_X12_road_0 {G : bz_G} {κ : bz_K} {l : Launch} {d : Nat} {F : Option bz_V → bz_H → Prop} {bc bs : Nat} (hl : κ.2.1 = l) (a0 : Nat) (x1 : Int32) (x2 : Int32) (x3 : Int32) (h : bz_H) (hP0 : w_X12_road_0 G l d F a0 x1 x2 x3 h) : bz_J G κ kX12_road (d + 1) F bc bs 0 [some (.inr (some a0)), some (.inl x1), some (.inl x2), some (.inl x3)] [] h := by
  subst hl
  unfold w_X12_road_0 at hP0
  refine bz_iload_n (pc := 0) dX12_road_0 rfl rfl ?_
  refine bz_iload_n (pc := 1) dX12_road_1 rfl rfl ?_
  refine bz_iload_n (pc := 2) dX12_road_2 rfl rfl ?_
  refine bz_kIS (as := [.inl x1, .inl x2, .inl x3]) (st := []) (n := 3) (mc := 0) (ms := 0) (bc := bc) (bs := bs) (yc := kX12_isRoad) (pc := 3) dX12_road_3 sc_X12_isRoad ml_X12_85 ss_X12_isRoad rfl (Nat.le_of_ble_eq_true rfl) hP0 (fun x_1 h_2 hP1 => ?_)
  clear hP0
  refine bz_if_eq (tgt := 19) (pc := 6) dX12_road_6 rfl (fun c => ?_) (fun c => ?_)
  · have hP2 := hP1.1 c
    clear hP1
    refine bz_aload_n (pc := 19) dX12_road_19 rfl rfl ?_
    refine bz_iconst (pc := 20) dX12_road_20 ci_0 ?_
    refine bz_kIV (as := [.inl 0]) (st := []) (ci := 12) (n := 1) (mc := 0) (ms := 0) (bc := bc) (bs := bs) (yc := kX12_finding) (q := (RX12, TX12, 34)) (b := a0) (pc := 21) dX12_road_21 sc_X12_finding ml_X12_73 im_X12_finding se_X12_finding rfl rfl rfl (Nat.le_of_ble_eq_true rfl) hP2 (fun x_3 h_4 hP3 => ?_)
    clear hP2
    exact bz_retI (pc := 24) dX12_road_24 rfl rfl hP3
  · have hP4 := hP1.2 c
    clear hP1
    refine bz_aload_n (pc := 9) dX12_road_9 rfl rfl ?_
    refine bz_iload_n (pc := 10) dX12_road_10 rfl rfl ?_
    refine bz_iload_n (pc := 11) dX12_road_11 rfl rfl ?_
    refine bz_iload_n (pc := 12) dX12_road_12 rfl rfl ?_
    refine bz_kIV (as := [.inl x1, .inl x2, .inl x3]) (st := []) (ci := 12) (n := 3) (mc := 0) (ms := 0) (bc := bc) (bs := bs) (yc := kX12_lay) (q := (RX12, TX12, 34)) (b := a0) (pc := 13) dX12_road_13 sc_X12_lay ml_X12_88 im_X12_lay se_X12_lay rfl rfl rfl (Nat.le_of_ble_eq_true rfl) hP4 (fun x_5 h_6 hP5 => ?_)
    clear hP4
    refine bz_goto (tgt := 24) (pc := 16) dX12_road_16 rfl ?_
    exact bz_retI (pc := 24) dX12_road_24 rfl rfl hP5
theorem m_X12_road {G : bz_G} {l : Launch} {d mc ms : Nat} {F : Option bz_V → bz_H → Prop} (a0 : Nat) (x1 : Int32) (x2 : Int32) (x3 : Int32) (h : bz_H) (hP : w_X12_road_0 G l d F a0 x1 x2 x3 h) : bz_Call G l (d + 1) kX12_road [.inr (some a0), .inl x1, .inl x2, .inl x3] h mc ms F :=
  bz_body (by decide) (Nat.le_of_ble_eq_true rfl) (fun κ hl => g_X12_road_0 hl a0 x1 x2 x3 h hP)
def w_X12_roads_0 (G : bz_G) (κ : bz_K) (l : Launch) (d : Nat) (F : Option bz_V → bz_H → Prop) (bc bs : Nat) (a0 : Nat) (x1 : Int32) (h : bz_H) : Prop := bz_cI G l d kX12_isSheet [.inl x1] h 0 0 (fun x_1 h_2 => (¬ x_1 = 0 → bz_rR h_2 a0 12 30 (fun r_3 => bz_nn r_3 (fun a_4 => bz_rA h_2 a_4 x1 (fun x_5 => (¬ x_5 = 0 → bz_J G κ kX12_roads (d + 1) F bc bs 35 [some (.inr (some a0)), some (.inl x1), some (.inl 0), some (.inl 1), some (.inl 0), none, none, none, none] [] h_2) ∧ (x_5 = 0 → bz_rc h_2 a0 12 (bz_cI G l d kX12_finding [.inr (some a0), .inl 5] h_2 0 0 (fun x_6 h_7 => F (some (.inl x_6)) h_7))))))) ∧ (x_1 = 0 → bz_rc h_2 a0 12 (bz_cI G l d kX12_finding [.inr (some a0), .inl 0] h_2 0 0 (fun x_8 h_9 => F (some (.inl x_8)) h_9))))
set_option maxRecDepth 20000 in
set_option maxHeartbeats 4000000 in
theorem g_X12_roads_0 {G : bz_G} {κ : bz_K} {l : Launch} {d : Nat} {F : Option bz_V → bz_H → Prop} {bc bs : Nat} (hl : κ.2.1 = l) (a0 : Nat) (x1 : Int32) (h : bz_H) (hP0 : w_X12_roads_0 G κ l d F bc bs a0 x1 h) : bz_J G κ kX12_roads (d + 1) F bc bs 0 [some (.inr (some a0)), some (.inl x1), none, none, none, none, none, none, none] [] h := by
  subst hl
  unfold w_X12_roads_0 at hP0
  refine bz_iload_n (pc := 0) dX12_roads_0 rfl rfl ?_
  refine bz_kIS (as := [.inl x1]) (st := []) (n := 1) (mc := 0) (ms := 0) (bc := bc) (bs := bs) (yc := kX12_isSheet) (pc := 1) dX12_roads_1 sc_X12_isSheet ml_X12_341 ss_X12_isSheet rfl (Nat.le_of_ble_eq_true rfl) hP0 (fun x_1 h_2 hP1 => ?_)
  clear hP0
  refine bz_if_ne (tgt := 13) (pc := 4) dX12_roads_4 rfl (fun c => ?_) (fun c => ?_)
  · have hP2 := hP1.1 c
    clear hP1
    refine bz_aload_n (pc := 13) dX12_roads_13 rfl rfl ?_
    refine bz_rw_rR (pc := 14) dX12_roads_14 fl_X12_52 hP2 (fun r_3 hP3 => ?_)
    clear hP2
    refine bz_iload_n (pc := 17) dX12_roads_17 rfl rfl ?_
    obtain ⟨a_4, rfl, hP4⟩ := hP3
    refine bz_rw_rA (pc := 18) dX12_roads_18 hP4 (fun x_5 hP5 => ?_)
    clear hP4
    refine bz_if_ne (tgt := 28) (pc := 19) dX12_roads_19 rfl (fun c => ?_) (fun c => ?_)
    · have hP6 := hP5.1 c
      clear hP5
      refine bz_iconst (pc := 28) dX12_roads_28 ci_0 ?_
      refine bz_s_istore_n (pc := 29) dX12_roads_29 rfl (Nat.le_of_ble_eq_true rfl) [some (.inr (some a0)), some (.inl x1), some (.inl 0), none, none, none, none, none, none] rfl ?_
      refine bz_iconst (pc := 30) dX12_roads_30 ci_1 ?_
      refine bz_s_istore_n (pc := 31) dX12_roads_31 rfl (Nat.le_of_ble_eq_true rfl) [some (.inr (some a0)), some (.inl x1), some (.inl 0), some (.inl 1), none, none, none, none, none] rfl ?_
      refine bz_iconst (pc := 32) dX12_roads_32 ci_0 ?_
      refine bz_s_istore (pc := 33) dX12_roads_33 (Nat.le_of_ble_eq_true rfl) [some (.inr (some a0)), some (.inl x1), some (.inl 0), some (.inl 1), some (.inl 0), none, none, none, none] rfl ?_
      exact hP6
    · have hP7 := hP5.2 c
      clear hP5
      refine bz_aload_n (pc := 22) dX12_roads_22 rfl rfl ?_
      refine bz_iconst (pc := 23) dX12_roads_23 ci_5 ?_
      refine bz_kIV (as := [.inl 5]) (st := []) (ci := 12) (n := 1) (mc := 0) (ms := 0) (bc := bc) (bs := bs) (yc := kX12_finding) (q := (RX12, TX12, 34)) (b := a0) (pc := 24) dX12_roads_24 sc_X12_finding ml_X12_73 im_X12_finding se_X12_finding rfl rfl rfl (Nat.le_of_ble_eq_true rfl) hP7 (fun x_6 h_7 hP8 => ?_)
      clear hP7
      exact bz_retI (pc := 27) dX12_roads_27 rfl rfl hP8
  · have hP9 := hP1.2 c
    clear hP1
    refine bz_aload_n (pc := 7) dX12_roads_7 rfl rfl ?_
    refine bz_iconst (pc := 8) dX12_roads_8 ci_0 ?_
    refine bz_kIV (as := [.inl 0]) (st := []) (ci := 12) (n := 1) (mc := 0) (ms := 0) (bc := bc) (bs := bs) (yc := kX12_finding) (q := (RX12, TX12, 34)) (b := a0) (pc := 9) dX12_roads_9 sc_X12_finding ml_X12_73 im_X12_finding se_X12_finding rfl rfl rfl (Nat.le_of_ble_eq_true rfl) hP9 (fun x_8 h_9 hP10 => ?_)
    clear hP9
    exact bz_retI (pc := 12) dX12_roads_12 rfl rfl hP10
def w_X12_roads_35 (G : bz_G) (κ : bz_K) (l : Launch) (d : Nat) (F : Option bz_V → bz_H → Prop) (bc bs : Nat) (a0 : Nat) (x1 : Int32) (x2 : Int32) (x3 : Int32) (x4 : Int32) (u5 : Option bz_V) (u6 : Option bz_V) (u7 : Option bz_V) (u8 : Option bz_V) (h : bz_H) : Prop := bz_rR h a0 12 31 (fun r_10 => bz_nn r_10 (fun a_11 => bz_rA h a_11 x1 (fun x_12 => (x_12 ≤ (x4 + 2) → F (some (.inl x2)) h) ∧ (¬ (x_12 ≤ (x4 + 2)) → (x3 = 0 → F (some (.inl x2)) h) ∧ (¬ (x3 = 0) → bz_rR h a0 12 32 (fun r_13 => bz_nn r_13 (fun a_14 => bz_rA h a_14 ((60 * x1) + x4) (fun x_15 => bz_rR h a0 12 32 (fun r_16 => bz_nn r_16 (fun a_17 => bz_rA h a_17 (((60 * x1) + x4) + 1) (fun x_18 => bz_rR h a0 12 32 (fun r_19 => bz_nn r_19 (fun a_20 => bz_rA h a_20 (((60 * x1) + x4) + 2) (fun x_21 => bz_cI G l d kX12_isRoad [.inl x_15, .inl x_18, .inl x_21] h 0 0 (fun x_22 h_23 => (x_22 = 0 → bz_J G κ kX12_roads (d + 1) F bc bs 35 [some (.inr (some a0)), some (.inl x1), some (.inl x2), some (.inl x_22), some (.inl (x4 + 3)), some (.inl x_15), some (.inl x_18), some (.inl x_21), u8] [] h_23) ∧ (¬ (x_22 = 0) → bz_rc h_23 a0 12 (bz_cI G l d kX12_lay [.inr (some a0), .inl x_15, .inl x_18, .inl x_21] h_23 0 0 (fun x_24 h_25 => bz_J G κ kX12_roads (d + 1) F bc bs 35 [some (.inr (some a0)), some (.inl x1), some (.inl (x2 + 1)), some (.inl x_22), some (.inl (x4 + 3)), some (.inl x_15), some (.inl x_18), some (.inl x_21), some (.inl x_24)] [] h_25))))))))))))))))))
set_option maxRecDepth 20000 in
set_option maxHeartbeats 4000000 in
theorem g_X12_roads_35 {G : bz_G} {κ : bz_K} {l : Launch} {d : Nat} {F : Option bz_V → bz_H → Prop} {bc bs : Nat} (hl : κ.2.1 = l) (a0 : Nat) (x1 : Int32) (x2 : Int32) (x3 : Int32) (x4 : Int32) (u5 : Option bz_V) (u6 : Option bz_V) (u7 : Option bz_V) (u8 : Option bz_V) (h : bz_H) (hP0 : w_X12_roads_35 G κ l d F bc bs a0 x1 x2 x3 x4 u5 u6 u7 u8 h) : bz_J G κ kX12_roads (d + 1) F bc bs 35 [some (.inr (some a0)), some (.inl x1), some (.inl x2), some (.inl x3), some (.inl x4), u5, u6, u7, u8] [] h := by
  subst hl
  unfold w_X12_roads_35 at hP0
  refine bz_iload (pc := 35) dX12_roads_35 rfl ?_
  refine bz_iconst (pc := 37) dX12_roads_37 ci_2 ?_
  refine bz_iadd (pc := 38) dX12_roads_38 ?_
  refine bz_aload_n (pc := 39) dX12_roads_39 rfl rfl ?_
  refine bz_rw_rR (pc := 40) dX12_roads_40 fl_X12_55 hP0 (fun r_10 hP1 => ?_)
  clear hP0
  refine bz_iload_n (pc := 43) dX12_roads_43 rfl rfl ?_
  obtain ⟨a_11, rfl, hP2⟩ := hP1
  refine bz_rw_rA (pc := 44) dX12_roads_44 hP2 (fun x_12 hP3 => ?_)
  clear hP2
  refine bz_icmp_ge (tgt := 133) (pc := 45) dX12_roads_45 rfl (fun c => ?_) (fun c => ?_)
  · have hP4 := hP3.1 c
    clear hP3
    refine bz_iload_n (pc := 133) dX12_roads_133 rfl rfl ?_
    exact bz_retI (pc := 134) dX12_roads_134 rfl rfl hP4
  · have hP5 := hP3.2 c
    clear hP3
    refine bz_iload_n (pc := 48) dX12_roads_48 rfl rfl ?_
    refine bz_if_eq (tgt := 133) (pc := 49) dX12_roads_49 rfl (fun c => ?_) (fun c => ?_)
    · have hP6 := hP5.1 c
      clear hP5
      refine bz_iload_n (pc := 133) dX12_roads_133 rfl rfl ?_
      exact bz_retI (pc := 134) dX12_roads_134 rfl rfl hP6
    · have hP7 := hP5.2 c
      clear hP5
      refine bz_aload_n (pc := 52) dX12_roads_52 rfl rfl ?_
      refine bz_rw_rR (pc := 53) dX12_roads_53 fl_X12_58 hP7 (fun r_13 hP8 => ?_)
      clear hP7
      refine bz_bipush (pc := 56) dX12_roads_56 cb_60 ?_
      refine bz_iload_n (pc := 58) dX12_roads_58 rfl rfl ?_
      refine bz_imul (pc := 59) dX12_roads_59 ?_
      refine bz_iload (pc := 60) dX12_roads_60 rfl ?_
      refine bz_iadd (pc := 62) dX12_roads_62 ?_
      obtain ⟨a_14, rfl, hP9⟩ := hP8
      refine bz_rw_rA (pc := 63) dX12_roads_63 hP9 (fun x_15 hP10 => ?_)
      clear hP9
      refine bz_s_istore (pc := 64) dX12_roads_64 (Nat.le_of_ble_eq_true rfl) [some (.inr (some a0)), some (.inl x1), some (.inl x2), some (.inl x3), some (.inl x4), some (.inl x_15), u6, u7, u8] rfl ?_
      refine bz_aload_n (pc := 66) dX12_roads_66 rfl rfl ?_
      refine bz_rw_rR (pc := 67) dX12_roads_67 fl_X12_58 hP10 (fun r_16 hP11 => ?_)
      clear hP10
      refine bz_bipush (pc := 70) dX12_roads_70 cb_60 ?_
      refine bz_iload_n (pc := 72) dX12_roads_72 rfl rfl ?_
      refine bz_imul (pc := 73) dX12_roads_73 ?_
      refine bz_iload (pc := 74) dX12_roads_74 rfl ?_
      refine bz_iadd (pc := 76) dX12_roads_76 ?_
      refine bz_iconst (pc := 77) dX12_roads_77 ci_1 ?_
      refine bz_iadd (pc := 78) dX12_roads_78 ?_
      obtain ⟨a_17, rfl, hP12⟩ := hP11
      refine bz_rw_rA (pc := 79) dX12_roads_79 hP12 (fun x_18 hP13 => ?_)
      clear hP12
      refine bz_s_istore (pc := 80) dX12_roads_80 (Nat.le_of_ble_eq_true rfl) [some (.inr (some a0)), some (.inl x1), some (.inl x2), some (.inl x3), some (.inl x4), some (.inl x_15), some (.inl x_18), u7, u8] rfl ?_
      refine bz_aload_n (pc := 82) dX12_roads_82 rfl rfl ?_
      refine bz_rw_rR (pc := 83) dX12_roads_83 fl_X12_58 hP13 (fun r_19 hP14 => ?_)
      clear hP13
      refine bz_bipush (pc := 86) dX12_roads_86 cb_60 ?_
      refine bz_iload_n (pc := 88) dX12_roads_88 rfl rfl ?_
      refine bz_imul (pc := 89) dX12_roads_89 ?_
      refine bz_iload (pc := 90) dX12_roads_90 rfl ?_
      refine bz_iadd (pc := 92) dX12_roads_92 ?_
      refine bz_iconst (pc := 93) dX12_roads_93 ci_2 ?_
      refine bz_iadd (pc := 94) dX12_roads_94 ?_
      obtain ⟨a_20, rfl, hP15⟩ := hP14
      refine bz_rw_rA (pc := 95) dX12_roads_95 hP15 (fun x_21 hP16 => ?_)
      clear hP15
      refine bz_s_istore (pc := 96) dX12_roads_96 (Nat.le_of_ble_eq_true rfl) [some (.inr (some a0)), some (.inl x1), some (.inl x2), some (.inl x3), some (.inl x4), some (.inl x_15), some (.inl x_18), some (.inl x_21), u8] rfl ?_
      refine bz_iload (pc := 98) dX12_roads_98 rfl ?_
      refine bz_iload (pc := 100) dX12_roads_100 rfl ?_
      refine bz_iload (pc := 102) dX12_roads_102 rfl ?_
      refine bz_kIS (as := [.inl x_15, .inl x_18, .inl x_21]) (st := []) (n := 3) (mc := 0) (ms := 0) (bc := bc) (bs := bs) (yc := kX12_isRoad) (pc := 104) dX12_roads_104 sc_X12_isRoad ml_X12_85 ss_X12_isRoad rfl (Nat.le_of_ble_eq_true rfl) hP16 (fun x_22 h_23 hP17 => ?_)
      clear hP16
      refine bz_s_istore_n (pc := 107) dX12_roads_107 rfl (Nat.le_of_ble_eq_true rfl) [some (.inr (some a0)), some (.inl x1), some (.inl x2), some (.inl x_22), some (.inl x4), some (.inl x_15), some (.inl x_18), some (.inl x_21), u8] rfl ?_
      refine bz_iload_n (pc := 108) dX12_roads_108 rfl rfl ?_
      refine bz_if_eq (tgt := 127) (pc := 109) dX12_roads_109 rfl (fun c => ?_) (fun c => ?_)
      · have hP18 := hP17.1 c
        clear hP17
        refine bz_s_iinc (pc := 127) dX12_roads_127 (Nat.le_of_ble_eq_true rfl) rfl rfl [some (.inr (some a0)), some (.inl x1), some (.inl x2), some (.inl x_22), some (.inl (x4 + 3)), some (.inl x_15), some (.inl x_18), some (.inl x_21), u8] rfl ?_
        refine bz_goto (tgt := 35) (pc := 130) dX12_roads_130 rfl ?_
        exact hP18
      · have hP19 := hP17.2 c
        clear hP17
        refine bz_aload_n (pc := 112) dX12_roads_112 rfl rfl ?_
        refine bz_iload (pc := 113) dX12_roads_113 rfl ?_
        refine bz_iload (pc := 115) dX12_roads_115 rfl ?_
        refine bz_iload (pc := 117) dX12_roads_117 rfl ?_
        refine bz_kIV (as := [.inl x_15, .inl x_18, .inl x_21]) (st := []) (ci := 12) (n := 3) (mc := 0) (ms := 0) (bc := bc) (bs := bs) (yc := kX12_lay) (q := (RX12, TX12, 34)) (b := a0) (pc := 119) dX12_roads_119 sc_X12_lay ml_X12_88 im_X12_lay se_X12_lay rfl rfl rfl (Nat.le_of_ble_eq_true rfl) hP19 (fun x_24 h_25 hP20 => ?_)
        clear hP19
        refine bz_s_istore (pc := 122) dX12_roads_122 (Nat.le_of_ble_eq_true rfl) [some (.inr (some a0)), some (.inl x1), some (.inl x2), some (.inl x_22), some (.inl x4), some (.inl x_15), some (.inl x_18), some (.inl x_21), some (.inl x_24)] rfl ?_
        refine bz_s_iinc (pc := 124) dX12_roads_124 (Nat.le_of_ble_eq_true rfl) rfl rfl [some (.inr (some a0)), some (.inl x1), some (.inl (x2 + 1)), some (.inl x_22), some (.inl x4), some (.inl x_15), some (.inl x_18), some (.inl x_21), some (.inl x_24)] rfl ?_
        refine bz_s_iinc (pc := 127) dX12_roads_127 (Nat.le_of_ble_eq_true rfl) rfl rfl [some (.inr (some a0)), some (.inl x1), some (.inl (x2 + 1)), some (.inl x_22), some (.inl (x4 + 3)), some (.inl x_15), some (.inl x_18), some (.inl x_21), some (.inl x_24)] rfl ?_
        refine bz_goto (tgt := 35) (pc := 130) dX12_roads_130 rfl ?_
        exact hP20
theorem m_X12_roads {G : bz_G} {l : Launch} {d mc ms : Nat} {F : Option bz_V → bz_H → Prop} (a0 : Nat) (x1 : Int32) (h : bz_H) (hP : ∀ (κ : bz_K) (bc bs : Nat), κ.2.1 = l → w_X12_roads_0 G κ l d F bc bs a0 x1 h) : bz_Call G l (d + 1) kX12_roads [.inr (some a0), .inl x1] h mc ms F :=
  bz_body (by decide) (Nat.le_of_ble_eq_true rfl) (fun κ hl => g_X12_roads_0 hl a0 x1 h (hP κ mc ms hl))
def w_X12_says_0 (G : bz_G) (l : Launch) (d : Nat) (F : Option bz_V → bz_H → Prop) (a0 : Nat) (x1 : Int32) (x2 : Int32) (x3 : Int32) (h : bz_H) : Prop := bz_rc h a0 12 (bz_cI G l d kX12_isText [.inr (some a0), .inl x1] h 0 0 (fun x_1 h_2 => (x_1 = 0 → bz_rc h_2 a0 12 (bz_cI G l d kX12_finding [.inr (some a0), .inl 0] h_2 0 0 (fun x_3 h_4 => F (some (.inl x_3)) h_4))) ∧ (¬ (x_1 = 0) → bz_rc h_2 a0 12 (bz_cI G l d kX12_isRider [.inr (some a0), .inl x2] h_2 0 0 (fun x_5 h_6 => (x_5 = 0 → bz_rc h_6 a0 12 (bz_cI G l d kX12_finding [.inr (some a0), .inl 0] h_6 0 0 (fun x_7 h_8 => F (some (.inl x_7)) h_8))) ∧ (¬ (x_5 = 0) → bz_rc h_6 a0 12 (bz_cI G l d kX12_isOrder [.inr (some a0), .inl x3] h_6 0 0 (fun x_9 h_10 => (¬ x_9 = 0 → bz_rc h_10 a0 12 (bz_cV G l d kX12_nameAll [.inr (some a0), .inl x2, .inl x3] h_10 0 0 (fun h_12 => bz_rc h_12 a0 12 (bz_cI G l d kX12_works [.inr (some a0), .inl x1] h_12 0 0 (fun x_13 h_14 => F (some (.inl x_13)) h_14))))) ∧ (x_9 = 0 → bz_rc h_10 a0 12 (bz_cI G l d kX12_finding [.inr (some a0), .inl 0] h_10 0 0 (fun x_15 h_16 => F (some (.inl x_15)) h_16)))))))))))
set_option maxRecDepth 20000 in
set_option maxHeartbeats 4000000 in
theorem g_X12_says_0 {G : bz_G} {κ : bz_K} {l : Launch} {d : Nat} {F : Option bz_V → bz_H → Prop} {bc bs : Nat} (hl : κ.2.1 = l) (a0 : Nat) (x1 : Int32) (x2 : Int32) (x3 : Int32) (h : bz_H) (hP0 : w_X12_says_0 G l d F a0 x1 x2 x3 h) : bz_J G κ kX12_says (d + 1) F bc bs 0 [some (.inr (some a0)), some (.inl x1), some (.inl x2), some (.inl x3)] [] h := by
  subst hl
  unfold w_X12_says_0 at hP0
  refine bz_aload_n (pc := 0) dX12_says_0 rfl rfl ?_
  refine bz_iload_n (pc := 1) dX12_says_1 rfl rfl ?_
  refine bz_kIV (as := [.inl x1]) (st := []) (ci := 12) (n := 1) (mc := 0) (ms := 0) (bc := bc) (bs := bs) (yc := kX12_isText) (q := (RX12, TX12, 34)) (b := a0) (pc := 2) dX12_says_2 sc_X12_isText ml_X12_296 im_X12_isText se_X12_isText rfl rfl rfl (Nat.le_of_ble_eq_true rfl) hP0 (fun x_1 h_2 hP1 => ?_)
  clear hP0
  refine bz_if_eq (tgt := 24) (pc := 5) dX12_says_5 rfl (fun c => ?_) (fun c => ?_)
  · have hP2 := hP1.1 c
    clear hP1
    refine bz_aload_n (pc := 24) dX12_says_24 rfl rfl ?_
    refine bz_iconst (pc := 25) dX12_says_25 ci_0 ?_
    refine bz_kIV (as := [.inl 0]) (st := []) (ci := 12) (n := 1) (mc := 0) (ms := 0) (bc := bc) (bs := bs) (yc := kX12_finding) (q := (RX12, TX12, 34)) (b := a0) (pc := 26) dX12_says_26 sc_X12_finding ml_X12_73 im_X12_finding se_X12_finding rfl rfl rfl (Nat.le_of_ble_eq_true rfl) hP2 (fun x_3 h_4 hP3 => ?_)
    clear hP2
    exact bz_retI (pc := 29) dX12_says_29 rfl rfl hP3
  · have hP4 := hP1.2 c
    clear hP1
    refine bz_aload_n (pc := 8) dX12_says_8 rfl rfl ?_
    refine bz_iload_n (pc := 9) dX12_says_9 rfl rfl ?_
    refine bz_kIV (as := [.inl x2]) (st := []) (ci := 12) (n := 1) (mc := 0) (ms := 0) (bc := bc) (bs := bs) (yc := kX12_isRider) (q := (RX12, TX12, 34)) (b := a0) (pc := 10) dX12_says_10 sc_X12_isRider ml_X12_139 im_X12_isRider se_X12_isRider rfl rfl rfl (Nat.le_of_ble_eq_true rfl) hP4 (fun x_5 h_6 hP5 => ?_)
    clear hP4
    refine bz_if_eq (tgt := 24) (pc := 13) dX12_says_13 rfl (fun c => ?_) (fun c => ?_)
    · have hP6 := hP5.1 c
      clear hP5
      refine bz_aload_n (pc := 24) dX12_says_24 rfl rfl ?_
      refine bz_iconst (pc := 25) dX12_says_25 ci_0 ?_
      refine bz_kIV (as := [.inl 0]) (st := []) (ci := 12) (n := 1) (mc := 0) (ms := 0) (bc := bc) (bs := bs) (yc := kX12_finding) (q := (RX12, TX12, 34)) (b := a0) (pc := 26) dX12_says_26 sc_X12_finding ml_X12_73 im_X12_finding se_X12_finding rfl rfl rfl (Nat.le_of_ble_eq_true rfl) hP6 (fun x_7 h_8 hP7 => ?_)
      clear hP6
      exact bz_retI (pc := 29) dX12_says_29 rfl rfl hP7
    · have hP8 := hP5.2 c
      clear hP5
      refine bz_aload_n (pc := 16) dX12_says_16 rfl rfl ?_
      refine bz_iload_n (pc := 17) dX12_says_17 rfl rfl ?_
      refine bz_kIV (as := [.inl x3]) (st := []) (ci := 12) (n := 1) (mc := 0) (ms := 0) (bc := bc) (bs := bs) (yc := kX12_isOrder) (q := (RX12, TX12, 34)) (b := a0) (pc := 18) dX12_says_18 sc_X12_isOrder ml_X12_117 im_X12_isOrder se_X12_isOrder rfl rfl rfl (Nat.le_of_ble_eq_true rfl) hP8 (fun x_9 h_10 hP9 => ?_)
      clear hP8
      refine bz_if_ne (tgt := 30) (pc := 21) dX12_says_21 rfl (fun c => ?_) (fun c => ?_)
      · have hP10 := hP9.1 c
        clear hP9
        refine bz_aload_n (pc := 30) dX12_says_30 rfl rfl ?_
        refine bz_iload_n (pc := 31) dX12_says_31 rfl rfl ?_
        refine bz_iload_n (pc := 32) dX12_says_32 rfl rfl ?_
        refine bz_kVV (as := [.inl x2, .inl x3]) (st := []) (ci := 12) (n := 2) (mc := 0) (ms := 0) (bc := bc) (bs := bs) (yc := kX12_nameAll) (q := (RX12, TX12, 34)) (b := a0) (pc := 33) dX12_says_33 sc_X12_nameAll ml_X12_299 im_X12_nameAll se_X12_nameAll rfl rfl rfl (Nat.le_of_ble_eq_true rfl) hP10 (fun h_12 hP11 => ?_)
        clear hP10
        refine bz_aload_n (pc := 36) dX12_says_36 rfl rfl ?_
        refine bz_iload_n (pc := 37) dX12_says_37 rfl rfl ?_
        refine bz_kIV (as := [.inl x1]) (st := []) (ci := 12) (n := 1) (mc := 0) (ms := 0) (bc := bc) (bs := bs) (yc := kX12_works) (q := (RX12, TX12, 34)) (b := a0) (pc := 38) dX12_says_38 sc_X12_works ml_X12_218 im_X12_works se_X12_works rfl rfl rfl (Nat.le_of_ble_eq_true rfl) hP11 (fun x_13 h_14 hP12 => ?_)
        clear hP11
        exact bz_retI (pc := 41) dX12_says_41 rfl rfl hP12
      · have hP13 := hP9.2 c
        clear hP9
        refine bz_aload_n (pc := 24) dX12_says_24 rfl rfl ?_
        refine bz_iconst (pc := 25) dX12_says_25 ci_0 ?_
        refine bz_kIV (as := [.inl 0]) (st := []) (ci := 12) (n := 1) (mc := 0) (ms := 0) (bc := bc) (bs := bs) (yc := kX12_finding) (q := (RX12, TX12, 34)) (b := a0) (pc := 26) dX12_says_26 sc_X12_finding ml_X12_73 im_X12_finding se_X12_finding rfl rfl rfl (Nat.le_of_ble_eq_true rfl) hP13 (fun x_15 h_16 hP14 => ?_)
        clear hP13
        exact bz_retI (pc := 29) dX12_says_29 rfl rfl hP14
theorem m_X12_says {G : bz_G} {l : Launch} {d mc ms : Nat} {F : Option bz_V → bz_H → Prop} (a0 : Nat) (x1 : Int32) (x2 : Int32) (x3 : Int32) (h : bz_H) (hP : w_X12_says_0 G l d F a0 x1 x2 x3 h) : bz_Call G l (d + 1) kX12_says [.inr (some a0), .inl x1, .inl x2, .inl x3] h mc ms F :=
  bz_body (by decide) (Nat.le_of_ble_eq_true rfl) (fun κ hl => g_X12_says_0 hl a0 x1 x2 x3 h hP)
def w_X12_seen_0 (G : bz_G) (l : Launch) (d : Nat) (F : Option bz_V → bz_H → Prop) (a0 : Nat) (x1 : Int32) (x2 : Int32) (x3 : Int32) (h : bz_H) : Prop := bz_rc h a0 12 (bz_cI G l d kX12_isRider [.inr (some a0), .inl x1] h 0 0 (fun x_1 h_2 => (x_1 = 0 → bz_rc h_2 a0 12 (bz_cI G l d kX12_finding [.inr (some a0), .inl 0] h_2 0 0 (fun x_3 h_4 => F (some (.inl x_3)) h_4))) ∧ (¬ (x_1 = 0) → bz_cI G l d kX12_isCrossing [.inl x2] h_2 0 0 (fun x_5 h_6 => (x_5 = 0 → bz_rc h_6 a0 12 (bz_cI G l d kX12_finding [.inr (some a0), .inl 0] h_6 0 0 (fun x_7 h_8 => F (some (.inl x_7)) h_8))) ∧ (¬ (x_5 = 0) → bz_cI G l d kX12_isMinute [.inl x3] h_6 0 0 (fun x_9 h_10 => (¬ x_9 = 0 → bz_rR h_10 a0 12 0 (fun r_11 => bz_nn r_11 (fun a_12 => bz_rA h_10 a_12 9 (fun x_13 => (¬ x_13 = 20 → bz_rR h_10 a0 12 0 (fun r_14 => bz_nn r_14 (fun a_15 => bz_rA h_10 a_15 9 (fun x_16 => bz_rR h_10 a0 12 0 (fun r_17 => bz_nn r_17 (fun a_18 => bz_wA h_10 a_18 (834 + (3 * x_16)) x1 (fun h_19 => bz_rR h_19 a0 12 0 (fun r_20 => bz_nn r_20 (fun a_21 => bz_wA h_19 a_21 ((834 + (3 * x_16)) + 1) x2 (fun h_22 => bz_rR h_22 a0 12 0 (fun r_23 => bz_nn r_23 (fun a_24 => bz_wA h_22 a_24 ((834 + (3 * x_16)) + 2) x3 (fun h_25 => bz_rR h_25 a0 12 0 (fun r_26 => bz_nn r_26 (fun a_27 => bz_rA h_25 a_27 9 (fun x_28 => bz_wA h_25 a_27 9 (x_28 + 1) (fun h_29 => bz_rR h_29 a0 12 0 (fun r_30 => bz_nn r_30 (fun a_31 => bz_rA h_29 a_31 9 (fun x_32 => F (some (.inl x_32)) h_29)))))))))))))))))))) ∧ (x_13 = 20 → bz_rc h_10 a0 12 (bz_cI G l d kX12_finding [.inr (some a0), .inl 1] h_10 0 0 (fun x_33 h_34 => F (some (.inl x_33)) h_34))))))) ∧ (x_9 = 0 → bz_rc h_10 a0 12 (bz_cI G l d kX12_finding [.inr (some a0), .inl 0] h_10 0 0 (fun x_35 h_36 => F (some (.inl x_35)) h_36)))))))))
set_option maxRecDepth 20000 in
set_option maxHeartbeats 4000000 in
theorem g_X12_seen_0 {G : bz_G} {κ : bz_K} {l : Launch} {d : Nat} {F : Option bz_V → bz_H → Prop} {bc bs : Nat} (hl : κ.2.1 = l) (a0 : Nat) (x1 : Int32) (x2 : Int32) (x3 : Int32) (h : bz_H) (hP0 : w_X12_seen_0 G l d F a0 x1 x2 x3 h) : bz_J G κ kX12_seen (d + 1) F bc bs 0 [some (.inr (some a0)), some (.inl x1), some (.inl x2), some (.inl x3), none] [] h := by
  subst hl
  unfold w_X12_seen_0 at hP0
  refine bz_aload_n (pc := 0) dX12_seen_0 rfl rfl ?_
  refine bz_iload_n (pc := 1) dX12_seen_1 rfl rfl ?_
  refine bz_kIV (as := [.inl x1]) (st := []) (ci := 12) (n := 1) (mc := 0) (ms := 0) (bc := bc) (bs := bs) (yc := kX12_isRider) (q := (RX12, TX12, 34)) (b := a0) (pc := 2) dX12_seen_2 sc_X12_isRider ml_X12_139 im_X12_isRider se_X12_isRider rfl rfl rfl (Nat.le_of_ble_eq_true rfl) hP0 (fun x_1 h_2 hP1 => ?_)
  clear hP0
  refine bz_if_eq (tgt := 22) (pc := 5) dX12_seen_5 rfl (fun c => ?_) (fun c => ?_)
  · have hP2 := hP1.1 c
    clear hP1
    refine bz_aload_n (pc := 22) dX12_seen_22 rfl rfl ?_
    refine bz_iconst (pc := 23) dX12_seen_23 ci_0 ?_
    refine bz_kIV (as := [.inl 0]) (st := []) (ci := 12) (n := 1) (mc := 0) (ms := 0) (bc := bc) (bs := bs) (yc := kX12_finding) (q := (RX12, TX12, 34)) (b := a0) (pc := 24) dX12_seen_24 sc_X12_finding ml_X12_73 im_X12_finding se_X12_finding rfl rfl rfl (Nat.le_of_ble_eq_true rfl) hP2 (fun x_3 h_4 hP3 => ?_)
    clear hP2
    exact bz_retI (pc := 27) dX12_seen_27 rfl rfl hP3
  · have hP4 := hP1.2 c
    clear hP1
    refine bz_iload_n (pc := 8) dX12_seen_8 rfl rfl ?_
    refine bz_kIS (as := [.inl x2]) (st := []) (n := 1) (mc := 0) (ms := 0) (bc := bc) (bs := bs) (yc := kX12_isCrossing) (pc := 9) dX12_seen_9 sc_X12_isCrossing ml_X12_69 ss_X12_isCrossing rfl (Nat.le_of_ble_eq_true rfl) hP4 (fun x_5 h_6 hP5 => ?_)
    clear hP4
    refine bz_if_eq (tgt := 22) (pc := 12) dX12_seen_12 rfl (fun c => ?_) (fun c => ?_)
    · have hP6 := hP5.1 c
      clear hP5
      refine bz_aload_n (pc := 22) dX12_seen_22 rfl rfl ?_
      refine bz_iconst (pc := 23) dX12_seen_23 ci_0 ?_
      refine bz_kIV (as := [.inl 0]) (st := []) (ci := 12) (n := 1) (mc := 0) (ms := 0) (bc := bc) (bs := bs) (yc := kX12_finding) (q := (RX12, TX12, 34)) (b := a0) (pc := 24) dX12_seen_24 sc_X12_finding ml_X12_73 im_X12_finding se_X12_finding rfl rfl rfl (Nat.le_of_ble_eq_true rfl) hP6 (fun x_7 h_8 hP7 => ?_)
      clear hP6
      exact bz_retI (pc := 27) dX12_seen_27 rfl rfl hP7
    · have hP8 := hP5.2 c
      clear hP5
      refine bz_iload_n (pc := 15) dX12_seen_15 rfl rfl ?_
      refine bz_kIS (as := [.inl x3]) (st := []) (n := 1) (mc := 0) (ms := 0) (bc := bc) (bs := bs) (yc := kX12_isMinute) (pc := 16) dX12_seen_16 sc_X12_isMinute ml_X12_305 ss_X12_isMinute rfl (Nat.le_of_ble_eq_true rfl) hP8 (fun x_9 h_10 hP9 => ?_)
      clear hP8
      refine bz_if_ne (tgt := 28) (pc := 19) dX12_seen_19 rfl (fun c => ?_) (fun c => ?_)
      · have hP10 := hP9.1 c
        clear hP9
        refine bz_aload_n (pc := 28) dX12_seen_28 rfl rfl ?_
        refine bz_rw_rR (pc := 29) dX12_seen_29 fl_X12_7 hP10 (fun r_11 hP11 => ?_)
        clear hP10
        refine bz_bipush (pc := 32) dX12_seen_32 cb_9 ?_
        obtain ⟨a_12, rfl, hP12⟩ := hP11
        refine bz_rw_rA (pc := 34) dX12_seen_34 hP12 (fun x_13 hP13 => ?_)
        clear hP12
        refine bz_bipush (pc := 35) dX12_seen_35 cb_20 ?_
        refine bz_icmp_ne (tgt := 46) (pc := 37) dX12_seen_37 rfl (fun c => ?_) (fun c => ?_)
        · have hP14 := hP13.1 c
          clear hP13
          refine bz_sipush (pc := 46) dX12_seen_46 cs_834 ?_
          refine bz_iconst (pc := 49) dX12_seen_49 ci_3 ?_
          refine bz_aload_n (pc := 50) dX12_seen_50 rfl rfl ?_
          refine bz_rw_rR (pc := 51) dX12_seen_51 fl_X12_7 hP14 (fun r_14 hP15 => ?_)
          clear hP14
          refine bz_bipush (pc := 54) dX12_seen_54 cb_9 ?_
          obtain ⟨a_15, rfl, hP16⟩ := hP15
          refine bz_rw_rA (pc := 56) dX12_seen_56 hP16 (fun x_16 hP17 => ?_)
          clear hP16
          refine bz_imul (pc := 57) dX12_seen_57 ?_
          refine bz_iadd (pc := 58) dX12_seen_58 ?_
          refine bz_s_istore (pc := 59) dX12_seen_59 (Nat.le_of_ble_eq_true rfl) [some (.inr (some a0)), some (.inl x1), some (.inl x2), some (.inl x3), some (.inl (834 + (3 * x_16)))] rfl ?_
          refine bz_aload_n (pc := 61) dX12_seen_61 rfl rfl ?_
          refine bz_rw_rR (pc := 62) dX12_seen_62 fl_X12_7 hP17 (fun r_17 hP18 => ?_)
          clear hP17
          refine bz_iload (pc := 65) dX12_seen_65 rfl ?_
          refine bz_iload_n (pc := 67) dX12_seen_67 rfl rfl ?_
          obtain ⟨a_18, rfl, hP19⟩ := hP18
          refine bz_rw_wA (pc := 68) dX12_seen_68 hP19 (fun h_19 hP20 => ?_)
          clear hP19
          refine bz_aload_n (pc := 69) dX12_seen_69 rfl rfl ?_
          refine bz_rw_rR (pc := 70) dX12_seen_70 fl_X12_7 hP20 (fun r_20 hP21 => ?_)
          clear hP20
          refine bz_iload (pc := 73) dX12_seen_73 rfl ?_
          refine bz_iconst (pc := 75) dX12_seen_75 ci_1 ?_
          refine bz_iadd (pc := 76) dX12_seen_76 ?_
          refine bz_iload_n (pc := 77) dX12_seen_77 rfl rfl ?_
          obtain ⟨a_21, rfl, hP22⟩ := hP21
          refine bz_rw_wA (pc := 78) dX12_seen_78 hP22 (fun h_22 hP23 => ?_)
          clear hP22
          refine bz_aload_n (pc := 79) dX12_seen_79 rfl rfl ?_
          refine bz_rw_rR (pc := 80) dX12_seen_80 fl_X12_7 hP23 (fun r_23 hP24 => ?_)
          clear hP23
          refine bz_iload (pc := 83) dX12_seen_83 rfl ?_
          refine bz_iconst (pc := 85) dX12_seen_85 ci_2 ?_
          refine bz_iadd (pc := 86) dX12_seen_86 ?_
          refine bz_iload_n (pc := 87) dX12_seen_87 rfl rfl ?_
          obtain ⟨a_24, rfl, hP25⟩ := hP24
          refine bz_rw_wA (pc := 88) dX12_seen_88 hP25 (fun h_25 hP26 => ?_)
          clear hP25
          refine bz_aload_n (pc := 89) dX12_seen_89 rfl rfl ?_
          refine bz_rw_rR (pc := 90) dX12_seen_90 fl_X12_7 hP26 (fun r_26 hP27 => ?_)
          clear hP26
          refine bz_bipush (pc := 93) dX12_seen_93 cb_9 ?_
          refine bz_dup2 (pc := 95) dX12_seen_95 ?_
          obtain ⟨a_27, rfl, hP28⟩ := hP27
          refine bz_rw_rA (pc := 96) dX12_seen_96 hP28 (fun x_28 hP29 => ?_)
          clear hP28
          refine bz_iconst (pc := 97) dX12_seen_97 ci_1 ?_
          refine bz_iadd (pc := 98) dX12_seen_98 ?_
          refine bz_rw_wA (pc := 99) dX12_seen_99 hP29 (fun h_29 hP30 => ?_)
          clear hP29
          refine bz_aload_n (pc := 100) dX12_seen_100 rfl rfl ?_
          refine bz_rw_rR (pc := 101) dX12_seen_101 fl_X12_7 hP30 (fun r_30 hP31 => ?_)
          clear hP30
          refine bz_bipush (pc := 104) dX12_seen_104 cb_9 ?_
          obtain ⟨a_31, rfl, hP32⟩ := hP31
          refine bz_rw_rA (pc := 106) dX12_seen_106 hP32 (fun x_32 hP33 => ?_)
          clear hP32
          exact bz_retI (pc := 107) dX12_seen_107 rfl rfl hP33
        · have hP34 := hP13.2 c
          clear hP13
          refine bz_aload_n (pc := 40) dX12_seen_40 rfl rfl ?_
          refine bz_iconst (pc := 41) dX12_seen_41 ci_1 ?_
          refine bz_kIV (as := [.inl 1]) (st := []) (ci := 12) (n := 1) (mc := 0) (ms := 0) (bc := bc) (bs := bs) (yc := kX12_finding) (q := (RX12, TX12, 34)) (b := a0) (pc := 42) dX12_seen_42 sc_X12_finding ml_X12_73 im_X12_finding se_X12_finding rfl rfl rfl (Nat.le_of_ble_eq_true rfl) hP34 (fun x_33 h_34 hP35 => ?_)
          clear hP34
          exact bz_retI (pc := 45) dX12_seen_45 rfl rfl hP35
      · have hP36 := hP9.2 c
        clear hP9
        refine bz_aload_n (pc := 22) dX12_seen_22 rfl rfl ?_
        refine bz_iconst (pc := 23) dX12_seen_23 ci_0 ?_
        refine bz_kIV (as := [.inl 0]) (st := []) (ci := 12) (n := 1) (mc := 0) (ms := 0) (bc := bc) (bs := bs) (yc := kX12_finding) (q := (RX12, TX12, 34)) (b := a0) (pc := 24) dX12_seen_24 sc_X12_finding ml_X12_73 im_X12_finding se_X12_finding rfl rfl rfl (Nat.le_of_ble_eq_true rfl) hP36 (fun x_35 h_36 hP37 => ?_)
        clear hP36
        exact bz_retI (pc := 27) dX12_seen_27 rfl rfl hP37
theorem m_X12_seen {G : bz_G} {l : Launch} {d mc ms : Nat} {F : Option bz_V → bz_H → Prop} (a0 : Nat) (x1 : Int32) (x2 : Int32) (x3 : Int32) (h : bz_H) (hP : w_X12_seen_0 G l d F a0 x1 x2 x3 h) : bz_Call G l (d + 1) kX12_seen [.inr (some a0), .inl x1, .inl x2, .inl x3] h mc ms F :=
  bz_body (by decide) (Nat.le_of_ble_eq_true rfl) (fun κ hl => g_X12_seen_0 hl a0 x1 x2 x3 h hP)
def w_X12_sheet_0 (G : bz_G) (κ : bz_K) (l : Launch) (d : Nat) (F : Option bz_V → bz_H → Prop) (bc bs : Nat) (a0 : Nat) (x1 : Int32) (x2 : Int32) (x3 : Int32) (h : bz_H) : Prop := bz_cI G l d kX12_isSheet [.inl x1] h 0 0 (fun x_1 h_2 => (x_1 = 0 → bz_rc h_2 a0 12 (bz_cI G l d kX12_finding [.inr (some a0), .inl 0] h_2 0 0 (fun x_3 h_4 => F (some (.inl x_3)) h_4))) ∧ (¬ (x_1 = 0) → (x2 = 0 → bz_J G κ kX12_sheet (d + 1) F bc bs 35 [some (.inr (some a0)), some (.inl x1), some (.inl x2), some (.inl x3), none] [] h_2) ∧ (¬ (x2 = 0) → (x2 = 8 → bz_J G κ kX12_sheet (d + 1) F bc bs 35 [some (.inr (some a0)), some (.inl x1), some (.inl x2), some (.inl x3), none] [] h_2) ∧ (¬ (x2 = 8) → (x2 = 16 → bz_J G κ kX12_sheet (d + 1) F bc bs 35 [some (.inr (some a0)), some (.inl x1), some (.inl x2), some (.inl x3), none] [] h_2) ∧ (¬ (x2 = 16) → (x2 = 32 → bz_J G κ kX12_sheet (d + 1) F bc bs 35 [some (.inr (some a0)), some (.inl x1), some (.inl x2), some (.inl x3), none] [] h_2) ∧ (¬ (x2 = 32) → bz_rc h_2 a0 12 (bz_cI G l d kX12_finding [.inr (some a0), .inl 0] h_2 0 0 (fun x_5 h_6 => F (some (.inl x_5)) h_6))))))))
set_option maxRecDepth 20000 in
set_option maxHeartbeats 4000000 in
theorem g_X12_sheet_0 {G : bz_G} {κ : bz_K} {l : Launch} {d : Nat} {F : Option bz_V → bz_H → Prop} {bc bs : Nat} (hl : κ.2.1 = l) (a0 : Nat) (x1 : Int32) (x2 : Int32) (x3 : Int32) (h : bz_H) (hP0 : w_X12_sheet_0 G κ l d F bc bs a0 x1 x2 x3 h) : bz_J G κ kX12_sheet (d + 1) F bc bs 0 [some (.inr (some a0)), some (.inl x1), some (.inl x2), some (.inl x3), none] [] h := by
  subst hl
  unfold w_X12_sheet_0 at hP0
  refine bz_iload_n (pc := 0) dX12_sheet_0 rfl rfl ?_
  refine bz_kIS (as := [.inl x1]) (st := []) (n := 1) (mc := 0) (ms := 0) (bc := bc) (bs := bs) (yc := kX12_isSheet) (pc := 1) dX12_sheet_1 sc_X12_isSheet ml_X12_341 ss_X12_isSheet rfl (Nat.le_of_ble_eq_true rfl) hP0 (fun x_1 h_2 hP1 => ?_)
  clear hP0
  refine bz_if_eq (tgt := 29) (pc := 4) dX12_sheet_4 rfl (fun c => ?_) (fun c => ?_)
  · have hP2 := hP1.1 c
    clear hP1
    refine bz_aload_n (pc := 29) dX12_sheet_29 rfl rfl ?_
    refine bz_iconst (pc := 30) dX12_sheet_30 ci_0 ?_
    refine bz_kIV (as := [.inl 0]) (st := []) (ci := 12) (n := 1) (mc := 0) (ms := 0) (bc := bc) (bs := bs) (yc := kX12_finding) (q := (RX12, TX12, 34)) (b := a0) (pc := 31) dX12_sheet_31 sc_X12_finding ml_X12_73 im_X12_finding se_X12_finding rfl rfl rfl (Nat.le_of_ble_eq_true rfl) hP2 (fun x_3 h_4 hP3 => ?_)
    clear hP2
    exact bz_retI (pc := 34) dX12_sheet_34 rfl rfl hP3
  · have hP4 := hP1.2 c
    clear hP1
    refine bz_iload_n (pc := 7) dX12_sheet_7 rfl rfl ?_
    refine bz_if_eq (tgt := 35) (pc := 8) dX12_sheet_8 rfl (fun c => ?_) (fun c => ?_)
    · have hP5 := hP4.1 c
      clear hP4
      exact hP5
    · have hP6 := hP4.2 c
      clear hP4
      refine bz_iload_n (pc := 11) dX12_sheet_11 rfl rfl ?_
      refine bz_bipush (pc := 12) dX12_sheet_12 cb_8 ?_
      refine bz_icmp_eq (tgt := 35) (pc := 14) dX12_sheet_14 rfl (fun c => ?_) (fun c => ?_)
      · have hP7 := hP6.1 c
        clear hP6
        exact hP7
      · have hP8 := hP6.2 c
        clear hP6
        refine bz_iload_n (pc := 17) dX12_sheet_17 rfl rfl ?_
        refine bz_bipush (pc := 18) dX12_sheet_18 cb_16 ?_
        refine bz_icmp_eq (tgt := 35) (pc := 20) dX12_sheet_20 rfl (fun c => ?_) (fun c => ?_)
        · have hP9 := hP8.1 c
          clear hP8
          exact hP9
        · have hP10 := hP8.2 c
          clear hP8
          refine bz_iload_n (pc := 23) dX12_sheet_23 rfl rfl ?_
          refine bz_bipush (pc := 24) dX12_sheet_24 cb_32 ?_
          refine bz_icmp_eq (tgt := 35) (pc := 26) dX12_sheet_26 rfl (fun c => ?_) (fun c => ?_)
          · have hP11 := hP10.1 c
            clear hP10
            exact hP11
          · have hP12 := hP10.2 c
            clear hP10
            refine bz_aload_n (pc := 29) dX12_sheet_29 rfl rfl ?_
            refine bz_iconst (pc := 30) dX12_sheet_30 ci_0 ?_
            refine bz_kIV (as := [.inl 0]) (st := []) (ci := 12) (n := 1) (mc := 0) (ms := 0) (bc := bc) (bs := bs) (yc := kX12_finding) (q := (RX12, TX12, 34)) (b := a0) (pc := 31) dX12_sheet_31 sc_X12_finding ml_X12_73 im_X12_finding se_X12_finding rfl rfl rfl (Nat.le_of_ble_eq_true rfl) hP12 (fun x_5 h_6 hP13 => ?_)
            clear hP12
            exact bz_retI (pc := 34) dX12_sheet_34 rfl rfl hP13
def w_X12_sheet_35 (G : bz_G) (κ : bz_K) (l : Launch) (d : Nat) (F : Option bz_V → bz_H → Prop) (bc bs : Nat) (a0 : Nat) (x1 : Int32) (x2 : Int32) (x3 : Int32) (u4 : Option bz_V) (h : bz_H) : Prop := (0 ≤ x3 → (x3 ≤ 60 → bz_rR h a0 12 30 (fun r_7 => bz_nn r_7 (fun a_8 => bz_wA h a_8 x1 x2 (fun h_9 => bz_rR h_9 a0 12 31 (fun r_10 => bz_nn r_10 (fun a_11 => bz_wA h_9 a_11 x1 (if x2 = 0 then 0 else x3) (fun h_12 => bz_J G κ kX12_sheet (d + 1) F bc bs 83 [some (.inr (some a0)), some (.inl x1), some (.inl x2), some (.inl x3), some (.inl 0)] [] h_12))))))) ∧ (¬ (x3 ≤ 60) → bz_rc h a0 12 (bz_cI G l d kX12_finding [.inr (some a0), .inl 0] h 0 0 (fun x_13 h_14 => F (some (.inl x_13)) h_14)))) ∧ (¬ (0 ≤ x3) → bz_rc h a0 12 (bz_cI G l d kX12_finding [.inr (some a0), .inl 6] h 0 0 (fun x_15 h_16 => F (some (.inl x_15)) h_16)))
set_option maxRecDepth 20000 in
set_option maxHeartbeats 4000000 in
theorem g_X12_sheet_35 {G : bz_G} {κ : bz_K} {l : Launch} {d : Nat} {F : Option bz_V → bz_H → Prop} {bc bs : Nat} (hl : κ.2.1 = l) (a0 : Nat) (x1 : Int32) (x2 : Int32) (x3 : Int32) (u4 : Option bz_V) (h : bz_H) (hP0 : w_X12_sheet_35 G κ l d F bc bs a0 x1 x2 x3 u4 h) : bz_J G κ kX12_sheet (d + 1) F bc bs 35 [some (.inr (some a0)), some (.inl x1), some (.inl x2), some (.inl x3), u4] [] h := by
  subst hl
  unfold w_X12_sheet_35 at hP0
  refine bz_iload_n (pc := 35) dX12_sheet_35 rfl rfl ?_
  refine bz_if_ge (tgt := 46) (pc := 36) dX12_sheet_36 rfl (fun c => ?_) (fun c => ?_)
  · have hP1 := hP0.1 c
    clear hP0
    refine bz_iload_n (pc := 46) dX12_sheet_46 rfl rfl ?_
    refine bz_bipush (pc := 47) dX12_sheet_47 cb_60 ?_
    refine bz_icmp_le (tgt := 58) (pc := 49) dX12_sheet_49 rfl (fun c => ?_) (fun c => ?_)
    · have hP2 := hP1.1 c
      clear hP1
      refine bz_aload_n (pc := 58) dX12_sheet_58 rfl rfl ?_
      refine bz_rw_rR (pc := 59) dX12_sheet_59 fl_X12_52 hP2 (fun r_7 hP3 => ?_)
      clear hP2
      refine bz_iload_n (pc := 62) dX12_sheet_62 rfl rfl ?_
      refine bz_iload_n (pc := 63) dX12_sheet_63 rfl rfl ?_
      obtain ⟨a_8, rfl, hP4⟩ := hP3
      refine bz_rw_wA (pc := 64) dX12_sheet_64 hP4 (fun h_9 hP5 => ?_)
      clear hP4
      refine bz_aload_n (pc := 65) dX12_sheet_65 rfl rfl ?_
      refine bz_rw_rR (pc := 66) dX12_sheet_66 fl_X12_55 hP5 (fun r_10 hP6 => ?_)
      clear hP5
      refine bz_iload_n (pc := 69) dX12_sheet_69 rfl rfl ?_
      refine bz_iload_n (pc := 70) dX12_sheet_70 rfl rfl ?_
      have hJ : bz_J G κ kX12_sheet (d + 1) F bc bs 79 [some (.inr (some a0)), some (.inl x1), some (.inl x2), some (.inl x3), u4] [.inl (if x2 = 0 then 0 else x3), .inl x1, .inr r_10] h_9 := by
        obtain ⟨a_11, rfl, hP7⟩ := hP6
        refine bz_rw_wA (pc := 79) dX12_sheet_79 hP7 (fun h_12 hP8 => ?_)
        clear hP7
        refine bz_iconst (pc := 80) dX12_sheet_80 ci_0 ?_
        refine bz_s_istore (pc := 81) dX12_sheet_81 (Nat.le_of_ble_eq_true rfl) [some (.inr (some a0)), some (.inl x1), some (.inl x2), some (.inl x3), some (.inl 0)] rfl ?_
        exact hP8
      refine bz_if_ne (tgt := 78) (pc := 71) dX12_sheet_71 rfl (fun c => ?_) (fun c => ?_)
      · have e9 : ((if x2 = 0 then 0 else x3) : Int32) = (x3) := if_neg c
        rw [e9] at hJ
        refine bz_iload_n (pc := 78) dX12_sheet_78 rfl rfl ?_
        exact hJ
      · have e9 : ((if x2 = 0 then 0 else x3) : Int32) = (0) := if_pos c
        rw [e9] at hJ
        refine bz_iconst (pc := 74) dX12_sheet_74 ci_0 ?_
        refine bz_goto (tgt := 79) (pc := 75) dX12_sheet_75 rfl ?_
        exact hJ
    · have hP9 := hP1.2 c
      clear hP1
      refine bz_aload_n (pc := 52) dX12_sheet_52 rfl rfl ?_
      refine bz_iconst (pc := 53) dX12_sheet_53 ci_0 ?_
      refine bz_kIV (as := [.inl 0]) (st := []) (ci := 12) (n := 1) (mc := 0) (ms := 0) (bc := bc) (bs := bs) (yc := kX12_finding) (q := (RX12, TX12, 34)) (b := a0) (pc := 54) dX12_sheet_54 sc_X12_finding ml_X12_73 im_X12_finding se_X12_finding rfl rfl rfl (Nat.le_of_ble_eq_true rfl) hP9 (fun x_13 h_14 hP10 => ?_)
      clear hP9
      exact bz_retI (pc := 57) dX12_sheet_57 rfl rfl hP10
  · have hP11 := hP0.2 c
    clear hP0
    refine bz_aload_n (pc := 39) dX12_sheet_39 rfl rfl ?_
    refine bz_bipush (pc := 40) dX12_sheet_40 cb_6 ?_
    refine bz_kIV (as := [.inl 6]) (st := []) (ci := 12) (n := 1) (mc := 0) (ms := 0) (bc := bc) (bs := bs) (yc := kX12_finding) (q := (RX12, TX12, 34)) (b := a0) (pc := 42) dX12_sheet_42 sc_X12_finding ml_X12_73 im_X12_finding se_X12_finding rfl rfl rfl (Nat.le_of_ble_eq_true rfl) hP11 (fun x_15 h_16 hP12 => ?_)
    clear hP11
    exact bz_retI (pc := 45) dX12_sheet_45 rfl rfl hP12
def w_X12_sheet_83 (G : bz_G) (κ : bz_K) (l : Launch) (d : Nat) (F : Option bz_V → bz_H → Prop) (bc bs : Nat) (a0 : Nat) (x1 : Int32) (x2 : Int32) (x3 : Int32) (x4 : Int32) (h : bz_H) : Prop := (60 ≤ x4 → bz_rR h a0 12 31 (fun r_17 => bz_nn r_17 (fun a_18 => bz_rA h a_18 x1 (fun x_19 => F (some (.inl x_19)) h)))) ∧ (¬ (60 ≤ x4) → bz_rR h a0 12 32 (fun r_20 => bz_nn r_20 (fun a_21 => bz_wA h a_21 ((60 * x1) + x4) 0 (fun h_22 => bz_J G κ kX12_sheet (d + 1) F bc bs 83 [some (.inr (some a0)), some (.inl x1), some (.inl x2), some (.inl x3), some (.inl (x4 + 1))] [] h_22))))
set_option maxRecDepth 20000 in
set_option maxHeartbeats 4000000 in
theorem g_X12_sheet_83 {G : bz_G} {κ : bz_K} {l : Launch} {d : Nat} {F : Option bz_V → bz_H → Prop} {bc bs : Nat} (hl : κ.2.1 = l) (a0 : Nat) (x1 : Int32) (x2 : Int32) (x3 : Int32) (x4 : Int32) (h : bz_H) (hP0 : w_X12_sheet_83 G κ l d F bc bs a0 x1 x2 x3 x4 h) : bz_J G κ kX12_sheet (d + 1) F bc bs 83 [some (.inr (some a0)), some (.inl x1), some (.inl x2), some (.inl x3), some (.inl x4)] [] h := by
  subst hl
  unfold w_X12_sheet_83 at hP0
  refine bz_iload (pc := 83) dX12_sheet_83 rfl ?_
  refine bz_bipush (pc := 85) dX12_sheet_85 cb_60 ?_
  refine bz_icmp_ge (tgt := 109) (pc := 87) dX12_sheet_87 rfl (fun c => ?_) (fun c => ?_)
  · have hP1 := hP0.1 c
    clear hP0
    refine bz_aload_n (pc := 109) dX12_sheet_109 rfl rfl ?_
    refine bz_rw_rR (pc := 110) dX12_sheet_110 fl_X12_55 hP1 (fun r_17 hP2 => ?_)
    clear hP1
    refine bz_iload_n (pc := 113) dX12_sheet_113 rfl rfl ?_
    obtain ⟨a_18, rfl, hP3⟩ := hP2
    refine bz_rw_rA (pc := 114) dX12_sheet_114 hP3 (fun x_19 hP4 => ?_)
    clear hP3
    exact bz_retI (pc := 115) dX12_sheet_115 rfl rfl hP4
  · have hP5 := hP0.2 c
    clear hP0
    refine bz_aload_n (pc := 90) dX12_sheet_90 rfl rfl ?_
    refine bz_rw_rR (pc := 91) dX12_sheet_91 fl_X12_58 hP5 (fun r_20 hP6 => ?_)
    clear hP5
    refine bz_bipush (pc := 94) dX12_sheet_94 cb_60 ?_
    refine bz_iload_n (pc := 96) dX12_sheet_96 rfl rfl ?_
    refine bz_imul (pc := 97) dX12_sheet_97 ?_
    refine bz_iload (pc := 98) dX12_sheet_98 rfl ?_
    refine bz_iadd (pc := 100) dX12_sheet_100 ?_
    refine bz_iconst (pc := 101) dX12_sheet_101 ci_0 ?_
    obtain ⟨a_21, rfl, hP7⟩ := hP6
    refine bz_rw_wA (pc := 102) dX12_sheet_102 hP7 (fun h_22 hP8 => ?_)
    clear hP7
    refine bz_s_iinc (pc := 103) dX12_sheet_103 (Nat.le_of_ble_eq_true rfl) rfl rfl [some (.inr (some a0)), some (.inl x1), some (.inl x2), some (.inl x3), some (.inl (x4 + 1))] rfl ?_
    refine bz_goto (tgt := 83) (pc := 106) dX12_sheet_106 rfl ?_
    exact hP8
theorem m_X12_sheet {G : bz_G} {l : Launch} {d mc ms : Nat} {F : Option bz_V → bz_H → Prop} (a0 : Nat) (x1 : Int32) (x2 : Int32) (x3 : Int32) (h : bz_H) (hP : ∀ (κ : bz_K) (bc bs : Nat), κ.2.1 = l → w_X12_sheet_0 G κ l d F bc bs a0 x1 x2 x3 h) : bz_Call G l (d + 1) kX12_sheet [.inr (some a0), .inl x1, .inl x2, .inl x3] h mc ms F :=
  bz_body (by decide) (Nat.le_of_ble_eq_true rfl) (fun κ hl => g_X12_sheet_0 hl a0 x1 x2 x3 h (hP κ mc ms hl))
def w_X12_starves_0 (G : bz_G) (κ : bz_K) (l : Launch) (d : Nat) (F : Option bz_V → bz_H → Prop) (bc bs : Nat) (a0 : Nat) (x1 : Int32) (h : bz_H) : Prop := bz_cI G l d kX12_isMinute [.inl x1] h 0 0 (fun x_1 h_2 => (¬ x_1 = 0 → bz_J G κ kX12_starves (d + 1) F bc bs 20 [some (.inr (some a0)), some (.inl x1), some (.inl (-1)), some (.inl 0), some (.inl 0), none, none] [] h_2) ∧ (x_1 = 0 → bz_rc h_2 a0 12 (bz_cI G l d kX12_finding [.inr (some a0), .inl 0] h_2 0 0 (fun x_3 h_4 => F (some (.inl x_3)) h_4))))
set_option maxRecDepth 20000 in
set_option maxHeartbeats 4000000 in
theorem g_X12_starves_0 {G : bz_G} {κ : bz_K} {l : Launch} {d : Nat} {F : Option bz_V → bz_H → Prop} {bc bs : Nat} (hl : κ.2.1 = l) (a0 : Nat) (x1 : Int32) (h : bz_H) (hP0 : w_X12_starves_0 G κ l d F bc bs a0 x1 h) : bz_J G κ kX12_starves (d + 1) F bc bs 0 [some (.inr (some a0)), some (.inl x1), none, none, none, none, none] [] h := by
  subst hl
  unfold w_X12_starves_0 at hP0
  refine bz_iload_n (pc := 0) dX12_starves_0 rfl rfl ?_
  refine bz_kIS (as := [.inl x1]) (st := []) (n := 1) (mc := 0) (ms := 0) (bc := bc) (bs := bs) (yc := kX12_isMinute) (pc := 1) dX12_starves_1 sc_X12_isMinute ml_X12_305 ss_X12_isMinute rfl (Nat.le_of_ble_eq_true rfl) hP0 (fun x_1 h_2 hP1 => ?_)
  clear hP0
  refine bz_if_ne (tgt := 13) (pc := 4) dX12_starves_4 rfl (fun c => ?_) (fun c => ?_)
  · have hP2 := hP1.1 c
    clear hP1
    refine bz_iconst (pc := 13) dX12_starves_13 ci_m1 ?_
    refine bz_s_istore_n (pc := 14) dX12_starves_14 rfl (Nat.le_of_ble_eq_true rfl) [some (.inr (some a0)), some (.inl x1), some (.inl (-1)), none, none, none, none] rfl ?_
    refine bz_iconst (pc := 15) dX12_starves_15 ci_0 ?_
    refine bz_s_istore_n (pc := 16) dX12_starves_16 rfl (Nat.le_of_ble_eq_true rfl) [some (.inr (some a0)), some (.inl x1), some (.inl (-1)), some (.inl 0), none, none, none] rfl ?_
    refine bz_iconst (pc := 17) dX12_starves_17 ci_0 ?_
    refine bz_s_istore (pc := 18) dX12_starves_18 (Nat.le_of_ble_eq_true rfl) [some (.inr (some a0)), some (.inl x1), some (.inl (-1)), some (.inl 0), some (.inl 0), none, none] rfl ?_
    exact hP2
  · have hP3 := hP1.2 c
    clear hP1
    refine bz_aload_n (pc := 7) dX12_starves_7 rfl rfl ?_
    refine bz_iconst (pc := 8) dX12_starves_8 ci_0 ?_
    refine bz_kIV (as := [.inl 0]) (st := []) (ci := 12) (n := 1) (mc := 0) (ms := 0) (bc := bc) (bs := bs) (yc := kX12_finding) (q := (RX12, TX12, 34)) (b := a0) (pc := 9) dX12_starves_9 sc_X12_finding ml_X12_73 im_X12_finding se_X12_finding rfl rfl rfl (Nat.le_of_ble_eq_true rfl) hP3 (fun x_3 h_4 hP4 => ?_)
    clear hP3
    exact bz_retI (pc := 12) dX12_starves_12 rfl rfl hP4
def w_X12_starves_20 (G : bz_G) (κ : bz_K) (l : Launch) (d : Nat) (F : Option bz_V → bz_H → Prop) (bc bs : Nat) (a0 : Nat) (x1 : Int32) (x2 : Int32) (x3 : Int32) (x4 : Int32) (u5 : Option bz_V) (u6 : Option bz_V) (h : bz_H) : Prop := (4 ≤ x4 → (0 ≤ x2 → F (some (.inl x2)) h) ∧ (¬ (0 ≤ x2) → bz_rc h a0 12 (bz_cI G l d kX12_finding [.inr (some a0), .inl 3] h 0 0 (fun x_5 h_6 => F (some (.inl x_5)) h_6)))) ∧ (¬ (4 ≤ x4) → bz_J G κ kX12_starves (d + 1) F bc bs 32 [some (.inr (some a0)), some (.inl x1), some (.inl x2), some (.inl x3), some (.inl x4), some (.inl 0), some (.inl 0)] [] h)
set_option maxRecDepth 20000 in
set_option maxHeartbeats 4000000 in
theorem g_X12_starves_20 {G : bz_G} {κ : bz_K} {l : Launch} {d : Nat} {F : Option bz_V → bz_H → Prop} {bc bs : Nat} (hl : κ.2.1 = l) (a0 : Nat) (x1 : Int32) (x2 : Int32) (x3 : Int32) (x4 : Int32) (u5 : Option bz_V) (u6 : Option bz_V) (h : bz_H) (hP0 : w_X12_starves_20 G κ l d F bc bs a0 x1 x2 x3 x4 u5 u6 h) : bz_J G κ kX12_starves (d + 1) F bc bs 20 [some (.inr (some a0)), some (.inl x1), some (.inl x2), some (.inl x3), some (.inl x4), u5, u6] [] h := by
  subst hl
  unfold w_X12_starves_20 at hP0
  refine bz_iload (pc := 20) dX12_starves_20 rfl ?_
  refine bz_iconst (pc := 22) dX12_starves_22 ci_4 ?_
  refine bz_icmp_ge (tgt := 129) (pc := 23) dX12_starves_23 rfl (fun c => ?_) (fun c => ?_)
  · have hP1 := hP0.1 c
    clear hP0
    refine bz_iload_n (pc := 129) dX12_starves_129 rfl rfl ?_
    refine bz_if_ge (tgt := 141) (pc := 130) dX12_starves_130 rfl (fun c => ?_) (fun c => ?_)
    · have hP2 := hP1.1 c
      clear hP1
      refine bz_iload_n (pc := 141) dX12_starves_141 rfl rfl ?_
      exact bz_retI (pc := 142) dX12_starves_142 rfl rfl hP2
    · have hP3 := hP1.2 c
      clear hP1
      refine bz_aload_n (pc := 133) dX12_starves_133 rfl rfl ?_
      refine bz_iconst (pc := 134) dX12_starves_134 ci_3 ?_
      refine bz_kIV (as := [.inl 3]) (st := []) (ci := 12) (n := 1) (mc := 0) (ms := 0) (bc := bc) (bs := bs) (yc := kX12_finding) (q := (RX12, TX12, 34)) (b := a0) (pc := 135) dX12_starves_135 sc_X12_finding ml_X12_73 im_X12_finding se_X12_finding rfl rfl rfl (Nat.le_of_ble_eq_true rfl) hP3 (fun x_5 h_6 hP4 => ?_)
      clear hP3
      refine bz_goto (tgt := 142) (pc := 138) dX12_starves_138 rfl ?_
      exact bz_retI (pc := 142) dX12_starves_142 rfl rfl hP4
  · have hP5 := hP0.2 c
    clear hP0
    refine bz_iconst (pc := 26) dX12_starves_26 ci_0 ?_
    refine bz_s_istore (pc := 27) dX12_starves_27 (Nat.le_of_ble_eq_true rfl) [some (.inr (some a0)), some (.inl x1), some (.inl x2), some (.inl x3), some (.inl x4), some (.inl 0), u6] rfl ?_
    refine bz_iconst (pc := 29) dX12_starves_29 ci_0 ?_
    refine bz_s_istore (pc := 30) dX12_starves_30 (Nat.le_of_ble_eq_true rfl) [some (.inr (some a0)), some (.inl x1), some (.inl x2), some (.inl x3), some (.inl x4), some (.inl 0), some (.inl 0)] rfl ?_
    exact hP5
def w_X12_starves_32 (G : bz_G) (κ : bz_K) (l : Launch) (d : Nat) (F : Option bz_V → bz_H → Prop) (bc bs : Nat) (a0 : Nat) (x1 : Int32) (x2 : Int32) (x3 : Int32) (x4 : Int32) (x5 : Int32) (x6 : Int32) (h : bz_H) : Prop := bz_rR h a0 12 0 (fun r_7 => bz_nn r_7 (fun a_8 => bz_rA h a_8 2 (fun x_9 => (x_9 ≤ x6 → bz_J G κ kX12_starves (d + 1) F bc bs 20 [some (.inr (some a0)), some (.inl x1), some (.inl (if x5 ≤ x3 then x2 else x4)), some (.inl (if x5 ≤ x3 then x3 else x5)), some (.inl (x4 + 1)), some (.inl x5), some (.inl x6)] [] h) ∧ (¬ (x_9 ≤ x6) → bz_rc h a0 12 (bz_cI G l d kX12_zoneOf [.inr (some a0), .inl x6] h 0 0 (fun x_10 h_11 => (¬ x_10 = x4 → bz_J G κ kX12_starves (d + 1) F bc bs 32 [some (.inr (some a0)), some (.inl x1), some (.inl x2), some (.inl x3), some (.inl x4), some (.inl (x5 + 0)), some (.inl (x6 + 1))] [] h_11) ∧ (x_10 = x4 → bz_rc h_11 a0 12 (bz_cI G l d kX12_isWaiting [.inr (some a0), .inl x6] h_11 0 0 (fun x_12 h_13 => (x_12 = 0 → bz_J G κ kX12_starves (d + 1) F bc bs 32 [some (.inr (some a0)), some (.inl x1), some (.inl x2), some (.inl x3), some (.inl x4), some (.inl (x5 + 0)), some (.inl (x6 + 1))] [] h_13) ∧ (¬ (x_12 = 0) → bz_rR h_13 a0 12 0 (fun r_14 => bz_nn r_14 (fun a_15 => bz_rA h_13 a_15 0 (fun x_16 => bz_rc h_13 a0 12 (bz_cI G l d kX12_ofOrder [.inr (some a0), .inl x6, .inl 2] h_13 0 0 (fun x_17 h_18 => bz_J G κ kX12_starves (d + 1) F bc bs 32 [some (.inr (some a0)), some (.inl x1), some (.inl x2), some (.inl x3), some (.inl x4), some (.inl (x5 + (if (x_16 - x_17) ≤ x1 then 0 else 1))), some (.inl (x6 + 1))] [] h_18)))))))))))))))
set_option maxRecDepth 20000 in
set_option maxHeartbeats 4000000 in
theorem g_X12_starves_32 {G : bz_G} {κ : bz_K} {l : Launch} {d : Nat} {F : Option bz_V → bz_H → Prop} {bc bs : Nat} (hl : κ.2.1 = l) (a0 : Nat) (x1 : Int32) (x2 : Int32) (x3 : Int32) (x4 : Int32) (x5 : Int32) (x6 : Int32) (h : bz_H) (hP0 : w_X12_starves_32 G κ l d F bc bs a0 x1 x2 x3 x4 x5 x6 h) : bz_J G κ kX12_starves (d + 1) F bc bs 32 [some (.inr (some a0)), some (.inl x1), some (.inl x2), some (.inl x3), some (.inl x4), some (.inl x5), some (.inl x6)] [] h := by
  subst hl
  unfold w_X12_starves_32 at hP0
  refine bz_iload (pc := 32) dX12_starves_32 rfl ?_
  refine bz_aload_n (pc := 34) dX12_starves_34 rfl rfl ?_
  refine bz_rw_rR (pc := 35) dX12_starves_35 fl_X12_7 hP0 (fun r_7 hP1 => ?_)
  clear hP0
  refine bz_iconst (pc := 38) dX12_starves_38 ci_2 ?_
  obtain ⟨a_8, rfl, hP2⟩ := hP1
  refine bz_rw_rA (pc := 39) dX12_starves_39 hP2 (fun x_9 hP3 => ?_)
  clear hP2
  refine bz_icmp_ge (tgt := 97) (pc := 40) dX12_starves_40 rfl (fun c => ?_) (fun c => ?_)
  · have hP4 := hP3.1 c
    clear hP3
    refine bz_iload (pc := 97) dX12_starves_97 rfl ?_
    refine bz_iload_n (pc := 99) dX12_starves_99 rfl rfl ?_
    have hJ : bz_J G κ kX12_starves (d + 1) F bc bs 109 [some (.inr (some a0)), some (.inl x1), some (.inl x2), some (.inl x3), some (.inl x4), some (.inl x5), some (.inl x6)] [.inl (if x5 ≤ x3 then x2 else x4)] h := by
      refine bz_s_istore_n (pc := 109) dX12_starves_109 rfl (Nat.le_of_ble_eq_true rfl) [some (.inr (some a0)), some (.inl x1), some (.inl (if x5 ≤ x3 then x2 else x4)), some (.inl x3), some (.inl x4), some (.inl x5), some (.inl x6)] rfl ?_
      refine bz_iload (pc := 110) dX12_starves_110 rfl ?_
      refine bz_iload_n (pc := 112) dX12_starves_112 rfl rfl ?_
      have hJ : bz_J G κ kX12_starves (d + 1) F bc bs 122 [some (.inr (some a0)), some (.inl x1), some (.inl (if x5 ≤ x3 then x2 else x4)), some (.inl x3), some (.inl x4), some (.inl x5), some (.inl x6)] [.inl (if x5 ≤ x3 then x3 else x5)] h := by
        refine bz_s_istore_n (pc := 122) dX12_starves_122 rfl (Nat.le_of_ble_eq_true rfl) [some (.inr (some a0)), some (.inl x1), some (.inl (if x5 ≤ x3 then x2 else x4)), some (.inl (if x5 ≤ x3 then x3 else x5)), some (.inl x4), some (.inl x5), some (.inl x6)] rfl ?_
        refine bz_s_iinc (pc := 123) dX12_starves_123 (Nat.le_of_ble_eq_true rfl) rfl rfl [some (.inr (some a0)), some (.inl x1), some (.inl (if x5 ≤ x3 then x2 else x4)), some (.inl (if x5 ≤ x3 then x3 else x5)), some (.inl (x4 + 1)), some (.inl x5), some (.inl x6)] rfl ?_
        refine bz_goto (tgt := 20) (pc := 126) dX12_starves_126 rfl ?_
        exact hP4
      refine bz_icmp_le (tgt := 121) (pc := 113) dX12_starves_113 rfl (fun c => ?_) (fun c => ?_)
      · have e9 : ((if x5 ≤ x3 then x3 else x5) : Int32) = (x3) := if_pos c
        rw [e9] at hJ
        refine bz_iload_n (pc := 121) dX12_starves_121 rfl rfl ?_
        exact hJ
      · have e9 : ((if x5 ≤ x3 then x3 else x5) : Int32) = (x5) := if_neg c
        rw [e9] at hJ
        refine bz_iload (pc := 116) dX12_starves_116 rfl ?_
        refine bz_goto (tgt := 122) (pc := 118) dX12_starves_118 rfl ?_
        exact hJ
    refine bz_icmp_le (tgt := 108) (pc := 100) dX12_starves_100 rfl (fun c => ?_) (fun c => ?_)
    · have e9 : ((if x5 ≤ x3 then x2 else x4) : Int32) = (x2) := if_pos c
      rw [e9] at hJ
      refine bz_iload_n (pc := 108) dX12_starves_108 rfl rfl ?_
      exact hJ
    · have e9 : ((if x5 ≤ x3 then x2 else x4) : Int32) = (x4) := if_neg c
      rw [e9] at hJ
      refine bz_iload (pc := 103) dX12_starves_103 rfl ?_
      refine bz_goto (tgt := 109) (pc := 105) dX12_starves_105 rfl ?_
      exact hJ
  · have hP5 := hP3.2 c
    clear hP3
    refine bz_iload (pc := 43) dX12_starves_43 rfl ?_
    refine bz_aload_n (pc := 45) dX12_starves_45 rfl rfl ?_
    refine bz_iload (pc := 46) dX12_starves_46 rfl ?_
    refine bz_kIV (as := [.inl x6]) (st := [.inl x5]) (ci := 12) (n := 1) (mc := 0) (ms := 0) (bc := bc) (bs := bs) (yc := kX12_zoneOf) (q := (RX12, TX12, 34)) (b := a0) (pc := 48) dX12_starves_48 sc_X12_zoneOf ml_X12_317 im_X12_zoneOf se_X12_zoneOf rfl rfl rfl (Nat.le_of_ble_eq_true rfl) hP5 (fun x_10 h_11 hP6 => ?_)
    clear hP5
    refine bz_iload (pc := 51) dX12_starves_51 rfl ?_
    refine bz_icmp_ne (tgt := 87) (pc := 53) dX12_starves_53 rfl (fun c => ?_) (fun c => ?_)
    · have hP7 := hP6.1 c
      clear hP6
      refine bz_iconst (pc := 87) dX12_starves_87 ci_0 ?_
      refine bz_iadd (pc := 88) dX12_starves_88 ?_
      refine bz_s_istore (pc := 89) dX12_starves_89 (Nat.le_of_ble_eq_true rfl) [some (.inr (some a0)), some (.inl x1), some (.inl x2), some (.inl x3), some (.inl x4), some (.inl (x5 + 0)), some (.inl x6)] rfl ?_
      refine bz_s_iinc (pc := 91) dX12_starves_91 (Nat.le_of_ble_eq_true rfl) rfl rfl [some (.inr (some a0)), some (.inl x1), some (.inl x2), some (.inl x3), some (.inl x4), some (.inl (x5 + 0)), some (.inl (x6 + 1))] rfl ?_
      refine bz_goto (tgt := 32) (pc := 94) dX12_starves_94 rfl ?_
      exact hP7
    · have hP8 := hP6.2 c
      clear hP6
      refine bz_aload_n (pc := 56) dX12_starves_56 rfl rfl ?_
      refine bz_iload (pc := 57) dX12_starves_57 rfl ?_
      refine bz_kIV (as := [.inl x6]) (st := [.inl x5]) (ci := 12) (n := 1) (mc := 0) (ms := 0) (bc := bc) (bs := bs) (yc := kX12_isWaiting) (q := (RX12, TX12, 34)) (b := a0) (pc := 59) dX12_starves_59 sc_X12_isWaiting ml_X12_129 im_X12_isWaiting se_X12_isWaiting rfl rfl rfl (Nat.le_of_ble_eq_true rfl) hP8 (fun x_12 h_13 hP9 => ?_)
      clear hP8
      refine bz_if_eq (tgt := 87) (pc := 62) dX12_starves_62 rfl (fun c => ?_) (fun c => ?_)
      · have hP10 := hP9.1 c
        clear hP9
        refine bz_iconst (pc := 87) dX12_starves_87 ci_0 ?_
        refine bz_iadd (pc := 88) dX12_starves_88 ?_
        refine bz_s_istore (pc := 89) dX12_starves_89 (Nat.le_of_ble_eq_true rfl) [some (.inr (some a0)), some (.inl x1), some (.inl x2), some (.inl x3), some (.inl x4), some (.inl (x5 + 0)), some (.inl x6)] rfl ?_
        refine bz_s_iinc (pc := 91) dX12_starves_91 (Nat.le_of_ble_eq_true rfl) rfl rfl [some (.inr (some a0)), some (.inl x1), some (.inl x2), some (.inl x3), some (.inl x4), some (.inl (x5 + 0)), some (.inl (x6 + 1))] rfl ?_
        refine bz_goto (tgt := 32) (pc := 94) dX12_starves_94 rfl ?_
        exact hP10
      · have hP11 := hP9.2 c
        clear hP9
        refine bz_aload_n (pc := 65) dX12_starves_65 rfl rfl ?_
        refine bz_rw_rR (pc := 66) dX12_starves_66 fl_X12_7 hP11 (fun r_14 hP12 => ?_)
        clear hP11
        refine bz_iconst (pc := 69) dX12_starves_69 ci_0 ?_
        obtain ⟨a_15, rfl, hP13⟩ := hP12
        refine bz_rw_rA (pc := 70) dX12_starves_70 hP13 (fun x_16 hP14 => ?_)
        clear hP13
        refine bz_aload_n (pc := 71) dX12_starves_71 rfl rfl ?_
        refine bz_iload (pc := 72) dX12_starves_72 rfl ?_
        refine bz_iconst (pc := 74) dX12_starves_74 ci_2 ?_
        refine bz_kIV (as := [.inl x6, .inl 2]) (st := [.inl x_16, .inl x5]) (ci := 12) (n := 2) (mc := 0) (ms := 0) (bc := bc) (bs := bs) (yc := kX12_ofOrder) (q := (RX12, TX12, 34)) (b := a0) (pc := 75) dX12_starves_75 sc_X12_ofOrder ml_X12_99 im_X12_ofOrder se_X12_ofOrder rfl rfl rfl (Nat.le_of_ble_eq_true rfl) hP14 (fun x_17 h_18 hP15 => ?_)
        clear hP14
        refine bz_isub (pc := 78) dX12_starves_78 ?_
        refine bz_iload_n (pc := 79) dX12_starves_79 rfl rfl ?_
        have hJ : bz_J G κ kX12_starves (d + 1) F bc bs 88 [some (.inr (some a0)), some (.inl x1), some (.inl x2), some (.inl x3), some (.inl x4), some (.inl x5), some (.inl x6)] [.inl (if (x_16 - x_17) ≤ x1 then 0 else 1), .inl x5] h_18 := by
          refine bz_iadd (pc := 88) dX12_starves_88 ?_
          refine bz_s_istore (pc := 89) dX12_starves_89 (Nat.le_of_ble_eq_true rfl) [some (.inr (some a0)), some (.inl x1), some (.inl x2), some (.inl x3), some (.inl x4), some (.inl (x5 + (if (x_16 - x_17) ≤ x1 then 0 else 1))), some (.inl x6)] rfl ?_
          refine bz_s_iinc (pc := 91) dX12_starves_91 (Nat.le_of_ble_eq_true rfl) rfl rfl [some (.inr (some a0)), some (.inl x1), some (.inl x2), some (.inl x3), some (.inl x4), some (.inl (x5 + (if (x_16 - x_17) ≤ x1 then 0 else 1))), some (.inl (x6 + 1))] rfl ?_
          refine bz_goto (tgt := 32) (pc := 94) dX12_starves_94 rfl ?_
          exact hP15
        refine bz_icmp_le (tgt := 87) (pc := 80) dX12_starves_80 rfl (fun c => ?_) (fun c => ?_)
        · have e9 : ((if (x_16 - x_17) ≤ x1 then 0 else 1) : Int32) = (0) := if_pos c
          rw [e9] at hJ
          refine bz_iconst (pc := 87) dX12_starves_87 ci_0 ?_
          exact hJ
        · have e9 : ((if (x_16 - x_17) ≤ x1 then 0 else 1) : Int32) = (1) := if_neg c
          rw [e9] at hJ
          refine bz_iconst (pc := 83) dX12_starves_83 ci_1 ?_
          refine bz_goto (tgt := 88) (pc := 84) dX12_starves_84 rfl ?_
          exact hJ
theorem m_X12_starves {G : bz_G} {l : Launch} {d mc ms : Nat} {F : Option bz_V → bz_H → Prop} (a0 : Nat) (x1 : Int32) (h : bz_H) (hP : ∀ (κ : bz_K) (bc bs : Nat), κ.2.1 = l → w_X12_starves_0 G κ l d F bc bs a0 x1 h) : bz_Call G l (d + 1) kX12_starves [.inr (some a0), .inl x1] h mc ms F :=
  bz_body (by decide) (Nat.le_of_ble_eq_true rfl) (fun κ hl => g_X12_starves_0 hl a0 x1 h (hP κ mc ms hl))
def w_X12_status_0 (G : bz_G) (κ : bz_K) (l : Launch) (d : Nat) (F : Option bz_V → bz_H → Prop) (bc bs : Nat) (a0 : Nat) (x1 : Int32) (h : bz_H) : Prop := bz_cI G l d kX12_in [.inl x1, .inl (-1), .inl 6] h 0 0 (fun x_1 h_2 => (¬ x_1 = 0 → bz_J G κ kX12_status (d + 1) F bc bs 20 [some (.inr (some a0)), some (.inl x1), some (.inl 0), some (.inl 0)] [] h_2) ∧ (x_1 = 0 → bz_rc h_2 a0 12 (bz_cI G l d kX12_finding [.inr (some a0), .inl 0] h_2 0 0 (fun x_3 h_4 => F (some (.inl x_3)) h_4))))
set_option maxRecDepth 20000 in
set_option maxHeartbeats 4000000 in
theorem g_X12_status_0 {G : bz_G} {κ : bz_K} {l : Launch} {d : Nat} {F : Option bz_V → bz_H → Prop} {bc bs : Nat} (hl : κ.2.1 = l) (a0 : Nat) (x1 : Int32) (h : bz_H) (hP0 : w_X12_status_0 G κ l d F bc bs a0 x1 h) : bz_J G κ kX12_status (d + 1) F bc bs 0 [some (.inr (some a0)), some (.inl x1), none, none] [] h := by
  subst hl
  unfold w_X12_status_0 at hP0
  refine bz_iload_n (pc := 0) dX12_status_0 rfl rfl ?_
  refine bz_iconst (pc := 1) dX12_status_1 ci_m1 ?_
  refine bz_bipush (pc := 2) dX12_status_2 cb_6 ?_
  refine bz_kIS (as := [.inl x1, .inl (-1), .inl 6]) (st := []) (n := 3) (mc := 0) (ms := 0) (bc := bc) (bs := bs) (yc := kX12_in) (pc := 4) dX12_status_4 sc_X12_in ml_X12_65 ss_X12_in rfl (Nat.le_of_ble_eq_true rfl) hP0 (fun x_1 h_2 hP1 => ?_)
  clear hP0
  refine bz_if_ne (tgt := 16) (pc := 7) dX12_status_7 rfl (fun c => ?_) (fun c => ?_)
  · have hP2 := hP1.1 c
    clear hP1
    refine bz_iconst (pc := 16) dX12_status_16 ci_0 ?_
    refine bz_s_istore_n (pc := 17) dX12_status_17 rfl (Nat.le_of_ble_eq_true rfl) [some (.inr (some a0)), some (.inl x1), some (.inl 0), none] rfl ?_
    refine bz_iconst (pc := 18) dX12_status_18 ci_0 ?_
    refine bz_s_istore_n (pc := 19) dX12_status_19 rfl (Nat.le_of_ble_eq_true rfl) [some (.inr (some a0)), some (.inl x1), some (.inl 0), some (.inl 0)] rfl ?_
    exact hP2
  · have hP3 := hP1.2 c
    clear hP1
    refine bz_aload_n (pc := 10) dX12_status_10 rfl rfl ?_
    refine bz_iconst (pc := 11) dX12_status_11 ci_0 ?_
    refine bz_kIV (as := [.inl 0]) (st := []) (ci := 12) (n := 1) (mc := 0) (ms := 0) (bc := bc) (bs := bs) (yc := kX12_finding) (q := (RX12, TX12, 34)) (b := a0) (pc := 12) dX12_status_12 sc_X12_finding ml_X12_73 im_X12_finding se_X12_finding rfl rfl rfl (Nat.le_of_ble_eq_true rfl) hP3 (fun x_3 h_4 hP4 => ?_)
    clear hP3
    exact bz_retI (pc := 15) dX12_status_15 rfl rfl hP4
def w_X12_status_20 (G : bz_G) (κ : bz_K) (l : Launch) (d : Nat) (F : Option bz_V → bz_H → Prop) (bc bs : Nat) (a0 : Nat) (x1 : Int32) (x2 : Int32) (x3 : Int32) (h : bz_H) : Prop := (7 ≤ x3 → F (some (.inl x2)) h) ∧ (¬ (7 ≤ x3) → (x1 = (-1) → bz_rR h a0 12 3 (fun r_5 => bz_nn r_5 (fun a_6 => bz_rA h a_6 x3 (fun x_7 => bz_J G κ kX12_status (d + 1) F bc bs 20 [some (.inr (some a0)), some (.inl x1), some (.inl (x2 + x_7)), some (.inl (x3 + 1))] [] h)))) ∧ (¬ (x1 = (-1)) → (¬ x1 = x3 → bz_J G κ kX12_status (d + 1) F bc bs 20 [some (.inr (some a0)), some (.inl x1), some (.inl (x2 + 0)), some (.inl (x3 + 1))] [] h) ∧ (x1 = x3 → bz_rR h a0 12 3 (fun r_8 => bz_nn r_8 (fun a_9 => bz_rA h a_9 x3 (fun x_10 => bz_J G κ kX12_status (d + 1) F bc bs 20 [some (.inr (some a0)), some (.inl x1), some (.inl (x2 + x_10)), some (.inl (x3 + 1))] [] h))))))
set_option maxRecDepth 20000 in
set_option maxHeartbeats 4000000 in
theorem g_X12_status_20 {G : bz_G} {κ : bz_K} {l : Launch} {d : Nat} {F : Option bz_V → bz_H → Prop} {bc bs : Nat} (hl : κ.2.1 = l) (a0 : Nat) (x1 : Int32) (x2 : Int32) (x3 : Int32) (h : bz_H) (hP0 : w_X12_status_20 G κ l d F bc bs a0 x1 x2 x3 h) : bz_J G κ kX12_status (d + 1) F bc bs 20 [some (.inr (some a0)), some (.inl x1), some (.inl x2), some (.inl x3)] [] h := by
  subst hl
  unfold w_X12_status_20 at hP0
  refine bz_iload_n (pc := 20) dX12_status_20 rfl rfl ?_
  refine bz_bipush (pc := 21) dX12_status_21 cb_7 ?_
  refine bz_icmp_ge (tgt := 55) (pc := 23) dX12_status_23 rfl (fun c => ?_) (fun c => ?_)
  · have hP1 := hP0.1 c
    clear hP0
    refine bz_iload_n (pc := 55) dX12_status_55 rfl rfl ?_
    exact bz_retI (pc := 56) dX12_status_56 rfl rfl hP1
  · have hP2 := hP0.2 c
    clear hP0
    refine bz_iload_n (pc := 26) dX12_status_26 rfl rfl ?_
    refine bz_iload_n (pc := 27) dX12_status_27 rfl rfl ?_
    refine bz_iconst (pc := 28) dX12_status_28 ci_m1 ?_
    refine bz_icmp_eq (tgt := 37) (pc := 29) dX12_status_29 rfl (fun c => ?_) (fun c => ?_)
    · have hP3 := hP2.1 c
      clear hP2
      refine bz_aload_n (pc := 37) dX12_status_37 rfl rfl ?_
      refine bz_rw_rR (pc := 38) dX12_status_38 fl_X12_16 hP3 (fun r_5 hP4 => ?_)
      clear hP3
      refine bz_iload_n (pc := 41) dX12_status_41 rfl rfl ?_
      obtain ⟨a_6, rfl, hP5⟩ := hP4
      refine bz_rw_rA (pc := 42) dX12_status_42 hP5 (fun x_7 hP6 => ?_)
      clear hP5
      refine bz_goto (tgt := 47) (pc := 43) dX12_status_43 rfl ?_
      refine bz_iadd (pc := 47) dX12_status_47 ?_
      refine bz_s_istore_n (pc := 48) dX12_status_48 rfl (Nat.le_of_ble_eq_true rfl) [some (.inr (some a0)), some (.inl x1), some (.inl (x2 + x_7)), some (.inl x3)] rfl ?_
      refine bz_s_iinc (pc := 49) dX12_status_49 (Nat.le_of_ble_eq_true rfl) rfl rfl [some (.inr (some a0)), some (.inl x1), some (.inl (x2 + x_7)), some (.inl (x3 + 1))] rfl ?_
      refine bz_goto (tgt := 20) (pc := 52) dX12_status_52 rfl ?_
      exact hP6
    · have hP7 := hP2.2 c
      clear hP2
      refine bz_iload_n (pc := 32) dX12_status_32 rfl rfl ?_
      refine bz_iload_n (pc := 33) dX12_status_33 rfl rfl ?_
      refine bz_icmp_ne (tgt := 46) (pc := 34) dX12_status_34 rfl (fun c => ?_) (fun c => ?_)
      · have hP8 := hP7.1 c
        clear hP7
        refine bz_iconst (pc := 46) dX12_status_46 ci_0 ?_
        refine bz_iadd (pc := 47) dX12_status_47 ?_
        refine bz_s_istore_n (pc := 48) dX12_status_48 rfl (Nat.le_of_ble_eq_true rfl) [some (.inr (some a0)), some (.inl x1), some (.inl (x2 + 0)), some (.inl x3)] rfl ?_
        refine bz_s_iinc (pc := 49) dX12_status_49 (Nat.le_of_ble_eq_true rfl) rfl rfl [some (.inr (some a0)), some (.inl x1), some (.inl (x2 + 0)), some (.inl (x3 + 1))] rfl ?_
        refine bz_goto (tgt := 20) (pc := 52) dX12_status_52 rfl ?_
        exact hP8
      · have hP9 := hP7.2 c
        clear hP7
        refine bz_aload_n (pc := 37) dX12_status_37 rfl rfl ?_
        refine bz_rw_rR (pc := 38) dX12_status_38 fl_X12_16 hP9 (fun r_8 hP10 => ?_)
        clear hP9
        refine bz_iload_n (pc := 41) dX12_status_41 rfl rfl ?_
        obtain ⟨a_9, rfl, hP11⟩ := hP10
        refine bz_rw_rA (pc := 42) dX12_status_42 hP11 (fun x_10 hP12 => ?_)
        clear hP11
        refine bz_goto (tgt := 47) (pc := 43) dX12_status_43 rfl ?_
        refine bz_iadd (pc := 47) dX12_status_47 ?_
        refine bz_s_istore_n (pc := 48) dX12_status_48 rfl (Nat.le_of_ble_eq_true rfl) [some (.inr (some a0)), some (.inl x1), some (.inl (x2 + x_10)), some (.inl x3)] rfl ?_
        refine bz_s_iinc (pc := 49) dX12_status_49 (Nat.le_of_ble_eq_true rfl) rfl rfl [some (.inr (some a0)), some (.inl x1), some (.inl (x2 + x_10)), some (.inl (x3 + 1))] rfl ?_
        refine bz_goto (tgt := 20) (pc := 52) dX12_status_52 rfl ?_
        exact hP12
theorem m_X12_status {G : bz_G} {l : Launch} {d mc ms : Nat} {F : Option bz_V → bz_H → Prop} (a0 : Nat) (x1 : Int32) (h : bz_H) (hP : ∀ (κ : bz_K) (bc bs : Nat), κ.2.1 = l → w_X12_status_0 G κ l d F bc bs a0 x1 h) : bz_Call G l (d + 1) kX12_status [.inr (some a0), .inl x1] h mc ms F :=
  bz_body (by decide) (Nat.le_of_ble_eq_true rfl) (fun κ hl => g_X12_status_0 hl a0 x1 h (hP κ mc ms hl))
