def w_X12_minutes_0 (G : bz_G) (l : Launch) (d : Nat) (F : Option bz_V → bz_H → Prop) (a0 : Nat) (x1 : Int32) (h : bz_H) : Prop := bz_cI G l d kX12_in [.inl x1, .inl 1, .inl 600] h 0 0 (fun x_1 h_2 => (¬ x_1 = 0 → bz_rR h_2 a0 12 0 (fun r_3 => bz_nn r_3 (fun a_4 => bz_rA h_2 a_4 0 (fun x_5 => ((x_5 + x1) ≤ 1439 → bz_rR h_2 a0 12 0 (fun r_6 => bz_nn r_6 (fun a_7 => bz_rA h_2 a_7 0 (fun x_8 => bz_wA h_2 a_7 0 (x_8 + x1) (fun h_9 => bz_rR h_9 a0 12 0 (fun r_10 => bz_nn r_10 (fun a_11 => bz_rA h_9 a_11 0 (fun x_12 => F (some (.inl x_12)) h_9)))))))) ∧ (¬ ((x_5 + x1) ≤ 1439) → bz_rc h_2 a0 12 (bz_cI G l d kX12_finding [.inr (some a0), .inl 4] h_2 0 0 (fun x_13 h_14 => F (some (.inl x_13)) h_14))))))) ∧ (x_1 = 0 → bz_rc h_2 a0 12 (bz_cI G l d kX12_finding [.inr (some a0), .inl 0] h_2 0 0 (fun x_15 h_16 => F (some (.inl x_15)) h_16))))
set_option maxRecDepth 20000 in
set_option maxHeartbeats 4000000 in
theorem g_X12_minutes_0 {G : bz_G} {κ : bz_K} {l : Launch} {d : Nat} {F : Option bz_V → bz_H → Prop} {bc bs : Nat} (hl : κ.2.1 = l) (a0 : Nat) (x1 : Int32) (h : bz_H) (hP0 : w_X12_minutes_0 G l d F a0 x1 h) : bz_J G κ kX12_minutes (d + 1) F bc bs 0 [some (.inr (some a0)), some (.inl x1)] [] h := by
  subst hl
  unfold w_X12_minutes_0 at hP0
  refine bz_iload_n (pc := 0) dX12_minutes_0 rfl rfl ?_
  refine bz_iconst (pc := 1) dX12_minutes_1 ci_1 ?_
  refine bz_sipush (pc := 2) dX12_minutes_2 cs_600 ?_
  refine bz_kIS (as := [.inl x1, .inl 1, .inl 600]) (st := []) (n := 3) (mc := 0) (ms := 0) (bc := bc) (bs := bs) (yc := kX12_in) (pc := 5) dX12_minutes_5 sc_X12_in ml_X12_65 ss_X12_in rfl (Nat.le_of_ble_eq_true rfl) hP0 (fun x_1 h_2 hP1 => ?_)
  clear hP0
  refine bz_if_ne (tgt := 17) (pc := 8) dX12_minutes_8 rfl (fun c => ?_) (fun c => ?_)
  · have hP2 := hP1.1 c
    clear hP1
    refine bz_aload_n (pc := 17) dX12_minutes_17 rfl rfl ?_
    refine bz_rw_rR (pc := 18) dX12_minutes_18 fl_X12_7 hP2 (fun r_3 hP3 => ?_)
    clear hP2
    refine bz_iconst (pc := 21) dX12_minutes_21 ci_0 ?_
    obtain ⟨a_4, rfl, hP4⟩ := hP3
    refine bz_rw_rA (pc := 22) dX12_minutes_22 hP4 (fun x_5 hP5 => ?_)
    clear hP4
    refine bz_iload_n (pc := 23) dX12_minutes_23 rfl rfl ?_
    refine bz_iadd (pc := 24) dX12_minutes_24 ?_
    refine bz_sipush (pc := 25) dX12_minutes_25 cs_1439 ?_
    refine bz_icmp_le (tgt := 37) (pc := 28) dX12_minutes_28 rfl (fun c => ?_) (fun c => ?_)
    · have hP6 := hP5.1 c
      clear hP5
      refine bz_aload_n (pc := 37) dX12_minutes_37 rfl rfl ?_
      refine bz_rw_rR (pc := 38) dX12_minutes_38 fl_X12_7 hP6 (fun r_6 hP7 => ?_)
      clear hP6
      refine bz_iconst (pc := 41) dX12_minutes_41 ci_0 ?_
      refine bz_dup2 (pc := 42) dX12_minutes_42 ?_
      obtain ⟨a_7, rfl, hP8⟩ := hP7
      refine bz_rw_rA (pc := 43) dX12_minutes_43 hP8 (fun x_8 hP9 => ?_)
      clear hP8
      refine bz_iload_n (pc := 44) dX12_minutes_44 rfl rfl ?_
      refine bz_iadd (pc := 45) dX12_minutes_45 ?_
      refine bz_rw_wA (pc := 46) dX12_minutes_46 hP9 (fun h_9 hP10 => ?_)
      clear hP9
      refine bz_aload_n (pc := 47) dX12_minutes_47 rfl rfl ?_
      refine bz_rw_rR (pc := 48) dX12_minutes_48 fl_X12_7 hP10 (fun r_10 hP11 => ?_)
      clear hP10
      refine bz_iconst (pc := 51) dX12_minutes_51 ci_0 ?_
      obtain ⟨a_11, rfl, hP12⟩ := hP11
      refine bz_rw_rA (pc := 52) dX12_minutes_52 hP12 (fun x_12 hP13 => ?_)
      clear hP12
      exact bz_retI (pc := 53) dX12_minutes_53 rfl rfl hP13
    · have hP14 := hP5.2 c
      clear hP5
      refine bz_aload_n (pc := 31) dX12_minutes_31 rfl rfl ?_
      refine bz_iconst (pc := 32) dX12_minutes_32 ci_4 ?_
      refine bz_kIV (as := [.inl 4]) (st := []) (ci := 12) (n := 1) (mc := 0) (ms := 0) (bc := bc) (bs := bs) (yc := kX12_finding) (q := (RX12, TX12, 34)) (b := a0) (pc := 33) dX12_minutes_33 sc_X12_finding ml_X12_73 im_X12_finding se_X12_finding rfl rfl rfl (Nat.le_of_ble_eq_true rfl) hP14 (fun x_13 h_14 hP15 => ?_)
      clear hP14
      exact bz_retI (pc := 36) dX12_minutes_36 rfl rfl hP15
  · have hP16 := hP1.2 c
    clear hP1
    refine bz_aload_n (pc := 11) dX12_minutes_11 rfl rfl ?_
    refine bz_iconst (pc := 12) dX12_minutes_12 ci_0 ?_
    refine bz_kIV (as := [.inl 0]) (st := []) (ci := 12) (n := 1) (mc := 0) (ms := 0) (bc := bc) (bs := bs) (yc := kX12_finding) (q := (RX12, TX12, 34)) (b := a0) (pc := 13) dX12_minutes_13 sc_X12_finding ml_X12_73 im_X12_finding se_X12_finding rfl rfl rfl (Nat.le_of_ble_eq_true rfl) hP16 (fun x_15 h_16 hP17 => ?_)
    clear hP16
    exact bz_retI (pc := 16) dX12_minutes_16 rfl rfl hP17
theorem m_X12_minutes {G : bz_G} {l : Launch} {d mc ms : Nat} {F : Option bz_V → bz_H → Prop} (a0 : Nat) (x1 : Int32) (h : bz_H) (hP : w_X12_minutes_0 G l d F a0 x1 h) : bz_Call G l (d + 1) kX12_minutes [.inr (some a0), .inl x1] h mc ms F :=
  bz_body (by decide) (Nat.le_of_ble_eq_true rfl) (fun κ hl => g_X12_minutes_0 hl a0 x1 h hP)
def w_X12_nameAll_0 (G : bz_G) (κ : bz_K) (l : Launch) (d : Nat) (F : Option bz_V → bz_H → Prop) (bc bs : Nat) (a0 : Nat) (x1 : Int32) (x2 : Int32) (h : bz_H) : Prop := bz_rc h a0 12 (bz_cI G l d kX12_ofRider [.inr (some a0), .inl x1, .inl 0] h 0 0 (fun x_1 h_2 => bz_rc h_2 a0 12 (bz_cI G l d kX12_ofRider [.inr (some a0), .inl x1, .inl 1] h_2 0 0 (fun x_3 h_4 => bz_rc h_4 a0 12 (bz_cV G l d kX12_nameWays [.inr (some a0), .inl x_1, .inl x_3, .inl x2] h_4 0 0 (fun h_6 => bz_rR h_6 a0 12 22 (fun r_7 => bz_rc h_6 a0 12 (bz_cI G l d kX12_isGiven [.inr (some a0), .inl x2] h_6 0 0 (fun x_8 h_9 => (x_8 = 0 → bz_rR h_9 a0 12 0 (fun r_10 => bz_nn r_10 (fun a_11 => bz_rA h_9 a_11 0 (fun x_12 => bz_J G κ kX12_nameAll (d + 1) F bc bs 47 [some (.inr (some a0)), some (.inl x1), some (.inl x2)] [.inl x_12, .inl 119, .inr r_7] h_9)))) ∧ (¬ (x_8 = 0) → bz_rc h_9 a0 12 (bz_cI G l d kX12_ofOrder [.inr (some a0), .inl x2, .inl 7] h_9 0 0 (fun x_13 h_14 => bz_J G κ kX12_nameAll (d + 1) F bc bs 47 [some (.inr (some a0)), some (.inl x1), some (.inl x2)] [.inl x_13, .inl 119, .inr r_7] h_14))))))))))))
set_option maxRecDepth 20000 in
set_option maxHeartbeats 4000000 in
theorem g_X12_nameAll_0 {G : bz_G} {κ : bz_K} {l : Launch} {d : Nat} {F : Option bz_V → bz_H → Prop} {bc bs : Nat} (hl : κ.2.1 = l) (a0 : Nat) (x1 : Int32) (x2 : Int32) (h : bz_H) (hP0 : w_X12_nameAll_0 G κ l d F bc bs a0 x1 x2 h) : bz_J G κ kX12_nameAll (d + 1) F bc bs 0 [some (.inr (some a0)), some (.inl x1), some (.inl x2)] [] h := by
  subst hl
  unfold w_X12_nameAll_0 at hP0
  refine bz_aload_n (pc := 0) dX12_nameAll_0 rfl rfl ?_
  refine bz_aload_n (pc := 1) dX12_nameAll_1 rfl rfl ?_
  refine bz_iload_n (pc := 2) dX12_nameAll_2 rfl rfl ?_
  refine bz_iconst (pc := 3) dX12_nameAll_3 ci_0 ?_
  refine bz_kIV (as := [.inl x1, .inl 0]) (st := [.inr (some a0)]) (ci := 12) (n := 2) (mc := 0) (ms := 0) (bc := bc) (bs := bs) (yc := kX12_ofRider) (q := (RX12, TX12, 34)) (b := a0) (pc := 4) dX12_nameAll_4 sc_X12_ofRider ml_X12_136 im_X12_ofRider se_X12_ofRider rfl rfl rfl (Nat.le_of_ble_eq_true rfl) hP0 (fun x_1 h_2 hP1 => ?_)
  clear hP0
  refine bz_aload_n (pc := 7) dX12_nameAll_7 rfl rfl ?_
  refine bz_iload_n (pc := 8) dX12_nameAll_8 rfl rfl ?_
  refine bz_iconst (pc := 9) dX12_nameAll_9 ci_1 ?_
  refine bz_kIV (as := [.inl x1, .inl 1]) (st := [.inl x_1, .inr (some a0)]) (ci := 12) (n := 2) (mc := 0) (ms := 0) (bc := bc) (bs := bs) (yc := kX12_ofRider) (q := (RX12, TX12, 34)) (b := a0) (pc := 10) dX12_nameAll_10 sc_X12_ofRider ml_X12_136 im_X12_ofRider se_X12_ofRider rfl rfl rfl (Nat.le_of_ble_eq_true rfl) hP1 (fun x_3 h_4 hP2 => ?_)
  clear hP1
  refine bz_iload_n (pc := 13) dX12_nameAll_13 rfl rfl ?_
  refine bz_kVV (as := [.inl x_1, .inl x_3, .inl x2]) (st := []) (ci := 12) (n := 3) (mc := 0) (ms := 0) (bc := bc) (bs := bs) (yc := kX12_nameWays) (q := (RX12, TX12, 34)) (b := a0) (pc := 14) dX12_nameAll_14 sc_X12_nameWays ml_X12_215 im_X12_nameWays se_X12_nameWays rfl rfl rfl (Nat.le_of_ble_eq_true rfl) hP2 (fun h_6 hP3 => ?_)
  clear hP2
  refine bz_aload_n (pc := 17) dX12_nameAll_17 rfl rfl ?_
  refine bz_rw_rR (pc := 18) dX12_nameAll_18 fl_X12_34 hP3 (fun r_7 hP4 => ?_)
  clear hP3
  refine bz_bipush (pc := 21) dX12_nameAll_21 cb_119 ?_
  refine bz_aload_n (pc := 23) dX12_nameAll_23 rfl rfl ?_
  refine bz_iload_n (pc := 24) dX12_nameAll_24 rfl rfl ?_
  refine bz_kIV (as := [.inl x2]) (st := [.inl 119, .inr r_7]) (ci := 12) (n := 1) (mc := 0) (ms := 0) (bc := bc) (bs := bs) (yc := kX12_isGiven) (q := (RX12, TX12, 34)) (b := a0) (pc := 25) dX12_nameAll_25 sc_X12_isGiven ml_X12_120 im_X12_isGiven se_X12_isGiven rfl rfl rfl (Nat.le_of_ble_eq_true rfl) hP4 (fun x_8 h_9 hP5 => ?_)
  clear hP4
  refine bz_if_eq (tgt := 41) (pc := 28) dX12_nameAll_28 rfl (fun c => ?_) (fun c => ?_)
  · have hP6 := hP5.1 c
    clear hP5
    refine bz_aload_n (pc := 41) dX12_nameAll_41 rfl rfl ?_
    refine bz_rw_rR (pc := 42) dX12_nameAll_42 fl_X12_7 hP6 (fun r_10 hP7 => ?_)
    clear hP6
    refine bz_iconst (pc := 45) dX12_nameAll_45 ci_0 ?_
    obtain ⟨a_11, rfl, hP8⟩ := hP7
    refine bz_rw_rA (pc := 46) dX12_nameAll_46 hP8 (fun x_12 hP9 => ?_)
    clear hP8
    exact hP9
  · have hP10 := hP5.2 c
    clear hP5
    refine bz_aload_n (pc := 31) dX12_nameAll_31 rfl rfl ?_
    refine bz_iload_n (pc := 32) dX12_nameAll_32 rfl rfl ?_
    refine bz_bipush (pc := 33) dX12_nameAll_33 cb_7 ?_
    refine bz_kIV (as := [.inl x2, .inl 7]) (st := [.inl 119, .inr r_7]) (ci := 12) (n := 2) (mc := 0) (ms := 0) (bc := bc) (bs := bs) (yc := kX12_ofOrder) (q := (RX12, TX12, 34)) (b := a0) (pc := 35) dX12_nameAll_35 sc_X12_ofOrder ml_X12_99 im_X12_ofOrder se_X12_ofOrder rfl rfl rfl (Nat.le_of_ble_eq_true rfl) hP10 (fun x_13 h_14 hP11 => ?_)
    clear hP10
    refine bz_goto (tgt := 47) (pc := 38) dX12_nameAll_38 rfl ?_
    exact hP11
def w_X12_nameAll_47 (G : bz_G) (l : Launch) (d : Nat) (F : Option bz_V → bz_H → Prop) (a0 : Nat) (x1 : Int32) (x2 : Int32) (y0 : Int32) (y1 : Int32) (q2 : Option Nat) (h : bz_H) : Prop := bz_rc h a0 12 (bz_cI G l d kX12_ofOrder [.inr (some a0), .inl x2, .inl 2] h 0 0 (fun x_15 h_16 => bz_nn q2 (fun a_17 => bz_wA h_16 a_17 y1 (y0 - x_15) (fun h_18 => bz_rR h_18 a0 12 22 (fun r_19 => bz_rc h_18 a0 12 (bz_cI G l d kX12_ofRider [.inr (some a0), .inl x1, .inl 3] h_18 0 0 (fun x_20 h_21 => bz_nn r_19 (fun a_22 => bz_wA h_21 a_22 104 x_20 (fun h_23 => bz_rR h_23 a0 12 22 (fun r_24 => bz_rc h_23 a0 12 (bz_cI G l d kX12_ratingOfRider [.inr (some a0), .inl x1] h_23 0 0 (fun x_25 h_26 => bz_nn r_24 (fun a_27 => bz_wA h_26 a_27 114 x_25 (fun h_28 => bz_rR h_28 a0 12 22 (fun r_29 => bz_rc h_28 a0 12 (bz_cI G l d kX12_isGiven [.inr (some a0), .inl x2] h_28 0 0 (fun x_30 h_31 => (x_30 = 0 → bz_rc h_31 a0 12 (bz_cI G l d kX12_tripNow [.inr (some a0), .inl x1, .inl x2] h_31 0 0 (fun x_32 h_33 => (x_32 = 0 → bz_nn r_29 (fun a_34 => bz_wA h_33 a_34 108 0 (fun h_35 => bz_rR h_35 a0 12 22 (fun r_36 => bz_nn r_36 (fun a_37 => bz_wA h_35 a_37 110 x1 (fun h_38 => F none h_38)))))) ∧ (¬ (x_32 = 0) → bz_rR h_33 a0 12 10 (fun r_39 => bz_nn r_39 (fun a_40 => bz_rA h_33 a_40 0 (fun x_41 => bz_rc h_33 a0 12 (bz_cI G l d kX12_lateBy [.inr (some a0), .inl x2, .inl x_41] h_33 0 0 (fun x_42 h_43 => bz_nn r_29 (fun a_44 => bz_wA h_43 a_44 108 x_42 (fun h_45 => bz_rR h_45 a0 12 22 (fun r_46 => bz_nn r_46 (fun a_47 => bz_wA h_45 a_47 110 x1 (fun h_48 => F none h_48)))))))))))))) ∧ (¬ (x_30 = 0) → bz_rc h_31 a0 12 (bz_cI G l d kX12_lateOf [.inr (some a0), .inl x2] h_31 0 0 (fun x_49 h_50 => bz_nn r_29 (fun a_51 => bz_wA h_50 a_51 108 x_49 (fun h_52 => bz_rR h_52 a0 12 22 (fun r_53 => bz_nn r_53 (fun a_54 => bz_wA h_52 a_54 110 x1 (fun h_55 => F none h_55)))))))))))))))))))))))))
set_option maxRecDepth 20000 in
set_option maxHeartbeats 4000000 in
theorem g_X12_nameAll_47 {G : bz_G} {κ : bz_K} {l : Launch} {d : Nat} {F : Option bz_V → bz_H → Prop} {bc bs : Nat} (hl : κ.2.1 = l) (a0 : Nat) (x1 : Int32) (x2 : Int32) (y0 : Int32) (y1 : Int32) (q2 : Option Nat) (h : bz_H) (hP0 : w_X12_nameAll_47 G l d F a0 x1 x2 y0 y1 q2 h) : bz_J G κ kX12_nameAll (d + 1) F bc bs 47 [some (.inr (some a0)), some (.inl x1), some (.inl x2)] [.inl y0, .inl y1, .inr q2] h := by
  subst hl
  unfold w_X12_nameAll_47 at hP0
  refine bz_aload_n (pc := 47) dX12_nameAll_47 rfl rfl ?_
  refine bz_iload_n (pc := 48) dX12_nameAll_48 rfl rfl ?_
  refine bz_iconst (pc := 49) dX12_nameAll_49 ci_2 ?_
  refine bz_kIV (as := [.inl x2, .inl 2]) (st := [.inl y0, .inl y1, .inr q2]) (ci := 12) (n := 2) (mc := 0) (ms := 0) (bc := bc) (bs := bs) (yc := kX12_ofOrder) (q := (RX12, TX12, 34)) (b := a0) (pc := 50) dX12_nameAll_50 sc_X12_ofOrder ml_X12_99 im_X12_ofOrder se_X12_ofOrder rfl rfl rfl (Nat.le_of_ble_eq_true rfl) hP0 (fun x_15 h_16 hP1 => ?_)
  clear hP0
  refine bz_isub (pc := 53) dX12_nameAll_53 ?_
  obtain ⟨a_17, rfl, hP2⟩ := hP1
  refine bz_rw_wA (pc := 54) dX12_nameAll_54 hP2 (fun h_18 hP3 => ?_)
  clear hP2
  refine bz_aload_n (pc := 55) dX12_nameAll_55 rfl rfl ?_
  refine bz_rw_rR (pc := 56) dX12_nameAll_56 fl_X12_34 hP3 (fun r_19 hP4 => ?_)
  clear hP3
  refine bz_bipush (pc := 59) dX12_nameAll_59 cb_104 ?_
  refine bz_aload_n (pc := 61) dX12_nameAll_61 rfl rfl ?_
  refine bz_iload_n (pc := 62) dX12_nameAll_62 rfl rfl ?_
  refine bz_iconst (pc := 63) dX12_nameAll_63 ci_3 ?_
  refine bz_kIV (as := [.inl x1, .inl 3]) (st := [.inl 104, .inr r_19]) (ci := 12) (n := 2) (mc := 0) (ms := 0) (bc := bc) (bs := bs) (yc := kX12_ofRider) (q := (RX12, TX12, 34)) (b := a0) (pc := 64) dX12_nameAll_64 sc_X12_ofRider ml_X12_136 im_X12_ofRider se_X12_ofRider rfl rfl rfl (Nat.le_of_ble_eq_true rfl) hP4 (fun x_20 h_21 hP5 => ?_)
  clear hP4
  obtain ⟨a_22, rfl, hP6⟩ := hP5
  refine bz_rw_wA (pc := 67) dX12_nameAll_67 hP6 (fun h_23 hP7 => ?_)
  clear hP6
  refine bz_aload_n (pc := 68) dX12_nameAll_68 rfl rfl ?_
  refine bz_rw_rR (pc := 69) dX12_nameAll_69 fl_X12_34 hP7 (fun r_24 hP8 => ?_)
  clear hP7
  refine bz_bipush (pc := 72) dX12_nameAll_72 cb_114 ?_
  refine bz_aload_n (pc := 74) dX12_nameAll_74 rfl rfl ?_
  refine bz_iload_n (pc := 75) dX12_nameAll_75 rfl rfl ?_
  refine bz_kIV (as := [.inl x1]) (st := [.inl 114, .inr r_24]) (ci := 12) (n := 1) (mc := 0) (ms := 0) (bc := bc) (bs := bs) (yc := kX12_ratingOfRider) (q := (RX12, TX12, 34)) (b := a0) (pc := 76) dX12_nameAll_76 sc_X12_ratingOfRider ml_X12_148 im_X12_ratingOfRider se_X12_ratingOfRider rfl rfl rfl (Nat.le_of_ble_eq_true rfl) hP8 (fun x_25 h_26 hP9 => ?_)
  clear hP8
  obtain ⟨a_27, rfl, hP10⟩ := hP9
  refine bz_rw_wA (pc := 79) dX12_nameAll_79 hP10 (fun h_28 hP11 => ?_)
  clear hP10
  refine bz_aload_n (pc := 80) dX12_nameAll_80 rfl rfl ?_
  refine bz_rw_rR (pc := 81) dX12_nameAll_81 fl_X12_34 hP11 (fun r_29 hP12 => ?_)
  clear hP11
  refine bz_bipush (pc := 84) dX12_nameAll_84 cb_108 ?_
  refine bz_aload_n (pc := 86) dX12_nameAll_86 rfl rfl ?_
  refine bz_iload_n (pc := 87) dX12_nameAll_87 rfl rfl ?_
  refine bz_kIV (as := [.inl x2]) (st := [.inl 108, .inr r_29]) (ci := 12) (n := 1) (mc := 0) (ms := 0) (bc := bc) (bs := bs) (yc := kX12_isGiven) (q := (RX12, TX12, 34)) (b := a0) (pc := 88) dX12_nameAll_88 sc_X12_isGiven ml_X12_120 im_X12_isGiven se_X12_isGiven rfl rfl rfl (Nat.le_of_ble_eq_true rfl) hP12 (fun x_30 h_31 hP13 => ?_)
  clear hP12
  refine bz_if_eq (tgt := 102) (pc := 91) dX12_nameAll_91 rfl (fun c => ?_) (fun c => ?_)
  · have hP14 := hP13.1 c
    clear hP13
    refine bz_aload_n (pc := 102) dX12_nameAll_102 rfl rfl ?_
    refine bz_iload_n (pc := 103) dX12_nameAll_103 rfl rfl ?_
    refine bz_iload_n (pc := 104) dX12_nameAll_104 rfl rfl ?_
    refine bz_kIV (as := [.inl x1, .inl x2]) (st := [.inl 108, .inr r_29]) (ci := 12) (n := 2) (mc := 0) (ms := 0) (bc := bc) (bs := bs) (yc := kX12_tripNow) (q := (RX12, TX12, 34)) (b := a0) (pc := 105) dX12_nameAll_105 sc_X12_tripNow ml_X12_194 im_X12_tripNow se_X12_tripNow rfl rfl rfl (Nat.le_of_ble_eq_true rfl) hP14 (fun x_32 h_33 hP15 => ?_)
    clear hP14
    refine bz_if_eq (tgt := 125) (pc := 108) dX12_nameAll_108 rfl (fun c => ?_) (fun c => ?_)
    · have hP16 := hP15.1 c
      clear hP15
      refine bz_iconst (pc := 125) dX12_nameAll_125 ci_0 ?_
      obtain ⟨a_34, rfl, hP17⟩ := hP16
      refine bz_rw_wA (pc := 126) dX12_nameAll_126 hP17 (fun h_35 hP18 => ?_)
      clear hP17
      refine bz_aload_n (pc := 127) dX12_nameAll_127 rfl rfl ?_
      refine bz_rw_rR (pc := 128) dX12_nameAll_128 fl_X12_34 hP18 (fun r_36 hP19 => ?_)
      clear hP18
      refine bz_bipush (pc := 131) dX12_nameAll_131 cb_110 ?_
      refine bz_iload_n (pc := 133) dX12_nameAll_133 rfl rfl ?_
      obtain ⟨a_37, rfl, hP20⟩ := hP19
      refine bz_rw_wA (pc := 134) dX12_nameAll_134 hP20 (fun h_38 hP21 => ?_)
      clear hP20
      exact bz_retV (pc := 135) dX12_nameAll_135 rfl hP21
    · have hP22 := hP15.2 c
      clear hP15
      refine bz_aload_n (pc := 111) dX12_nameAll_111 rfl rfl ?_
      refine bz_iload_n (pc := 112) dX12_nameAll_112 rfl rfl ?_
      refine bz_aload_n (pc := 113) dX12_nameAll_113 rfl rfl ?_
      refine bz_rw_rR (pc := 114) dX12_nameAll_114 fl_X12_25 hP22 (fun r_39 hP23 => ?_)
      clear hP22
      refine bz_iconst (pc := 117) dX12_nameAll_117 ci_0 ?_
      obtain ⟨a_40, rfl, hP24⟩ := hP23
      refine bz_rw_rA (pc := 118) dX12_nameAll_118 hP24 (fun x_41 hP25 => ?_)
      clear hP24
      refine bz_kIV (as := [.inl x2, .inl x_41]) (st := [.inl 108, .inr r_29]) (ci := 12) (n := 2) (mc := 0) (ms := 0) (bc := bc) (bs := bs) (yc := kX12_lateBy) (q := (RX12, TX12, 34)) (b := a0) (pc := 119) dX12_nameAll_119 sc_X12_lateBy ml_X12_102 im_X12_lateBy se_X12_lateBy rfl rfl rfl (Nat.le_of_ble_eq_true rfl) hP25 (fun x_42 h_43 hP26 => ?_)
      clear hP25
      refine bz_goto (tgt := 126) (pc := 122) dX12_nameAll_122 rfl ?_
      obtain ⟨a_44, rfl, hP27⟩ := hP26
      refine bz_rw_wA (pc := 126) dX12_nameAll_126 hP27 (fun h_45 hP28 => ?_)
      clear hP27
      refine bz_aload_n (pc := 127) dX12_nameAll_127 rfl rfl ?_
      refine bz_rw_rR (pc := 128) dX12_nameAll_128 fl_X12_34 hP28 (fun r_46 hP29 => ?_)
      clear hP28
      refine bz_bipush (pc := 131) dX12_nameAll_131 cb_110 ?_
      refine bz_iload_n (pc := 133) dX12_nameAll_133 rfl rfl ?_
      obtain ⟨a_47, rfl, hP30⟩ := hP29
      refine bz_rw_wA (pc := 134) dX12_nameAll_134 hP30 (fun h_48 hP31 => ?_)
      clear hP30
      exact bz_retV (pc := 135) dX12_nameAll_135 rfl hP31
  · have hP32 := hP13.2 c
    clear hP13
    refine bz_aload_n (pc := 94) dX12_nameAll_94 rfl rfl ?_
    refine bz_iload_n (pc := 95) dX12_nameAll_95 rfl rfl ?_
    refine bz_kIV (as := [.inl x2]) (st := [.inl 108, .inr r_29]) (ci := 12) (n := 1) (mc := 0) (ms := 0) (bc := bc) (bs := bs) (yc := kX12_lateOf) (q := (RX12, TX12, 34)) (b := a0) (pc := 96) dX12_nameAll_96 sc_X12_lateOf ml_X12_105 im_X12_lateOf se_X12_lateOf rfl rfl rfl (Nat.le_of_ble_eq_true rfl) hP32 (fun x_49 h_50 hP33 => ?_)
    clear hP32
    refine bz_goto (tgt := 126) (pc := 99) dX12_nameAll_99 rfl ?_
    obtain ⟨a_51, rfl, hP34⟩ := hP33
    refine bz_rw_wA (pc := 126) dX12_nameAll_126 hP34 (fun h_52 hP35 => ?_)
    clear hP34
    refine bz_aload_n (pc := 127) dX12_nameAll_127 rfl rfl ?_
    refine bz_rw_rR (pc := 128) dX12_nameAll_128 fl_X12_34 hP35 (fun r_53 hP36 => ?_)
    clear hP35
    refine bz_bipush (pc := 131) dX12_nameAll_131 cb_110 ?_
    refine bz_iload_n (pc := 133) dX12_nameAll_133 rfl rfl ?_
    obtain ⟨a_54, rfl, hP37⟩ := hP36
    refine bz_rw_wA (pc := 134) dX12_nameAll_134 hP37 (fun h_55 hP38 => ?_)
    clear hP37
    exact bz_retV (pc := 135) dX12_nameAll_135 rfl hP38
theorem m_X12_nameAll {G : bz_G} {l : Launch} {d mc ms : Nat} {F : Option bz_V → bz_H → Prop} (a0 : Nat) (x1 : Int32) (x2 : Int32) (h : bz_H) (hP : ∀ (κ : bz_K) (bc bs : Nat), κ.2.1 = l → w_X12_nameAll_0 G κ l d F bc bs a0 x1 x2 h) : bz_Call G l (d + 1) kX12_nameAll [.inr (some a0), .inl x1, .inl x2] h mc ms F :=
  bz_body (by decide) (Nat.le_of_ble_eq_true rfl) (fun κ hl => g_X12_nameAll_0 hl a0 x1 x2 h (hP κ mc ms hl))
def w_X12_nameWays_0 (G : bz_G) (l : Launch) (d : Nat) (F : Option bz_V → bz_H → Prop) (a0 : Nat) (x1 : Int32) (x2 : Int32) (x3 : Int32) (h : bz_H) : Prop := bz_rR h a0 12 22 (fun r_1 => bz_rc h a0 12 (bz_cI G l d kX12_kitchenAt [.inr (some a0), .inl x3] h 0 0 (fun x_2 h_3 => bz_rc h_3 a0 12 (bz_cI G l d kX12_goesOf [.inr (some a0), .inl x1, .inl x2, .inl x_2] h_3 0 0 (fun x_4 h_5 => bz_cI G l d kX12_orZero [.inl x_4] h_5 0 0 (fun x_6 h_7 => bz_nn r_1 (fun a_8 => bz_wA h_7 a_8 100 x_6 (fun h_9 => bz_rR h_9 a0 12 22 (fun r_10 => bz_rc h_9 a0 12 (bz_cI G l d kX12_kitchenAt [.inr (some a0), .inl x3] h_9 0 0 (fun x_11 h_12 => bz_rc h_12 a0 12 (bz_cI G l d kX12_ofOrder [.inr (some a0), .inl x3, .inl 1] h_12 0 0 (fun x_13 h_14 => bz_rc h_14 a0 12 (bz_cI G l d kX12_goesOf [.inr (some a0), .inl x1, .inl x_11, .inl x_13] h_14 0 0 (fun x_15 h_16 => bz_cI G l d kX12_orZero [.inl x_15] h_16 0 0 (fun x_17 h_18 => bz_nn r_10 (fun a_19 => bz_wA h_18 a_19 99 x_17 (fun h_20 => F none h_20))))))))))))))))))
set_option maxRecDepth 20000 in
set_option maxHeartbeats 4000000 in
theorem g_X12_nameWays_0 {G : bz_G} {κ : bz_K} {l : Launch} {d : Nat} {F : Option bz_V → bz_H → Prop} {bc bs : Nat} (hl : κ.2.1 = l) (a0 : Nat) (x1 : Int32) (x2 : Int32) (x3 : Int32) (h : bz_H) (hP0 : w_X12_nameWays_0 G l d F a0 x1 x2 x3 h) : bz_J G κ kX12_nameWays (d + 1) F bc bs 0 [some (.inr (some a0)), some (.inl x1), some (.inl x2), some (.inl x3)] [] h := by
  subst hl
  unfold w_X12_nameWays_0 at hP0
  refine bz_aload_n (pc := 0) dX12_nameWays_0 rfl rfl ?_
  refine bz_rw_rR (pc := 1) dX12_nameWays_1 fl_X12_34 hP0 (fun r_1 hP1 => ?_)
  clear hP0
  refine bz_bipush (pc := 4) dX12_nameWays_4 cb_100 ?_
  refine bz_aload_n (pc := 6) dX12_nameWays_6 rfl rfl ?_
  refine bz_iload_n (pc := 7) dX12_nameWays_7 rfl rfl ?_
  refine bz_iload_n (pc := 8) dX12_nameWays_8 rfl rfl ?_
  refine bz_aload_n (pc := 9) dX12_nameWays_9 rfl rfl ?_
  refine bz_iload_n (pc := 10) dX12_nameWays_10 rfl rfl ?_
  refine bz_kIV (as := [.inl x3]) (st := [.inl x2, .inl x1, .inr (some a0), .inl 100, .inr r_1]) (ci := 12) (n := 1) (mc := 0) (ms := 0) (bc := bc) (bs := bs) (yc := kX12_kitchenAt) (q := (RX12, TX12, 34)) (b := a0) (pc := 11) dX12_nameWays_11 sc_X12_kitchenAt ml_X12_170 im_X12_kitchenAt se_X12_kitchenAt rfl rfl rfl (Nat.le_of_ble_eq_true rfl) hP1 (fun x_2 h_3 hP2 => ?_)
  clear hP1
  refine bz_kIV (as := [.inl x1, .inl x2, .inl x_2]) (st := [.inl 100, .inr r_1]) (ci := 12) (n := 3) (mc := 0) (ms := 0) (bc := bc) (bs := bs) (yc := kX12_goesOf) (q := (RX12, TX12, 34)) (b := a0) (pc := 14) dX12_nameWays_14 sc_X12_goesOf ml_X12_157 im_X12_goesOf se_X12_goesOf rfl rfl rfl (Nat.le_of_ble_eq_true rfl) hP2 (fun x_4 h_5 hP3 => ?_)
  clear hP2
  refine bz_kIS (as := [.inl x_4]) (st := [.inl 100, .inr r_1]) (n := 1) (mc := 0) (ms := 0) (bc := bc) (bs := bs) (yc := kX12_orZero) (pc := 17) dX12_nameWays_17 sc_X12_orZero ml_X12_293 ss_X12_orZero rfl (Nat.le_of_ble_eq_true rfl) hP3 (fun x_6 h_7 hP4 => ?_)
  clear hP3
  obtain ⟨a_8, rfl, hP5⟩ := hP4
  refine bz_rw_wA (pc := 20) dX12_nameWays_20 hP5 (fun h_9 hP6 => ?_)
  clear hP5
  refine bz_aload_n (pc := 21) dX12_nameWays_21 rfl rfl ?_
  refine bz_rw_rR (pc := 22) dX12_nameWays_22 fl_X12_34 hP6 (fun r_10 hP7 => ?_)
  clear hP6
  refine bz_bipush (pc := 25) dX12_nameWays_25 cb_99 ?_
  refine bz_aload_n (pc := 27) dX12_nameWays_27 rfl rfl ?_
  refine bz_iload_n (pc := 28) dX12_nameWays_28 rfl rfl ?_
  refine bz_aload_n (pc := 29) dX12_nameWays_29 rfl rfl ?_
  refine bz_iload_n (pc := 30) dX12_nameWays_30 rfl rfl ?_
  refine bz_kIV (as := [.inl x3]) (st := [.inl x1, .inr (some a0), .inl 99, .inr r_10]) (ci := 12) (n := 1) (mc := 0) (ms := 0) (bc := bc) (bs := bs) (yc := kX12_kitchenAt) (q := (RX12, TX12, 34)) (b := a0) (pc := 31) dX12_nameWays_31 sc_X12_kitchenAt ml_X12_170 im_X12_kitchenAt se_X12_kitchenAt rfl rfl rfl (Nat.le_of_ble_eq_true rfl) hP7 (fun x_11 h_12 hP8 => ?_)
  clear hP7
  refine bz_aload_n (pc := 34) dX12_nameWays_34 rfl rfl ?_
  refine bz_iload_n (pc := 35) dX12_nameWays_35 rfl rfl ?_
  refine bz_iconst (pc := 36) dX12_nameWays_36 ci_1 ?_
  refine bz_kIV (as := [.inl x3, .inl 1]) (st := [.inl x_11, .inl x1, .inr (some a0), .inl 99, .inr r_10]) (ci := 12) (n := 2) (mc := 0) (ms := 0) (bc := bc) (bs := bs) (yc := kX12_ofOrder) (q := (RX12, TX12, 34)) (b := a0) (pc := 37) dX12_nameWays_37 sc_X12_ofOrder ml_X12_99 im_X12_ofOrder se_X12_ofOrder rfl rfl rfl (Nat.le_of_ble_eq_true rfl) hP8 (fun x_13 h_14 hP9 => ?_)
  clear hP8
  refine bz_kIV (as := [.inl x1, .inl x_11, .inl x_13]) (st := [.inl 99, .inr r_10]) (ci := 12) (n := 3) (mc := 0) (ms := 0) (bc := bc) (bs := bs) (yc := kX12_goesOf) (q := (RX12, TX12, 34)) (b := a0) (pc := 40) dX12_nameWays_40 sc_X12_goesOf ml_X12_157 im_X12_goesOf se_X12_goesOf rfl rfl rfl (Nat.le_of_ble_eq_true rfl) hP9 (fun x_15 h_16 hP10 => ?_)
  clear hP9
  refine bz_kIS (as := [.inl x_15]) (st := [.inl 99, .inr r_10]) (n := 1) (mc := 0) (ms := 0) (bc := bc) (bs := bs) (yc := kX12_orZero) (pc := 43) dX12_nameWays_43 sc_X12_orZero ml_X12_293 ss_X12_orZero rfl (Nat.le_of_ble_eq_true rfl) hP10 (fun x_17 h_18 hP11 => ?_)
  clear hP10
  obtain ⟨a_19, rfl, hP12⟩ := hP11
  refine bz_rw_wA (pc := 46) dX12_nameWays_46 hP12 (fun h_20 hP13 => ?_)
  clear hP12
  exact bz_retV (pc := 47) dX12_nameWays_47 rfl hP13
theorem m_X12_nameWays {G : bz_G} {l : Launch} {d mc ms : Nat} {F : Option bz_V → bz_H → Prop} (a0 : Nat) (x1 : Int32) (x2 : Int32) (x3 : Int32) (h : bz_H) (hP : w_X12_nameWays_0 G l d F a0 x1 x2 x3 h) : bz_Call G l (d + 1) kX12_nameWays [.inr (some a0), .inl x1, .inl x2, .inl x3] h mc ms F :=
  bz_body (by decide) (Nat.le_of_ble_eq_true rfl) (fun κ hl => g_X12_nameWays_0 hl a0 x1 x2 x3 h hP)
def w_X12_next_0 (G : bz_G) (κ : bz_K) (l : Launch) (d : Nat) (F : Option bz_V → bz_H → Prop) (bc bs : Nat) (a0 : Nat) (h : bz_H) : Prop := bz_rI h a0 12 17 (fun x_1 => bz_rI h a0 12 14 (fun x_2 => (x_2 ≤ x_1 → bz_J G κ kX12_next (d + 1) F bc bs 38 [some (.inr (some a0)), none] [] h) ∧ (¬ (x_2 ≤ x_1) → bz_rR h a0 12 13 (fun r_3 => bz_rI h a0 12 17 (fun x_4 => bz_nn r_3 (fun a_5 => bz_rA h a_5 x_4 (fun x_6 => (¬ x_6 = 32 → bz_J G κ kX12_next (d + 1) F bc bs 38 [some (.inr (some a0)), none] [] h) ∧ (x_6 = 32 → bz_rI h a0 12 17 (fun x_7 => bz_wI h a0 12 17 (x_7 + 1) (fun h_8 => bz_J G κ kX12_next (d + 1) F bc bs 0 [some (.inr (some a0)), none] [] h_8))))))))))
set_option maxRecDepth 20000 in
set_option maxHeartbeats 4000000 in
theorem g_X12_next_0 {G : bz_G} {κ : bz_K} {l : Launch} {d : Nat} {F : Option bz_V → bz_H → Prop} {bc bs : Nat} (hl : κ.2.1 = l) (a0 : Nat) (h : bz_H) (hP0 : w_X12_next_0 G κ l d F bc bs a0 h) : bz_J G κ kX12_next (d + 1) F bc bs 0 [some (.inr (some a0)), none] [] h := by
  subst hl
  unfold w_X12_next_0 at hP0
  refine bz_aload_n (pc := 0) dX12_next_0 rfl rfl ?_
  refine bz_rw_rI (pc := 1) dX12_next_1 fl_X12_238 hP0 (fun x_1 hP1 => ?_)
  clear hP0
  refine bz_aload_n (pc := 4) dX12_next_4 rfl rfl ?_
  refine bz_rw_rI (pc := 5) dX12_next_5 fl_X12_235 hP1 (fun x_2 hP2 => ?_)
  clear hP1
  refine bz_icmp_ge (tgt := 38) (pc := 8) dX12_next_8 rfl (fun c => ?_) (fun c => ?_)
  · have hP3 := hP2.1 c
    clear hP2
    exact hP3
  · have hP4 := hP2.2 c
    clear hP2
    refine bz_aload_n (pc := 11) dX12_next_11 rfl rfl ?_
    refine bz_rw_rR (pc := 12) dX12_next_12 fl_X12_28 hP4 (fun r_3 hP5 => ?_)
    clear hP4
    refine bz_aload_n (pc := 15) dX12_next_15 rfl rfl ?_
    refine bz_rw_rI (pc := 16) dX12_next_16 fl_X12_238 hP5 (fun x_4 hP6 => ?_)
    clear hP5
    obtain ⟨a_5, rfl, hP7⟩ := hP6
    refine bz_rw_rA (pc := 19) dX12_next_19 hP7 (fun x_6 hP8 => ?_)
    clear hP7
    refine bz_bipush (pc := 20) dX12_next_20 cb_32 ?_
    refine bz_icmp_ne (tgt := 38) (pc := 22) dX12_next_22 rfl (fun c => ?_) (fun c => ?_)
    · have hP9 := hP8.1 c
      clear hP8
      exact hP9
    · have hP10 := hP8.2 c
      clear hP8
      refine bz_aload_n (pc := 25) dX12_next_25 rfl rfl ?_
      refine bz_dup (pc := 26) dX12_next_26 ?_
      refine bz_rw_rI (pc := 27) dX12_next_27 fl_X12_238 hP10 (fun x_7 hP11 => ?_)
      clear hP10
      refine bz_iconst (pc := 30) dX12_next_30 ci_1 ?_
      refine bz_iadd (pc := 31) dX12_next_31 ?_
      refine bz_rw_wI (pc := 32) dX12_next_32 fl_X12_238 (fun q h9 => by cases h9; rfl) rfl hP11 (fun h_8 hP12 => ?_)
      clear hP11
      refine bz_goto (tgt := 0) (pc := 35) dX12_next_35 rfl ?_
      exact hP12
def w_X12_next_38 (G : bz_G) (κ : bz_K) (l : Launch) (d : Nat) (F : Option bz_V → bz_H → Prop) (bc bs : Nat) (a0 : Nat) (u1 : Option bz_V) (h : bz_H) : Prop := bz_rI h a0 12 17 (fun x_9 => bz_wI h a0 12 16 x_9 (fun h_10 => bz_rI h_10 a0 12 16 (fun x_11 => bz_rI h_10 a0 12 14 (fun x_12 => (¬ x_11 = x_12 → bz_rR h_10 a0 12 13 (fun r_13 => bz_rI h_10 a0 12 16 (fun x_14 => bz_nn r_13 (fun a_15 => bz_rA h_10 a_15 x_14 (fun x_16 => bz_wI h_10 a0 12 18 x_16 (fun h_17 => bz_rI h_17 a0 12 16 (fun x_18 => bz_rc h_17 a0 12 (bz_cI G l d kX12_isDigit [.inr (some a0), .inl x_18] h_17 0 0 (fun x_19 h_20 => (x_19 = 0 → bz_rI h_20 a0 12 17 (fun x_21 => bz_wI h_20 a0 12 17 (x_21 + 1) (fun h_22 => bz_rI h_22 a0 12 18 (fun x_23 => bz_cI G l d kX12_isName [.inl x_23] h_22 0 0 (fun x_24 h_25 => (x_24 = 0 → bz_rI h_25 a0 12 18 (fun x_26 => bz_cI G l d kX12_isSignByte [.inl x_26] h_25 0 0 (fun x_27 h_28 => bz_wI h_28 a0 12 15 (if x_27 = 0 then 4 else 3) (fun h_29 => F none h_29)))) ∧ (¬ (x_24 = 0) → bz_wI h_25 a0 12 15 1 (fun h_30 => F none h_30))))))) ∧ (¬ (x_19 = 0) → bz_J G κ kX12_next (d + 1) F bc bs 89 [some (.inr (some a0)), some (.inl 0)] [] h_20)))))))))) ∧ (x_11 = x_12 → bz_wI h_10 a0 12 15 0 (fun h_31 => F none h_31))))))
set_option maxRecDepth 20000 in
set_option maxHeartbeats 4000000 in
theorem g_X12_next_38 {G : bz_G} {κ : bz_K} {l : Launch} {d : Nat} {F : Option bz_V → bz_H → Prop} {bc bs : Nat} (hl : κ.2.1 = l) (a0 : Nat) (u1 : Option bz_V) (h : bz_H) (hP0 : w_X12_next_38 G κ l d F bc bs a0 u1 h) : bz_J G κ kX12_next (d + 1) F bc bs 38 [some (.inr (some a0)), u1] [] h := by
  subst hl
  unfold w_X12_next_38 at hP0
  refine bz_aload_n (pc := 38) dX12_next_38 rfl rfl ?_
  refine bz_aload_n (pc := 39) dX12_next_39 rfl rfl ?_
  refine bz_rw_rI (pc := 40) dX12_next_40 fl_X12_238 hP0 (fun x_9 hP1 => ?_)
  clear hP0
  refine bz_rw_wI (pc := 43) dX12_next_43 fl_X12_241 (fun q h9 => by cases h9; rfl) rfl hP1 (fun h_10 hP2 => ?_)
  clear hP1
  refine bz_aload_n (pc := 46) dX12_next_46 rfl rfl ?_
  refine bz_rw_rI (pc := 47) dX12_next_47 fl_X12_241 hP2 (fun x_11 hP3 => ?_)
  clear hP2
  refine bz_aload_n (pc := 50) dX12_next_50 rfl rfl ?_
  refine bz_rw_rI (pc := 51) dX12_next_51 fl_X12_235 hP3 (fun x_12 hP4 => ?_)
  clear hP3
  refine bz_icmp_ne (tgt := 63) (pc := 54) dX12_next_54 rfl (fun c => ?_) (fun c => ?_)
  · have hP5 := hP4.1 c
    clear hP4
    refine bz_aload_n (pc := 63) dX12_next_63 rfl rfl ?_
    refine bz_aload_n (pc := 64) dX12_next_64 rfl rfl ?_
    refine bz_rw_rR (pc := 65) dX12_next_65 fl_X12_28 hP5 (fun r_13 hP6 => ?_)
    clear hP5
    refine bz_aload_n (pc := 68) dX12_next_68 rfl rfl ?_
    refine bz_rw_rI (pc := 69) dX12_next_69 fl_X12_241 hP6 (fun x_14 hP7 => ?_)
    clear hP6
    obtain ⟨a_15, rfl, hP8⟩ := hP7
    refine bz_rw_rA (pc := 72) dX12_next_72 hP8 (fun x_16 hP9 => ?_)
    clear hP8
    refine bz_rw_wI (pc := 73) dX12_next_73 fl_X12_247 (fun q h9 => by cases h9; rfl) rfl hP9 (fun h_17 hP10 => ?_)
    clear hP9
    refine bz_aload_n (pc := 76) dX12_next_76 rfl rfl ?_
    refine bz_aload_n (pc := 77) dX12_next_77 rfl rfl ?_
    refine bz_rw_rI (pc := 78) dX12_next_78 fl_X12_241 hP10 (fun x_18 hP11 => ?_)
    clear hP10
    refine bz_kIV (as := [.inl x_18]) (st := []) (ci := 12) (n := 1) (mc := 0) (ms := 0) (bc := bc) (bs := bs) (yc := kX12_isDigit) (q := (RX12, TX12, 34)) (b := a0) (pc := 81) dX12_next_81 sc_X12_isDigit ml_X12_250 im_X12_isDigit se_X12_isDigit rfl rfl rfl (Nat.le_of_ble_eq_true rfl) hP11 (fun x_19 h_20 hP12 => ?_)
    clear hP11
    refine bz_if_eq (tgt := 164) (pc := 84) dX12_next_84 rfl (fun c => ?_) (fun c => ?_)
    · have hP13 := hP12.1 c
      clear hP12
      refine bz_aload_n (pc := 164) dX12_next_164 rfl rfl ?_
      refine bz_dup (pc := 165) dX12_next_165 ?_
      refine bz_rw_rI (pc := 166) dX12_next_166 fl_X12_238 hP13 (fun x_21 hP14 => ?_)
      clear hP13
      refine bz_iconst (pc := 169) dX12_next_169 ci_1 ?_
      refine bz_iadd (pc := 170) dX12_next_170 ?_
      refine bz_rw_wI (pc := 171) dX12_next_171 fl_X12_238 (fun q h9 => by cases h9; rfl) rfl hP14 (fun h_22 hP15 => ?_)
      clear hP14
      refine bz_aload_n (pc := 174) dX12_next_174 rfl rfl ?_
      refine bz_aload_n (pc := 175) dX12_next_175 rfl rfl ?_
      refine bz_rw_rI (pc := 176) dX12_next_176 fl_X12_247 hP15 (fun x_23 hP16 => ?_)
      clear hP15
      refine bz_kIS (as := [.inl x_23]) (st := [.inr (some a0)]) (n := 1) (mc := 0) (ms := 0) (bc := bc) (bs := bs) (yc := kX12_isName) (pc := 179) dX12_next_179 sc_X12_isName ml_X12_253 ss_X12_isName rfl (Nat.le_of_ble_eq_true rfl) hP16 (fun x_24 h_25 hP17 => ?_)
      clear hP16
      refine bz_if_eq (tgt := 189) (pc := 182) dX12_next_182 rfl (fun c => ?_) (fun c => ?_)
      · have hP18 := hP17.1 c
        clear hP17
        refine bz_aload_n (pc := 189) dX12_next_189 rfl rfl ?_
        refine bz_rw_rI (pc := 190) dX12_next_190 fl_X12_247 hP18 (fun x_26 hP19 => ?_)
        clear hP18
        refine bz_kIS (as := [.inl x_26]) (st := [.inr (some a0)]) (n := 1) (mc := 0) (ms := 0) (bc := bc) (bs := bs) (yc := kX12_isSignByte) (pc := 193) dX12_next_193 sc_X12_isSignByte ml_X12_256 ss_X12_isSignByte rfl (Nat.le_of_ble_eq_true rfl) hP19 (fun x_27 h_28 hP20 => ?_)
        clear hP19
        have hJ : bz_J G κ kX12_next (d + 1) F bc bs 204 [some (.inr (some a0)), u1] [.inl (if x_27 = 0 then 4 else 3), .inr (some a0)] h_28 := by
          refine bz_rw_wI (pc := 204) dX12_next_204 fl_X12_244 (fun q h9 => by cases h9; rfl) rfl hP20 (fun h_29 hP21 => ?_)
          clear hP20
          exact bz_retV (pc := 207) dX12_next_207 rfl hP21
        refine bz_if_eq (tgt := 203) (pc := 196) dX12_next_196 rfl (fun c => ?_) (fun c => ?_)
        · have e9 : ((if x_27 = 0 then 4 else 3) : Int32) = (4) := if_pos c
          rw [e9] at hJ
          refine bz_iconst (pc := 203) dX12_next_203 ci_4 ?_
          exact hJ
        · have e9 : ((if x_27 = 0 then 4 else 3) : Int32) = (3) := if_neg c
          rw [e9] at hJ
          refine bz_iconst (pc := 199) dX12_next_199 ci_3 ?_
          refine bz_goto (tgt := 204) (pc := 200) dX12_next_200 rfl ?_
          exact hJ
      · have hP22 := hP17.2 c
        clear hP17
        refine bz_iconst (pc := 185) dX12_next_185 ci_1 ?_
        refine bz_goto (tgt := 204) (pc := 186) dX12_next_186 rfl ?_
        refine bz_rw_wI (pc := 204) dX12_next_204 fl_X12_244 (fun q h9 => by cases h9; rfl) rfl hP22 (fun h_30 hP23 => ?_)
        clear hP22
        exact bz_retV (pc := 207) dX12_next_207 rfl hP23
    · have hP24 := hP12.2 c
      clear hP12
      refine bz_iconst (pc := 87) dX12_next_87 ci_0 ?_
      refine bz_s_istore_n (pc := 88) dX12_next_88 rfl (Nat.le_of_ble_eq_true rfl) [some (.inr (some a0)), some (.inl 0)] rfl ?_
      exact hP24
  · have hP25 := hP4.2 c
    clear hP4
    refine bz_aload_n (pc := 57) dX12_next_57 rfl rfl ?_
    refine bz_iconst (pc := 58) dX12_next_58 ci_0 ?_
    refine bz_rw_wI (pc := 59) dX12_next_59 fl_X12_244 (fun q h9 => by cases h9; rfl) rfl hP25 (fun h_31 hP26 => ?_)
    clear hP25
    exact bz_retV (pc := 62) dX12_next_62 rfl hP26
def w_X12_next_89 (G : bz_G) (κ : bz_K) (l : Launch) (d : Nat) (F : Option bz_V → bz_H → Prop) (bc bs : Nat) (a0 : Nat) (x1 : Int32) (h : bz_H) : Prop := bz_rI h a0 12 17 (fun x_32 => bz_rc h a0 12 (bz_cI G l d kX12_isDigit [.inr (some a0), .inl x_32] h 0 0 (fun x_33 h_34 => (x_33 = 0 → bz_wI h_34 a0 12 18 x1 (fun h_35 => bz_wI h_35 a0 12 15 (if x1 ≤ 9999 then 2 else 4) (fun h_36 => F none h_36))) ∧ (¬ (x_33 = 0) → (x1 ≤ 9999 → bz_rR h_34 a0 12 13 (fun r_37 => bz_rI h_34 a0 12 17 (fun x_38 => bz_nn r_37 (fun a_39 => bz_rA h_34 a_39 x_38 (fun x_40 => bz_rI h_34 a0 12 17 (fun x_41 => bz_wI h_34 a0 12 17 (x_41 + 1) (fun h_42 => bz_J G κ kX12_next (d + 1) F bc bs 89 [some (.inr (some a0)), some (.inl (((10 * x1) + x_40) - 48))] [] h_42))))))) ∧ (¬ (x1 ≤ 9999) → bz_rI h_34 a0 12 17 (fun x_43 => bz_wI h_34 a0 12 17 (x_43 + 1) (fun h_44 => bz_J G κ kX12_next (d + 1) F bc bs 89 [some (.inr (some a0)), some (.inl x1)] [] h_44)))))))
set_option maxRecDepth 20000 in
set_option maxHeartbeats 4000000 in
theorem g_X12_next_89 {G : bz_G} {κ : bz_K} {l : Launch} {d : Nat} {F : Option bz_V → bz_H → Prop} {bc bs : Nat} (hl : κ.2.1 = l) (a0 : Nat) (x1 : Int32) (h : bz_H) (hP0 : w_X12_next_89 G κ l d F bc bs a0 x1 h) : bz_J G κ kX12_next (d + 1) F bc bs 89 [some (.inr (some a0)), some (.inl x1)] [] h := by
  subst hl
  unfold w_X12_next_89 at hP0
  refine bz_aload_n (pc := 89) dX12_next_89 rfl rfl ?_
  refine bz_aload_n (pc := 90) dX12_next_90 rfl rfl ?_
  refine bz_rw_rI (pc := 91) dX12_next_91 fl_X12_238 hP0 (fun x_32 hP1 => ?_)
  clear hP0
  refine bz_kIV (as := [.inl x_32]) (st := []) (ci := 12) (n := 1) (mc := 0) (ms := 0) (bc := bc) (bs := bs) (yc := kX12_isDigit) (q := (RX12, TX12, 34)) (b := a0) (pc := 94) dX12_next_94 sc_X12_isDigit ml_X12_250 im_X12_isDigit se_X12_isDigit rfl rfl rfl (Nat.le_of_ble_eq_true rfl) hP1 (fun x_33 h_34 hP2 => ?_)
  clear hP1
  refine bz_if_eq (tgt := 142) (pc := 97) dX12_next_97 rfl (fun c => ?_) (fun c => ?_)
  · have hP3 := hP2.1 c
    clear hP2
    refine bz_aload_n (pc := 142) dX12_next_142 rfl rfl ?_
    refine bz_iload_n (pc := 143) dX12_next_143 rfl rfl ?_
    refine bz_rw_wI (pc := 144) dX12_next_144 fl_X12_247 (fun q h9 => by cases h9; rfl) rfl hP3 (fun h_35 hP4 => ?_)
    clear hP3
    refine bz_aload_n (pc := 147) dX12_next_147 rfl rfl ?_
    refine bz_iload_n (pc := 148) dX12_next_148 rfl rfl ?_
    refine bz_sipush (pc := 149) dX12_next_149 cs_9999 ?_
    have hJ : bz_J G κ kX12_next (d + 1) F bc bs 160 [some (.inr (some a0)), some (.inl x1)] [.inl (if x1 ≤ 9999 then 2 else 4), .inr (some a0)] h_35 := by
      refine bz_rw_wI (pc := 160) dX12_next_160 fl_X12_244 (fun q h9 => by cases h9; rfl) rfl hP4 (fun h_36 hP5 => ?_)
      clear hP4
      exact bz_retV (pc := 163) dX12_next_163 rfl hP5
    refine bz_icmp_le (tgt := 159) (pc := 152) dX12_next_152 rfl (fun c => ?_) (fun c => ?_)
    · have e9 : ((if x1 ≤ 9999 then 2 else 4) : Int32) = (2) := if_pos c
      rw [e9] at hJ
      refine bz_iconst (pc := 159) dX12_next_159 ci_2 ?_
      exact hJ
    · have e9 : ((if x1 ≤ 9999 then 2 else 4) : Int32) = (4) := if_neg c
      rw [e9] at hJ
      refine bz_iconst (pc := 155) dX12_next_155 ci_4 ?_
      refine bz_goto (tgt := 160) (pc := 156) dX12_next_156 rfl ?_
      exact hJ
  · have hP6 := hP2.2 c
    clear hP2
    refine bz_iload_n (pc := 100) dX12_next_100 rfl rfl ?_
    refine bz_sipush (pc := 101) dX12_next_101 cs_9999 ?_
    refine bz_icmp_le (tgt := 111) (pc := 104) dX12_next_104 rfl (fun c => ?_) (fun c => ?_)
    · have hP7 := hP6.1 c
      clear hP6
      refine bz_bipush (pc := 111) dX12_next_111 cb_10 ?_
      refine bz_iload_n (pc := 113) dX12_next_113 rfl rfl ?_
      refine bz_imul (pc := 114) dX12_next_114 ?_
      refine bz_aload_n (pc := 115) dX12_next_115 rfl rfl ?_
      refine bz_rw_rR (pc := 116) dX12_next_116 fl_X12_28 hP7 (fun r_37 hP8 => ?_)
      clear hP7
      refine bz_aload_n (pc := 119) dX12_next_119 rfl rfl ?_
      refine bz_rw_rI (pc := 120) dX12_next_120 fl_X12_238 hP8 (fun x_38 hP9 => ?_)
      clear hP8
      obtain ⟨a_39, rfl, hP10⟩ := hP9
      refine bz_rw_rA (pc := 123) dX12_next_123 hP10 (fun x_40 hP11 => ?_)
      clear hP10
      refine bz_iadd (pc := 124) dX12_next_124 ?_
      refine bz_bipush (pc := 125) dX12_next_125 cb_48 ?_
      refine bz_isub (pc := 127) dX12_next_127 ?_
      refine bz_s_istore_n (pc := 128) dX12_next_128 rfl (Nat.le_of_ble_eq_true rfl) [some (.inr (some a0)), some (.inl (((10 * x1) + x_40) - 48))] rfl ?_
      refine bz_aload_n (pc := 129) dX12_next_129 rfl rfl ?_
      refine bz_dup (pc := 130) dX12_next_130 ?_
      refine bz_rw_rI (pc := 131) dX12_next_131 fl_X12_238 hP11 (fun x_41 hP12 => ?_)
      clear hP11
      refine bz_iconst (pc := 134) dX12_next_134 ci_1 ?_
      refine bz_iadd (pc := 135) dX12_next_135 ?_
      refine bz_rw_wI (pc := 136) dX12_next_136 fl_X12_238 (fun q h9 => by cases h9; rfl) rfl hP12 (fun h_42 hP13 => ?_)
      clear hP12
      refine bz_goto (tgt := 89) (pc := 139) dX12_next_139 rfl ?_
      exact hP13
    · have hP14 := hP6.2 c
      clear hP6
      refine bz_iload_n (pc := 107) dX12_next_107 rfl rfl ?_
      refine bz_goto (tgt := 128) (pc := 108) dX12_next_108 rfl ?_
      refine bz_s_istore_n (pc := 128) dX12_next_128 rfl (Nat.le_of_ble_eq_true rfl) [some (.inr (some a0)), some (.inl x1)] rfl ?_
      refine bz_aload_n (pc := 129) dX12_next_129 rfl rfl ?_
      refine bz_dup (pc := 130) dX12_next_130 ?_
      refine bz_rw_rI (pc := 131) dX12_next_131 fl_X12_238 hP14 (fun x_43 hP15 => ?_)
      clear hP14
      refine bz_iconst (pc := 134) dX12_next_134 ci_1 ?_
      refine bz_iadd (pc := 135) dX12_next_135 ?_
      refine bz_rw_wI (pc := 136) dX12_next_136 fl_X12_238 (fun q h9 => by cases h9; rfl) rfl hP15 (fun h_44 hP16 => ?_)
      clear hP15
      refine bz_goto (tgt := 89) (pc := 139) dX12_next_139 rfl ?_
      exact hP16
theorem m_X12_next {G : bz_G} {l : Launch} {d mc ms : Nat} {F : Option bz_V → bz_H → Prop} (a0 : Nat) (h : bz_H) (hP : ∀ (κ : bz_K) (bc bs : Nat), κ.2.1 = l → w_X12_next_0 G κ l d F bc bs a0 h) : bz_Call G l (d + 1) kX12_next [.inr (some a0)] h mc ms F :=
  bz_body (by decide) (Nat.le_of_ble_eq_true rfl) (fun κ hl => g_X12_next_0 hl a0 h (hP κ mc ms hl))
def w_X12_nightRider_0 (G : bz_G) (κ : bz_K) (l : Launch) (d : Nat) (F : Option bz_V → bz_H → Prop) (bc bs : Nat) (a0 : Nat) (x1 : Int32) (x2 : Int32) (h : bz_H) : Prop := bz_J G κ kX12_nightRider (d + 1) F bc bs 8 [some (.inr (some a0)), some (.inl x1), some (.inl x2), some (.inl (-1)), some (.inl 0), some (.inl 0), none, none] [] h
set_option maxRecDepth 20000 in
set_option maxHeartbeats 4000000 in
theorem g_X12_nightRider_0 {G : bz_G} {κ : bz_K} {l : Launch} {d : Nat} {F : Option bz_V → bz_H → Prop} {bc bs : Nat} (hl : κ.2.1 = l) (a0 : Nat) (x1 : Int32) (x2 : Int32) (h : bz_H) (hP0 : w_X12_nightRider_0 G κ l d F bc bs a0 x1 x2 h) : bz_J G κ kX12_nightRider (d + 1) F bc bs 0 [some (.inr (some a0)), some (.inl x1), some (.inl x2), none, none, none, none, none] [] h := by
  subst hl
  unfold w_X12_nightRider_0 at hP0
  refine bz_iconst (pc := 0) dX12_nightRider_0 ci_m1 ?_
  refine bz_s_istore_n (pc := 1) dX12_nightRider_1 rfl (Nat.le_of_ble_eq_true rfl) [some (.inr (some a0)), some (.inl x1), some (.inl x2), some (.inl (-1)), none, none, none, none] rfl ?_
  refine bz_iconst (pc := 2) dX12_nightRider_2 ci_0 ?_
  refine bz_s_istore (pc := 3) dX12_nightRider_3 (Nat.le_of_ble_eq_true rfl) [some (.inr (some a0)), some (.inl x1), some (.inl x2), some (.inl (-1)), some (.inl 0), none, none, none] rfl ?_
  refine bz_iconst (pc := 5) dX12_nightRider_5 ci_0 ?_
  refine bz_s_istore (pc := 6) dX12_nightRider_6 (Nat.le_of_ble_eq_true rfl) [some (.inr (some a0)), some (.inl x1), some (.inl x2), some (.inl (-1)), some (.inl 0), some (.inl 0), none, none] rfl ?_
  exact hP0
def w_X12_nightRider_8 (G : bz_G) (κ : bz_K) (l : Launch) (d : Nat) (F : Option bz_V → bz_H → Prop) (bc bs : Nat) (a0 : Nat) (x1 : Int32) (x2 : Int32) (x3 : Int32) (x4 : Int32) (x5 : Int32) (u6 : Option bz_V) (u7 : Option bz_V) (h : bz_H) : Prop := bz_rR h a0 12 0 (fun r_1 => bz_nn r_1 (fun a_2 => bz_rA h a_2 3 (fun x_3 => (x_3 ≤ x5 → F (some (.inl x3)) h) ∧ (¬ (x_3 ≤ x5) → bz_rc h a0 12 (bz_cI G l d kX12_ofRider [.inr (some a0), .inl x5, .inl 0] h 0 0 (fun x_4 h_5 => bz_rc h_5 a0 12 (bz_cI G l d kX12_ofRider [.inr (some a0), .inl x5, .inl 5] h_5 0 0 (fun x_6 h_7 => bz_rc h_7 a0 12 (bz_cI G l d kX12_ofOrder [.inr (some a0), .inl x2, .inl 2] h_7 0 0 (fun x_8 h_9 => (x_8 < x_6 → bz_J G κ kX12_nightRider (d + 1) F bc bs 8 [some (.inr (some a0)), some (.inl x1), some (.inl x2), some (.inl x3), some (.inl x4), some (.inl (x5 + 1)), some (.inl x_4), u7] [] h_9) ∧ (¬ (x_8 < x_6) → bz_rc h_9 a0 12 (bz_cI G l d kX12_nightTrip [.inr (some a0), .inl x5, .inl x2] h_9 0 0 (fun x_10 h_11 => (¬ x_10 = 0 → bz_rR h_11 a0 12 24 (fun r_12 => bz_nn r_12 (fun a_13 => bz_rA h_11 a_13 x5 (fun x_14 => bz_rc h_11 a0 12 (bz_cV G l d kX12_nameWays [.inr (some a0), .inl x_4, .inl x_14, .inl x2] h_11 0 0 (fun h_16 => bz_rR h_16 a0 12 22 (fun r_17 => bz_nn r_17 (fun a_18 => bz_wA h_16 a_18 119 0 (fun h_19 => bz_rR h_19 a0 12 22 (fun r_20 => bz_rR h_19 a0 12 26 (fun r_21 => bz_nn r_21 (fun a_22 => bz_rA h_19 a_22 x5 (fun x_23 => bz_nn r_20 (fun a_24 => bz_wA h_19 a_24 104 x_23 (fun h_25 => bz_rR h_25 a0 12 22 (fun r_26 => bz_nn r_26 (fun a_27 => bz_wA h_25 a_27 114 25 (fun h_28 => bz_rR h_28 a0 12 22 (fun r_29 => bz_rR h_28 a0 12 10 (fun r_30 => bz_nn r_30 (fun a_31 => bz_rA h_28 a_31 0 (fun x_32 => bz_rc h_28 a0 12 (bz_cI G l d kX12_lateBy [.inr (some a0), .inl x2, .inl x_32] h_28 0 0 (fun x_33 h_34 => bz_nn r_29 (fun a_35 => bz_wA h_34 a_35 108 x_33 (fun h_36 => bz_rR h_36 a0 12 22 (fun r_37 => bz_nn r_37 (fun a_38 => bz_wA h_36 a_38 110 x5 (fun h_39 => bz_rc h_39 a0 12 (bz_cI G l d kX12_works [.inr (some a0), .inl x1] h_39 0 0 (fun x_40 h_41 => (x3 < 0 → bz_J G κ kX12_nightRider (d + 1) F bc bs 8 [some (.inr (some a0)), some (.inl x1), some (.inl x2), some (.inl x5), some (.inl x_40), some (.inl (x5 + 1)), some (.inl x_4), some (.inl x_40)] [] h_41) ∧ (¬ (x3 < 0) → (x_40 ≤ x4 → bz_J G κ kX12_nightRider (d + 1) F bc bs 8 [some (.inr (some a0)), some (.inl x1), some (.inl x2), some (.inl x3), some (.inl x4), some (.inl (x5 + 1)), some (.inl x_4), some (.inl x_40)] [] h_41) ∧ (¬ (x_40 ≤ x4) → bz_J G κ kX12_nightRider (d + 1) F bc bs 8 [some (.inr (some a0)), some (.inl x1), some (.inl x2), some (.inl x5), some (.inl x_40), some (.inl (x5 + 1)), some (.inl x_4), some (.inl x_40)] [] h_41))))))))))))))))))))))))))))))))) ∧ (x_10 = 0 → bz_J G κ kX12_nightRider (d + 1) F bc bs 8 [some (.inr (some a0)), some (.inl x1), some (.inl x2), some (.inl x3), some (.inl x4), some (.inl (x5 + 1)), some (.inl x_4), u7] [] h_11))))))))))))))
set_option maxRecDepth 20000 in
set_option maxHeartbeats 4000000 in
theorem g_X12_nightRider_8 {G : bz_G} {κ : bz_K} {l : Launch} {d : Nat} {F : Option bz_V → bz_H → Prop} {bc bs : Nat} (hl : κ.2.1 = l) (a0 : Nat) (x1 : Int32) (x2 : Int32) (x3 : Int32) (x4 : Int32) (x5 : Int32) (u6 : Option bz_V) (u7 : Option bz_V) (h : bz_H) (hP0 : w_X12_nightRider_8 G κ l d F bc bs a0 x1 x2 x3 x4 x5 u6 u7 h) : bz_J G κ kX12_nightRider (d + 1) F bc bs 8 [some (.inr (some a0)), some (.inl x1), some (.inl x2), some (.inl x3), some (.inl x4), some (.inl x5), u6, u7] [] h := by
  subst hl
  unfold w_X12_nightRider_8 at hP0
  refine bz_iload (pc := 8) dX12_nightRider_8 rfl ?_
  refine bz_aload_n (pc := 10) dX12_nightRider_10 rfl rfl ?_
  refine bz_rw_rR (pc := 11) dX12_nightRider_11 fl_X12_7 hP0 (fun r_1 hP1 => ?_)
  clear hP0
  refine bz_iconst (pc := 14) dX12_nightRider_14 ci_3 ?_
  obtain ⟨a_2, rfl, hP2⟩ := hP1
  refine bz_rw_rA (pc := 15) dX12_nightRider_15 hP2 (fun x_3 hP3 => ?_)
  clear hP2
  refine bz_icmp_ge (tgt := 160) (pc := 16) dX12_nightRider_16 rfl (fun c => ?_) (fun c => ?_)
  · have hP4 := hP3.1 c
    clear hP3
    refine bz_iload_n (pc := 160) dX12_nightRider_160 rfl rfl ?_
    exact bz_retI (pc := 161) dX12_nightRider_161 rfl rfl hP4
  · have hP5 := hP3.2 c
    clear hP3
    refine bz_aload_n (pc := 19) dX12_nightRider_19 rfl rfl ?_
    refine bz_iload (pc := 20) dX12_nightRider_20 rfl ?_
    refine bz_iconst (pc := 22) dX12_nightRider_22 ci_0 ?_
    refine bz_kIV (as := [.inl x5, .inl 0]) (st := []) (ci := 12) (n := 2) (mc := 0) (ms := 0) (bc := bc) (bs := bs) (yc := kX12_ofRider) (q := (RX12, TX12, 34)) (b := a0) (pc := 23) dX12_nightRider_23 sc_X12_ofRider ml_X12_136 im_X12_ofRider se_X12_ofRider rfl rfl rfl (Nat.le_of_ble_eq_true rfl) hP5 (fun x_4 h_5 hP6 => ?_)
    clear hP5
    refine bz_s_istore (pc := 26) dX12_nightRider_26 (Nat.le_of_ble_eq_true rfl) [some (.inr (some a0)), some (.inl x1), some (.inl x2), some (.inl x3), some (.inl x4), some (.inl x5), some (.inl x_4), u7] rfl ?_
    refine bz_aload_n (pc := 28) dX12_nightRider_28 rfl rfl ?_
    refine bz_iload (pc := 29) dX12_nightRider_29 rfl ?_
    refine bz_iconst (pc := 31) dX12_nightRider_31 ci_5 ?_
    refine bz_kIV (as := [.inl x5, .inl 5]) (st := []) (ci := 12) (n := 2) (mc := 0) (ms := 0) (bc := bc) (bs := bs) (yc := kX12_ofRider) (q := (RX12, TX12, 34)) (b := a0) (pc := 32) dX12_nightRider_32 sc_X12_ofRider ml_X12_136 im_X12_ofRider se_X12_ofRider rfl rfl rfl (Nat.le_of_ble_eq_true rfl) hP6 (fun x_6 h_7 hP7 => ?_)
    clear hP6
    refine bz_aload_n (pc := 35) dX12_nightRider_35 rfl rfl ?_
    refine bz_iload_n (pc := 36) dX12_nightRider_36 rfl rfl ?_
    refine bz_iconst (pc := 37) dX12_nightRider_37 ci_2 ?_
    refine bz_kIV (as := [.inl x2, .inl 2]) (st := [.inl x_6]) (ci := 12) (n := 2) (mc := 0) (ms := 0) (bc := bc) (bs := bs) (yc := kX12_ofOrder) (q := (RX12, TX12, 34)) (b := a0) (pc := 38) dX12_nightRider_38 sc_X12_ofOrder ml_X12_99 im_X12_ofOrder se_X12_ofOrder rfl rfl rfl (Nat.le_of_ble_eq_true rfl) hP7 (fun x_8 h_9 hP8 => ?_)
    clear hP7
    refine bz_icmp_gt (tgt := 154) (pc := 41) dX12_nightRider_41 rfl (fun c => ?_) (fun c => ?_)
    · have hP9 := hP8.1 c
      clear hP8
      refine bz_s_iinc (pc := 154) dX12_nightRider_154 (Nat.le_of_ble_eq_true rfl) rfl rfl [some (.inr (some a0)), some (.inl x1), some (.inl x2), some (.inl x3), some (.inl x4), some (.inl (x5 + 1)), some (.inl x_4), u7] rfl ?_
      refine bz_goto (tgt := 8) (pc := 157) dX12_nightRider_157 rfl ?_
      exact hP9
    · have hP10 := hP8.2 c
      clear hP8
      refine bz_aload_n (pc := 44) dX12_nightRider_44 rfl rfl ?_
      refine bz_iload (pc := 45) dX12_nightRider_45 rfl ?_
      refine bz_iload_n (pc := 47) dX12_nightRider_47 rfl rfl ?_
      refine bz_kIV (as := [.inl x5, .inl x2]) (st := []) (ci := 12) (n := 2) (mc := 0) (ms := 0) (bc := bc) (bs := bs) (yc := kX12_nightTrip) (q := (RX12, TX12, 34)) (b := a0) (pc := 48) dX12_nightRider_48 sc_X12_nightTrip ml_X12_320 im_X12_nightTrip se_X12_nightTrip rfl rfl rfl (Nat.le_of_ble_eq_true rfl) hP10 (fun x_10 h_11 hP11 => ?_)
      clear hP10
      refine bz_if_ne (tgt := 57) (pc := 51) dX12_nightRider_51 rfl (fun c => ?_) (fun c => ?_)
      · have hP12 := hP11.1 c
        clear hP11
        refine bz_aload_n (pc := 57) dX12_nightRider_57 rfl rfl ?_
        refine bz_iload (pc := 58) dX12_nightRider_58 rfl ?_
        refine bz_aload_n (pc := 60) dX12_nightRider_60 rfl rfl ?_
        refine bz_rw_rR (pc := 61) dX12_nightRider_61 fl_X12_40 hP12 (fun r_12 hP13 => ?_)
        clear hP12
        refine bz_iload (pc := 64) dX12_nightRider_64 rfl ?_
        obtain ⟨a_13, rfl, hP14⟩ := hP13
        refine bz_rw_rA (pc := 66) dX12_nightRider_66 hP14 (fun x_14 hP15 => ?_)
        clear hP14
        refine bz_iload_n (pc := 67) dX12_nightRider_67 rfl rfl ?_
        refine bz_kVV (as := [.inl x_4, .inl x_14, .inl x2]) (st := []) (ci := 12) (n := 3) (mc := 0) (ms := 0) (bc := bc) (bs := bs) (yc := kX12_nameWays) (q := (RX12, TX12, 34)) (b := a0) (pc := 68) dX12_nightRider_68 sc_X12_nameWays ml_X12_215 im_X12_nameWays se_X12_nameWays rfl rfl rfl (Nat.le_of_ble_eq_true rfl) hP15 (fun h_16 hP16 => ?_)
        clear hP15
        refine bz_aload_n (pc := 71) dX12_nightRider_71 rfl rfl ?_
        refine bz_rw_rR (pc := 72) dX12_nightRider_72 fl_X12_34 hP16 (fun r_17 hP17 => ?_)
        clear hP16
        refine bz_bipush (pc := 75) dX12_nightRider_75 cb_119 ?_
        refine bz_iconst (pc := 77) dX12_nightRider_77 ci_0 ?_
        obtain ⟨a_18, rfl, hP18⟩ := hP17
        refine bz_rw_wA (pc := 78) dX12_nightRider_78 hP18 (fun h_19 hP19 => ?_)
        clear hP18
        refine bz_aload_n (pc := 79) dX12_nightRider_79 rfl rfl ?_
        refine bz_rw_rR (pc := 80) dX12_nightRider_80 fl_X12_34 hP19 (fun r_20 hP20 => ?_)
        clear hP19
        refine bz_bipush (pc := 83) dX12_nightRider_83 cb_104 ?_
        refine bz_aload_n (pc := 85) dX12_nightRider_85 rfl rfl ?_
        refine bz_rw_rR (pc := 86) dX12_nightRider_86 fl_X12_46 hP20 (fun r_21 hP21 => ?_)
        clear hP20
        refine bz_iload (pc := 89) dX12_nightRider_89 rfl ?_
        obtain ⟨a_22, rfl, hP22⟩ := hP21
        refine bz_rw_rA (pc := 91) dX12_nightRider_91 hP22 (fun x_23 hP23 => ?_)
        clear hP22
        obtain ⟨a_24, rfl, hP24⟩ := hP23
        refine bz_rw_wA (pc := 92) dX12_nightRider_92 hP24 (fun h_25 hP25 => ?_)
        clear hP24
        refine bz_aload_n (pc := 93) dX12_nightRider_93 rfl rfl ?_
        refine bz_rw_rR (pc := 94) dX12_nightRider_94 fl_X12_34 hP25 (fun r_26 hP26 => ?_)
        clear hP25
        refine bz_bipush (pc := 97) dX12_nightRider_97 cb_114 ?_
        refine bz_bipush (pc := 99) dX12_nightRider_99 cb_25 ?_
        obtain ⟨a_27, rfl, hP27⟩ := hP26
        refine bz_rw_wA (pc := 101) dX12_nightRider_101 hP27 (fun h_28 hP28 => ?_)
        clear hP27
        refine bz_aload_n (pc := 102) dX12_nightRider_102 rfl rfl ?_
        refine bz_rw_rR (pc := 103) dX12_nightRider_103 fl_X12_34 hP28 (fun r_29 hP29 => ?_)
        clear hP28
        refine bz_bipush (pc := 106) dX12_nightRider_106 cb_108 ?_
        refine bz_aload_n (pc := 108) dX12_nightRider_108 rfl rfl ?_
        refine bz_iload_n (pc := 109) dX12_nightRider_109 rfl rfl ?_
        refine bz_aload_n (pc := 110) dX12_nightRider_110 rfl rfl ?_
        refine bz_rw_rR (pc := 111) dX12_nightRider_111 fl_X12_25 hP29 (fun r_30 hP30 => ?_)
        clear hP29
        refine bz_iconst (pc := 114) dX12_nightRider_114 ci_0 ?_
        obtain ⟨a_31, rfl, hP31⟩ := hP30
        refine bz_rw_rA (pc := 115) dX12_nightRider_115 hP31 (fun x_32 hP32 => ?_)
        clear hP31
        refine bz_kIV (as := [.inl x2, .inl x_32]) (st := [.inl 108, .inr r_29]) (ci := 12) (n := 2) (mc := 0) (ms := 0) (bc := bc) (bs := bs) (yc := kX12_lateBy) (q := (RX12, TX12, 34)) (b := a0) (pc := 116) dX12_nightRider_116 sc_X12_lateBy ml_X12_102 im_X12_lateBy se_X12_lateBy rfl rfl rfl (Nat.le_of_ble_eq_true rfl) hP32 (fun x_33 h_34 hP33 => ?_)
        clear hP32
        obtain ⟨a_35, rfl, hP34⟩ := hP33
        refine bz_rw_wA (pc := 119) dX12_nightRider_119 hP34 (fun h_36 hP35 => ?_)
        clear hP34
        refine bz_aload_n (pc := 120) dX12_nightRider_120 rfl rfl ?_
        refine bz_rw_rR (pc := 121) dX12_nightRider_121 fl_X12_34 hP35 (fun r_37 hP36 => ?_)
        clear hP35
        refine bz_bipush (pc := 124) dX12_nightRider_124 cb_110 ?_
        refine bz_iload (pc := 126) dX12_nightRider_126 rfl ?_
        obtain ⟨a_38, rfl, hP37⟩ := hP36
        refine bz_rw_wA (pc := 128) dX12_nightRider_128 hP37 (fun h_39 hP38 => ?_)
        clear hP37
        refine bz_aload_n (pc := 129) dX12_nightRider_129 rfl rfl ?_
        refine bz_iload_n (pc := 130) dX12_nightRider_130 rfl rfl ?_
        refine bz_kIV (as := [.inl x1]) (st := []) (ci := 12) (n := 1) (mc := 0) (ms := 0) (bc := bc) (bs := bs) (yc := kX12_works) (q := (RX12, TX12, 34)) (b := a0) (pc := 131) dX12_nightRider_131 sc_X12_works ml_X12_218 im_X12_works se_X12_works rfl rfl rfl (Nat.le_of_ble_eq_true rfl) hP38 (fun x_40 h_41 hP39 => ?_)
        clear hP38
        refine bz_s_istore (pc := 134) dX12_nightRider_134 (Nat.le_of_ble_eq_true rfl) [some (.inr (some a0)), some (.inl x1), some (.inl x2), some (.inl x3), some (.inl x4), some (.inl x5), some (.inl x_4), some (.inl x_40)] rfl ?_
        refine bz_iload_n (pc := 136) dX12_nightRider_136 rfl rfl ?_
        refine bz_if_lt (tgt := 147) (pc := 137) dX12_nightRider_137 rfl (fun c => ?_) (fun c => ?_)
        · have hP40 := hP39.1 c
          clear hP39
          refine bz_iload (pc := 147) dX12_nightRider_147 rfl ?_
          refine bz_s_istore_n (pc := 149) dX12_nightRider_149 rfl (Nat.le_of_ble_eq_true rfl) [some (.inr (some a0)), some (.inl x1), some (.inl x2), some (.inl x5), some (.inl x4), some (.inl x5), some (.inl x_4), some (.inl x_40)] rfl ?_
          refine bz_iload (pc := 150) dX12_nightRider_150 rfl ?_
          refine bz_s_istore (pc := 152) dX12_nightRider_152 (Nat.le_of_ble_eq_true rfl) [some (.inr (some a0)), some (.inl x1), some (.inl x2), some (.inl x5), some (.inl x_40), some (.inl x5), some (.inl x_4), some (.inl x_40)] rfl ?_
          refine bz_s_iinc (pc := 154) dX12_nightRider_154 (Nat.le_of_ble_eq_true rfl) rfl rfl [some (.inr (some a0)), some (.inl x1), some (.inl x2), some (.inl x5), some (.inl x_40), some (.inl (x5 + 1)), some (.inl x_4), some (.inl x_40)] rfl ?_
          refine bz_goto (tgt := 8) (pc := 157) dX12_nightRider_157 rfl ?_
          exact hP40
        · have hP41 := hP39.2 c
          clear hP39
          refine bz_iload (pc := 140) dX12_nightRider_140 rfl ?_
          refine bz_iload (pc := 142) dX12_nightRider_142 rfl ?_
          refine bz_icmp_le (tgt := 154) (pc := 144) dX12_nightRider_144 rfl (fun c => ?_) (fun c => ?_)
          · have hP42 := hP41.1 c
            clear hP41
            refine bz_s_iinc (pc := 154) dX12_nightRider_154 (Nat.le_of_ble_eq_true rfl) rfl rfl [some (.inr (some a0)), some (.inl x1), some (.inl x2), some (.inl x3), some (.inl x4), some (.inl (x5 + 1)), some (.inl x_4), some (.inl x_40)] rfl ?_
            refine bz_goto (tgt := 8) (pc := 157) dX12_nightRider_157 rfl ?_
            exact hP42
          · have hP43 := hP41.2 c
            clear hP41
            refine bz_iload (pc := 147) dX12_nightRider_147 rfl ?_
            refine bz_s_istore_n (pc := 149) dX12_nightRider_149 rfl (Nat.le_of_ble_eq_true rfl) [some (.inr (some a0)), some (.inl x1), some (.inl x2), some (.inl x5), some (.inl x4), some (.inl x5), some (.inl x_4), some (.inl x_40)] rfl ?_
            refine bz_iload (pc := 150) dX12_nightRider_150 rfl ?_
            refine bz_s_istore (pc := 152) dX12_nightRider_152 (Nat.le_of_ble_eq_true rfl) [some (.inr (some a0)), some (.inl x1), some (.inl x2), some (.inl x5), some (.inl x_40), some (.inl x5), some (.inl x_4), some (.inl x_40)] rfl ?_
            refine bz_s_iinc (pc := 154) dX12_nightRider_154 (Nat.le_of_ble_eq_true rfl) rfl rfl [some (.inr (some a0)), some (.inl x1), some (.inl x2), some (.inl x5), some (.inl x_40), some (.inl (x5 + 1)), some (.inl x_4), some (.inl x_40)] rfl ?_
            refine bz_goto (tgt := 8) (pc := 157) dX12_nightRider_157 rfl ?_
            exact hP43
      · have hP44 := hP11.2 c
        clear hP11
        refine bz_goto (tgt := 154) (pc := 54) dX12_nightRider_54 rfl ?_
        refine bz_s_iinc (pc := 154) dX12_nightRider_154 (Nat.le_of_ble_eq_true rfl) rfl rfl [some (.inr (some a0)), some (.inl x1), some (.inl x2), some (.inl x3), some (.inl x4), some (.inl (x5 + 1)), some (.inl x_4), u7] rfl ?_
        refine bz_goto (tgt := 8) (pc := 157) dX12_nightRider_157 rfl ?_
        exact hP44
theorem m_X12_nightRider {G : bz_G} {l : Launch} {d mc ms : Nat} {F : Option bz_V → bz_H → Prop} (a0 : Nat) (x1 : Int32) (x2 : Int32) (h : bz_H) (hP : ∀ (κ : bz_K) (bc bs : Nat), κ.2.1 = l → w_X12_nightRider_0 G κ l d F bc bs a0 x1 x2 h) : bz_Call G l (d + 1) kX12_nightRider [.inr (some a0), .inl x1, .inl x2] h mc ms F :=
  bz_body (by decide) (Nat.le_of_ble_eq_true rfl) (fun κ hl => g_X12_nightRider_0 hl a0 x1 x2 h (hP κ mc ms hl))
def w_X12_nightTrip_0 (G : bz_G) (l : Launch) (d : Nat) (F : Option bz_V → bz_H → Prop) (a0 : Nat) (x1 : Int32) (x2 : Int32) (h : bz_H) : Prop := bz_rc h a0 12 (bz_cI G l d kX12_ofOrder [.inr (some a0), .inl x2, .inl 2] h 0 0 (fun x_1 h_2 => bz_rc h_2 a0 12 (bz_cI G l d kX12_ofRider [.inr (some a0), .inl x1, .inl 0] h_2 0 0 (fun x_3 h_4 => bz_rR h_4 a0 12 24 (fun r_5 => bz_nn r_5 (fun a_6 => bz_rA h_4 a_6 x1 (fun x_7 => bz_rR h_4 a0 12 25 (fun r_8 => bz_nn r_8 (fun a_9 => bz_rA h_4 a_9 x1 (fun x_10 => (x_10 ≤ x_1 → bz_rc h_4 a0 12 (bz_cI G l d kX12_tripFrom [.inr (some a0), .inl x_3, .inl x_7, .inl x_1, .inl x2] h_4 0 0 (fun x_11 h_12 => bz_b x_11 (F (some (.inl x_11)) h_12)))) ∧ (¬ (x_10 ≤ x_1) → bz_rR h_4 a0 12 25 (fun r_13 => bz_nn r_13 (fun a_14 => bz_rA h_4 a_14 x1 (fun x_15 => bz_rc h_4 a0 12 (bz_cI G l d kX12_tripFrom [.inr (some a0), .inl x_3, .inl x_7, .inl x_15, .inl x2] h_4 0 0 (fun x_16 h_17 => bz_b x_16 (F (some (.inl x_16)) h_17)))))))))))))))))
set_option maxRecDepth 20000 in
set_option maxHeartbeats 4000000 in
theorem g_X12_nightTrip_0 {G : bz_G} {κ : bz_K} {l : Launch} {d : Nat} {F : Option bz_V → bz_H → Prop} {bc bs : Nat} (hl : κ.2.1 = l) (a0 : Nat) (x1 : Int32) (x2 : Int32) (h : bz_H) (hP0 : w_X12_nightTrip_0 G l d F a0 x1 x2 h) : bz_J G κ kX12_nightTrip (d + 1) F bc bs 0 [some (.inr (some a0)), some (.inl x1), some (.inl x2), none] [] h := by
  subst hl
  unfold w_X12_nightTrip_0 at hP0
  refine bz_aload_n (pc := 0) dX12_nightTrip_0 rfl rfl ?_
  refine bz_iload_n (pc := 1) dX12_nightTrip_1 rfl rfl ?_
  refine bz_iconst (pc := 2) dX12_nightTrip_2 ci_2 ?_
  refine bz_kIV (as := [.inl x2, .inl 2]) (st := []) (ci := 12) (n := 2) (mc := 0) (ms := 0) (bc := bc) (bs := bs) (yc := kX12_ofOrder) (q := (RX12, TX12, 34)) (b := a0) (pc := 3) dX12_nightTrip_3 sc_X12_ofOrder ml_X12_99 im_X12_ofOrder se_X12_ofOrder rfl rfl rfl (Nat.le_of_ble_eq_true rfl) hP0 (fun x_1 h_2 hP1 => ?_)
  clear hP0
  refine bz_s_istore_n (pc := 6) dX12_nightTrip_6 rfl (Nat.le_of_ble_eq_true rfl) [some (.inr (some a0)), some (.inl x1), some (.inl x2), some (.inl x_1)] rfl ?_
  refine bz_aload_n (pc := 7) dX12_nightTrip_7 rfl rfl ?_
  refine bz_aload_n (pc := 8) dX12_nightTrip_8 rfl rfl ?_
  refine bz_iload_n (pc := 9) dX12_nightTrip_9 rfl rfl ?_
  refine bz_iconst (pc := 10) dX12_nightTrip_10 ci_0 ?_
  refine bz_kIV (as := [.inl x1, .inl 0]) (st := [.inr (some a0)]) (ci := 12) (n := 2) (mc := 0) (ms := 0) (bc := bc) (bs := bs) (yc := kX12_ofRider) (q := (RX12, TX12, 34)) (b := a0) (pc := 11) dX12_nightTrip_11 sc_X12_ofRider ml_X12_136 im_X12_ofRider se_X12_ofRider rfl rfl rfl (Nat.le_of_ble_eq_true rfl) hP1 (fun x_3 h_4 hP2 => ?_)
  clear hP1
  refine bz_aload_n (pc := 14) dX12_nightTrip_14 rfl rfl ?_
  refine bz_rw_rR (pc := 15) dX12_nightTrip_15 fl_X12_40 hP2 (fun r_5 hP3 => ?_)
  clear hP2
  refine bz_iload_n (pc := 18) dX12_nightTrip_18 rfl rfl ?_
  obtain ⟨a_6, rfl, hP4⟩ := hP3
  refine bz_rw_rA (pc := 19) dX12_nightTrip_19 hP4 (fun x_7 hP5 => ?_)
  clear hP4
  refine bz_aload_n (pc := 20) dX12_nightTrip_20 rfl rfl ?_
  refine bz_rw_rR (pc := 21) dX12_nightTrip_21 fl_X12_43 hP5 (fun r_8 hP6 => ?_)
  clear hP5
  refine bz_iload_n (pc := 24) dX12_nightTrip_24 rfl rfl ?_
  obtain ⟨a_9, rfl, hP7⟩ := hP6
  refine bz_rw_rA (pc := 25) dX12_nightTrip_25 hP7 (fun x_10 hP8 => ?_)
  clear hP7
  refine bz_iload_n (pc := 26) dX12_nightTrip_26 rfl rfl ?_
  refine bz_icmp_le (tgt := 39) (pc := 27) dX12_nightTrip_27 rfl (fun c => ?_) (fun c => ?_)
  · have hP9 := hP8.1 c
    clear hP8
    refine bz_iload_n (pc := 39) dX12_nightTrip_39 rfl rfl ?_
    refine bz_iload_n (pc := 40) dX12_nightTrip_40 rfl rfl ?_
    refine bz_kIV (as := [.inl x_3, .inl x_7, .inl x_1, .inl x2]) (st := []) (ci := 12) (n := 4) (mc := 0) (ms := 0) (bc := bc) (bs := bs) (yc := kX12_tripFrom) (q := (RX12, TX12, 34)) (b := a0) (pc := 41) dX12_nightTrip_41 sc_X12_tripFrom ml_X12_190 im_X12_tripFrom se_X12_tripFrom rfl rfl rfl (Nat.le_of_ble_eq_true rfl) hP9 (fun x_11 h_12 hP10 => ?_)
    clear hP9
    obtain ⟨hb, hP11⟩ := hP10
    exact bz_retI (pc := 44) dX12_nightTrip_44 rfl (by rcases hb with hb | hb <;> rw [hb] <;> rfl) hP11
  · have hP12 := hP8.2 c
    clear hP8
    refine bz_aload_n (pc := 30) dX12_nightTrip_30 rfl rfl ?_
    refine bz_rw_rR (pc := 31) dX12_nightTrip_31 fl_X12_43 hP12 (fun r_13 hP13 => ?_)
    clear hP12
    refine bz_iload_n (pc := 34) dX12_nightTrip_34 rfl rfl ?_
    obtain ⟨a_14, rfl, hP14⟩ := hP13
    refine bz_rw_rA (pc := 35) dX12_nightTrip_35 hP14 (fun x_15 hP15 => ?_)
    clear hP14
    refine bz_goto (tgt := 40) (pc := 36) dX12_nightTrip_36 rfl ?_
    refine bz_iload_n (pc := 40) dX12_nightTrip_40 rfl rfl ?_
    refine bz_kIV (as := [.inl x_3, .inl x_7, .inl x_15, .inl x2]) (st := []) (ci := 12) (n := 4) (mc := 0) (ms := 0) (bc := bc) (bs := bs) (yc := kX12_tripFrom) (q := (RX12, TX12, 34)) (b := a0) (pc := 41) dX12_nightTrip_41 sc_X12_tripFrom ml_X12_190 im_X12_tripFrom se_X12_tripFrom rfl rfl rfl (Nat.le_of_ble_eq_true rfl) hP15 (fun x_16 h_17 hP16 => ?_)
    clear hP15
    obtain ⟨hb, hP17⟩ := hP16
    exact bz_retI (pc := 44) dX12_nightTrip_44 rfl (by rcases hb with hb | hb <;> rw [hb] <;> rfl) hP17
theorem m_X12_nightTrip {G : bz_G} {l : Launch} {d mc ms : Nat} {F : Option bz_V → bz_H → Prop} (a0 : Nat) (x1 : Int32) (x2 : Int32) (h : bz_H) (hP : w_X12_nightTrip_0 G l d F a0 x1 x2 h) : bz_Call G l (d + 1) kX12_nightTrip [.inr (some a0), .inl x1, .inl x2] h mc ms F :=
  bz_body (by decide) (Nat.le_of_ble_eq_true rfl) (fun κ hl => g_X12_nightTrip_0 hl a0 x1 x2 h hP)
def w_X12_night_0 (G : bz_G) (κ : bz_K) (l : Launch) (d : Nat) (F : Option bz_V → bz_H → Prop) (bc bs : Nat) (a0 : Nat) (x1 : Int32) (x2 : Int32) (h : bz_H) : Prop := bz_rc h a0 12 (bz_cI G l d kX12_isText [.inr (some a0), .inl x1] h 0 0 (fun x_1 h_2 => (x_1 = 0 → bz_rc h_2 a0 12 (bz_cI G l d kX12_finding [.inr (some a0), .inl 0] h_2 0 0 (fun x_3 h_4 => F (some (.inl x_3)) h_4))) ∧ (¬ (x_1 = 0) → bz_cI G l d kX12_in [.inl x2, .inl 0, .inl 4] h_2 0 0 (fun x_5 h_6 => (¬ x_5 = 0 → bz_rc h_6 a0 12 (bz_cV G l d kX12_goesNight [.inr (some a0), .inl x1] h_6 0 0 (fun h_8 => bz_rR h_8 a0 12 0 (fun r_9 => bz_nn r_9 (fun a_10 => bz_rA h_8 a_10 3 (fun x_11 => bz_J G κ kX12_night (d + 1) F bc bs 53 [some (.inr (some a0)), some (.inl x1), some (.inl x2), some (.inl 0), some (.inl 0), some (.inl (if x_11 = 0 then 0 else 24)), some (.inl 0)] [] h_8)))))) ∧ (x_5 = 0 → bz_rc h_6 a0 12 (bz_cI G l d kX12_finding [.inr (some a0), .inl 0] h_6 0 0 (fun x_12 h_13 => F (some (.inl x_12)) h_13)))))))
set_option maxRecDepth 20000 in
set_option maxHeartbeats 4000000 in
theorem g_X12_night_0 {G : bz_G} {κ : bz_K} {l : Launch} {d : Nat} {F : Option bz_V → bz_H → Prop} {bc bs : Nat} (hl : κ.2.1 = l) (a0 : Nat) (x1 : Int32) (x2 : Int32) (h : bz_H) (hP0 : w_X12_night_0 G κ l d F bc bs a0 x1 x2 h) : bz_J G κ kX12_night (d + 1) F bc bs 0 [some (.inr (some a0)), some (.inl x1), some (.inl x2), none, none, none, none] [] h := by
  subst hl
  unfold w_X12_night_0 at hP0
  refine bz_aload_n (pc := 0) dX12_night_0 rfl rfl ?_
  refine bz_iload_n (pc := 1) dX12_night_1 rfl rfl ?_
  refine bz_kIV (as := [.inl x1]) (st := []) (ci := 12) (n := 1) (mc := 0) (ms := 0) (bc := bc) (bs := bs) (yc := kX12_isText) (q := (RX12, TX12, 34)) (b := a0) (pc := 2) dX12_night_2 sc_X12_isText ml_X12_296 im_X12_isText se_X12_isText rfl rfl rfl (Nat.le_of_ble_eq_true rfl) hP0 (fun x_1 h_2 hP1 => ?_)
  clear hP0
  refine bz_if_eq (tgt := 17) (pc := 5) dX12_night_5 rfl (fun c => ?_) (fun c => ?_)
  · have hP2 := hP1.1 c
    clear hP1
    refine bz_aload_n (pc := 17) dX12_night_17 rfl rfl ?_
    refine bz_iconst (pc := 18) dX12_night_18 ci_0 ?_
    refine bz_kIV (as := [.inl 0]) (st := []) (ci := 12) (n := 1) (mc := 0) (ms := 0) (bc := bc) (bs := bs) (yc := kX12_finding) (q := (RX12, TX12, 34)) (b := a0) (pc := 19) dX12_night_19 sc_X12_finding ml_X12_73 im_X12_finding se_X12_finding rfl rfl rfl (Nat.le_of_ble_eq_true rfl) hP2 (fun x_3 h_4 hP3 => ?_)
    clear hP2
    exact bz_retI (pc := 22) dX12_night_22 rfl rfl hP3
  · have hP4 := hP1.2 c
    clear hP1
    refine bz_iload_n (pc := 8) dX12_night_8 rfl rfl ?_
    refine bz_iconst (pc := 9) dX12_night_9 ci_0 ?_
    refine bz_iconst (pc := 10) dX12_night_10 ci_4 ?_
    refine bz_kIS (as := [.inl x2, .inl 0, .inl 4]) (st := []) (n := 3) (mc := 0) (ms := 0) (bc := bc) (bs := bs) (yc := kX12_in) (pc := 11) dX12_night_11 sc_X12_in ml_X12_65 ss_X12_in rfl (Nat.le_of_ble_eq_true rfl) hP4 (fun x_5 h_6 hP5 => ?_)
    clear hP4
    refine bz_if_ne (tgt := 23) (pc := 14) dX12_night_14 rfl (fun c => ?_) (fun c => ?_)
    · have hP6 := hP5.1 c
      clear hP5
      refine bz_aload_n (pc := 23) dX12_night_23 rfl rfl ?_
      refine bz_iload_n (pc := 24) dX12_night_24 rfl rfl ?_
      refine bz_kVV (as := [.inl x1]) (st := []) (ci := 12) (n := 1) (mc := 0) (ms := 0) (bc := bc) (bs := bs) (yc := kX12_goesNight) (q := (RX12, TX12, 34)) (b := a0) (pc := 25) dX12_night_25 sc_X12_goesNight ml_X12_332 im_X12_goesNight se_X12_goesNight rfl rfl rfl (Nat.le_of_ble_eq_true rfl) hP6 (fun h_8 hP7 => ?_)
      clear hP6
      refine bz_iconst (pc := 28) dX12_night_28 ci_0 ?_
      refine bz_s_istore_n (pc := 29) dX12_night_29 rfl (Nat.le_of_ble_eq_true rfl) [some (.inr (some a0)), some (.inl x1), some (.inl x2), some (.inl 0), none, none, none] rfl ?_
      refine bz_iconst (pc := 30) dX12_night_30 ci_0 ?_
      refine bz_s_istore (pc := 31) dX12_night_31 (Nat.le_of_ble_eq_true rfl) [some (.inr (some a0)), some (.inl x1), some (.inl x2), some (.inl 0), some (.inl 0), none, none] rfl ?_
      refine bz_aload_n (pc := 33) dX12_night_33 rfl rfl ?_
      refine bz_rw_rR (pc := 34) dX12_night_34 fl_X12_7 hP7 (fun r_9 hP8 => ?_)
      clear hP7
      refine bz_iconst (pc := 37) dX12_night_37 ci_3 ?_
      obtain ⟨a_10, rfl, hP9⟩ := hP8
      refine bz_rw_rA (pc := 38) dX12_night_38 hP9 (fun x_11 hP10 => ?_)
      clear hP9
      have hJ : bz_J G κ kX12_night (d + 1) F bc bs 48 [some (.inr (some a0)), some (.inl x1), some (.inl x2), some (.inl 0), some (.inl 0), none, none] [.inl (if x_11 = 0 then 0 else 24)] h_8 := by
        refine bz_s_istore (pc := 48) dX12_night_48 (Nat.le_of_ble_eq_true rfl) [some (.inr (some a0)), some (.inl x1), some (.inl x2), some (.inl 0), some (.inl 0), some (.inl (if x_11 = 0 then 0 else 24)), none] rfl ?_
        refine bz_iconst (pc := 50) dX12_night_50 ci_0 ?_
        refine bz_s_istore (pc := 51) dX12_night_51 (Nat.le_of_ble_eq_true rfl) [some (.inr (some a0)), some (.inl x1), some (.inl x2), some (.inl 0), some (.inl 0), some (.inl (if x_11 = 0 then 0 else 24)), some (.inl 0)] rfl ?_
        exact hP10
      refine bz_if_ne (tgt := 46) (pc := 39) dX12_night_39 rfl (fun c => ?_) (fun c => ?_)
      · have e9 : ((if x_11 = 0 then 0 else 24) : Int32) = (24) := if_neg c
        rw [e9] at hJ
        refine bz_bipush (pc := 46) dX12_night_46 cb_24 ?_
        exact hJ
      · have e9 : ((if x_11 = 0 then 0 else 24) : Int32) = (0) := if_pos c
        rw [e9] at hJ
        refine bz_iconst (pc := 42) dX12_night_42 ci_0 ?_
        refine bz_goto (tgt := 48) (pc := 43) dX12_night_43 rfl ?_
        exact hJ
    · have hP11 := hP5.2 c
      clear hP5
      refine bz_aload_n (pc := 17) dX12_night_17 rfl rfl ?_
      refine bz_iconst (pc := 18) dX12_night_18 ci_0 ?_
      refine bz_kIV (as := [.inl 0]) (st := []) (ci := 12) (n := 1) (mc := 0) (ms := 0) (bc := bc) (bs := bs) (yc := kX12_finding) (q := (RX12, TX12, 34)) (b := a0) (pc := 19) dX12_night_19 sc_X12_finding ml_X12_73 im_X12_finding se_X12_finding rfl rfl rfl (Nat.le_of_ble_eq_true rfl) hP11 (fun x_12 h_13 hP12 => ?_)
      clear hP11
      exact bz_retI (pc := 22) dX12_night_22 rfl rfl hP12
def w_X12_night_53 (G : bz_G) (κ : bz_K) (l : Launch) (d : Nat) (F : Option bz_V → bz_H → Prop) (bc bs : Nat) (a0 : Nat) (x1 : Int32) (x2 : Int32) (x3 : Int32) (x4 : Int32) (x5 : Int32) (x6 : Int32) (h : bz_H) : Prop := bz_rR h a0 12 0 (fun r_14 => bz_nn r_14 (fun a_15 => bz_rA h a_15 3 (fun x_16 => (x_16 ≤ x6 → (¬ x2 = 0 → (¬ x2 = 1 → (¬ x2 = 2 → (¬ x2 = 3 → bz_rI h a0 12 29 (fun x_17 => F (some (.inl x_17)) h)) ∧ (x2 = 3 → F (some (.inl x5)) h)) ∧ (x2 = 2 → F (some (.inl x4)) h)) ∧ (x2 = 1 → bz_rI h a0 12 28 (fun x_18 => F (some (.inl x_18)) h))) ∧ (x2 = 0 → F (some (.inl x3)) h)) ∧ (¬ (x_16 ≤ x6) → bz_rR h a0 12 26 (fun r_19 => bz_nn r_19 (fun a_20 => bz_rA h a_20 x6 (fun x_21 => bz_rR h a0 12 26 (fun r_22 => bz_nn r_22 (fun a_23 => bz_rA h a_23 x6 (fun x_24 => (x_24 ≤ x4 → bz_rR h a0 12 26 (fun r_25 => bz_nn r_25 (fun a_26 => bz_rA h a_26 x6 (fun x_27 => (x5 ≤ x_27 → bz_J G κ kX12_night (d + 1) F bc bs 53 [some (.inr (some a0)), some (.inl x1), some (.inl x2), some (.inl (x3 + x_21)), some (.inl x4), some (.inl x5), some (.inl (x6 + 1))] [] h) ∧ (¬ (x5 ≤ x_27) → bz_rR h a0 12 26 (fun r_28 => bz_nn r_28 (fun a_29 => bz_rA h a_29 x6 (fun x_30 => bz_J G κ kX12_night (d + 1) F bc bs 53 [some (.inr (some a0)), some (.inl x1), some (.inl x2), some (.inl (x3 + x_21)), some (.inl x4), some (.inl x_30), some (.inl (x6 + 1))] [] h)))))))) ∧ (¬ (x_24 ≤ x4) → bz_rR h a0 12 26 (fun r_31 => bz_nn r_31 (fun a_32 => bz_rA h a_32 x6 (fun x_33 => bz_rR h a0 12 26 (fun r_34 => bz_nn r_34 (fun a_35 => bz_rA h a_35 x6 (fun x_36 => (x5 ≤ x_36 → bz_J G κ kX12_night (d + 1) F bc bs 53 [some (.inr (some a0)), some (.inl x1), some (.inl x2), some (.inl (x3 + x_21)), some (.inl x_33), some (.inl x5), some (.inl (x6 + 1))] [] h) ∧ (¬ (x5 ≤ x_36) → bz_rR h a0 12 26 (fun r_37 => bz_nn r_37 (fun a_38 => bz_rA h a_38 x6 (fun x_39 => bz_J G κ kX12_night (d + 1) F bc bs 53 [some (.inr (some a0)), some (.inl x1), some (.inl x2), some (.inl (x3 + x_21)), some (.inl x_33), some (.inl x_39), some (.inl (x6 + 1))] [] h)))))))))))))))))))))
set_option maxRecDepth 20000 in
set_option maxHeartbeats 4000000 in
theorem g_X12_night_53 {G : bz_G} {κ : bz_K} {l : Launch} {d : Nat} {F : Option bz_V → bz_H → Prop} {bc bs : Nat} (hl : κ.2.1 = l) (a0 : Nat) (x1 : Int32) (x2 : Int32) (x3 : Int32) (x4 : Int32) (x5 : Int32) (x6 : Int32) (h : bz_H) (hP0 : w_X12_night_53 G κ l d F bc bs a0 x1 x2 x3 x4 x5 x6 h) : bz_J G κ kX12_night (d + 1) F bc bs 53 [some (.inr (some a0)), some (.inl x1), some (.inl x2), some (.inl x3), some (.inl x4), some (.inl x5), some (.inl x6)] [] h := by
  subst hl
  unfold w_X12_night_53 at hP0
  refine bz_iload (pc := 53) dX12_night_53 rfl ?_
  refine bz_aload_n (pc := 55) dX12_night_55 rfl rfl ?_
  refine bz_rw_rR (pc := 56) dX12_night_56 fl_X12_7 hP0 (fun r_14 hP1 => ?_)
  clear hP0
  refine bz_iconst (pc := 59) dX12_night_59 ci_3 ?_
  obtain ⟨a_15, rfl, hP2⟩ := hP1
  refine bz_rw_rA (pc := 60) dX12_night_60 hP2 (fun x_16 hP3 => ?_)
  clear hP2
  refine bz_icmp_ge (tgt := 132) (pc := 61) dX12_night_61 rfl (fun c => ?_) (fun c => ?_)
  · have hP4 := hP3.1 c
    clear hP3
    refine bz_iload_n (pc := 132) dX12_night_132 rfl rfl ?_
    refine bz_if_ne (tgt := 140) (pc := 133) dX12_night_133 rfl (fun c => ?_) (fun c => ?_)
    · have hP5 := hP4.1 c
      clear hP4
      refine bz_iload_n (pc := 140) dX12_night_140 rfl rfl ?_
      refine bz_iconst (pc := 141) dX12_night_141 ci_1 ?_
      refine bz_icmp_ne (tgt := 152) (pc := 142) dX12_night_142 rfl (fun c => ?_) (fun c => ?_)
      · have hP6 := hP5.1 c
        clear hP5
        refine bz_iload_n (pc := 152) dX12_night_152 rfl rfl ?_
        refine bz_iconst (pc := 153) dX12_night_153 ci_2 ?_
        refine bz_icmp_ne (tgt := 162) (pc := 154) dX12_night_154 rfl (fun c => ?_) (fun c => ?_)
        · have hP7 := hP6.1 c
          clear hP6
          refine bz_iload_n (pc := 162) dX12_night_162 rfl rfl ?_
          refine bz_iconst (pc := 163) dX12_night_163 ci_3 ?_
          refine bz_icmp_ne (tgt := 172) (pc := 164) dX12_night_164 rfl (fun c => ?_) (fun c => ?_)
          · have hP8 := hP7.1 c
            clear hP7
            refine bz_aload_n (pc := 172) dX12_night_172 rfl rfl ?_
            refine bz_rw_rI (pc := 173) dX12_night_173 fl_X12_326 hP8 (fun x_17 hP9 => ?_)
            clear hP8
            exact bz_retI (pc := 176) dX12_night_176 rfl rfl hP9
          · have hP10 := hP7.2 c
            clear hP7
            refine bz_iload (pc := 167) dX12_night_167 rfl ?_
            refine bz_goto (tgt := 176) (pc := 169) dX12_night_169 rfl ?_
            exact bz_retI (pc := 176) dX12_night_176 rfl rfl hP10
        · have hP11 := hP6.2 c
          clear hP6
          refine bz_iload (pc := 157) dX12_night_157 rfl ?_
          refine bz_goto (tgt := 176) (pc := 159) dX12_night_159 rfl ?_
          exact bz_retI (pc := 176) dX12_night_176 rfl rfl hP11
      · have hP12 := hP5.2 c
        clear hP5
        refine bz_aload_n (pc := 145) dX12_night_145 rfl rfl ?_
        refine bz_rw_rI (pc := 146) dX12_night_146 fl_X12_323 hP12 (fun x_18 hP13 => ?_)
        clear hP12
        refine bz_goto (tgt := 176) (pc := 149) dX12_night_149 rfl ?_
        exact bz_retI (pc := 176) dX12_night_176 rfl rfl hP13
    · have hP14 := hP4.2 c
      clear hP4
      refine bz_iload_n (pc := 136) dX12_night_136 rfl rfl ?_
      refine bz_goto (tgt := 176) (pc := 137) dX12_night_137 rfl ?_
      exact bz_retI (pc := 176) dX12_night_176 rfl rfl hP14
  · have hP15 := hP3.2 c
    clear hP3
    refine bz_iload_n (pc := 64) dX12_night_64 rfl rfl ?_
    refine bz_aload_n (pc := 65) dX12_night_65 rfl rfl ?_
    refine bz_rw_rR (pc := 66) dX12_night_66 fl_X12_46 hP15 (fun r_19 hP16 => ?_)
    clear hP15
    refine bz_iload (pc := 69) dX12_night_69 rfl ?_
    obtain ⟨a_20, rfl, hP17⟩ := hP16
    refine bz_rw_rA (pc := 71) dX12_night_71 hP17 (fun x_21 hP18 => ?_)
    clear hP17
    refine bz_iadd (pc := 72) dX12_night_72 ?_
    refine bz_s_istore_n (pc := 73) dX12_night_73 rfl (Nat.le_of_ble_eq_true rfl) [some (.inr (some a0)), some (.inl x1), some (.inl x2), some (.inl (x3 + x_21)), some (.inl x4), some (.inl x5), some (.inl x6)] rfl ?_
    refine bz_aload_n (pc := 74) dX12_night_74 rfl rfl ?_
    refine bz_rw_rR (pc := 75) dX12_night_75 fl_X12_46 hP18 (fun r_22 hP19 => ?_)
    clear hP18
    refine bz_iload (pc := 78) dX12_night_78 rfl ?_
    obtain ⟨a_23, rfl, hP20⟩ := hP19
    refine bz_rw_rA (pc := 80) dX12_night_80 hP20 (fun x_24 hP21 => ?_)
    clear hP20
    refine bz_iload (pc := 81) dX12_night_81 rfl ?_
    refine bz_icmp_le (tgt := 96) (pc := 83) dX12_night_83 rfl (fun c => ?_) (fun c => ?_)
    · have hP22 := hP21.1 c
      clear hP21
      refine bz_iload (pc := 96) dX12_night_96 rfl ?_
      refine bz_s_istore (pc := 98) dX12_night_98 (Nat.le_of_ble_eq_true rfl) [some (.inr (some a0)), some (.inl x1), some (.inl x2), some (.inl (x3 + x_21)), some (.inl x4), some (.inl x5), some (.inl x6)] rfl ?_
      refine bz_aload_n (pc := 100) dX12_night_100 rfl rfl ?_
      refine bz_rw_rR (pc := 101) dX12_night_101 fl_X12_46 hP22 (fun r_25 hP23 => ?_)
      clear hP22
      refine bz_iload (pc := 104) dX12_night_104 rfl ?_
      obtain ⟨a_26, rfl, hP24⟩ := hP23
      refine bz_rw_rA (pc := 106) dX12_night_106 hP24 (fun x_27 hP25 => ?_)
      clear hP24
      refine bz_iload (pc := 107) dX12_night_107 rfl ?_
      refine bz_icmp_ge (tgt := 122) (pc := 109) dX12_night_109 rfl (fun c => ?_) (fun c => ?_)
      · have hP26 := hP25.1 c
        clear hP25
        refine bz_iload (pc := 122) dX12_night_122 rfl ?_
        refine bz_s_istore (pc := 124) dX12_night_124 (Nat.le_of_ble_eq_true rfl) [some (.inr (some a0)), some (.inl x1), some (.inl x2), some (.inl (x3 + x_21)), some (.inl x4), some (.inl x5), some (.inl x6)] rfl ?_
        refine bz_s_iinc (pc := 126) dX12_night_126 (Nat.le_of_ble_eq_true rfl) rfl rfl [some (.inr (some a0)), some (.inl x1), some (.inl x2), some (.inl (x3 + x_21)), some (.inl x4), some (.inl x5), some (.inl (x6 + 1))] rfl ?_
        refine bz_goto (tgt := 53) (pc := 129) dX12_night_129 rfl ?_
        exact hP26
      · have hP27 := hP25.2 c
        clear hP25
        refine bz_aload_n (pc := 112) dX12_night_112 rfl rfl ?_
        refine bz_rw_rR (pc := 113) dX12_night_113 fl_X12_46 hP27 (fun r_28 hP28 => ?_)
        clear hP27
        refine bz_iload (pc := 116) dX12_night_116 rfl ?_
        obtain ⟨a_29, rfl, hP29⟩ := hP28
        refine bz_rw_rA (pc := 118) dX12_night_118 hP29 (fun x_30 hP30 => ?_)
        clear hP29
        refine bz_goto (tgt := 124) (pc := 119) dX12_night_119 rfl ?_
        refine bz_s_istore (pc := 124) dX12_night_124 (Nat.le_of_ble_eq_true rfl) [some (.inr (some a0)), some (.inl x1), some (.inl x2), some (.inl (x3 + x_21)), some (.inl x4), some (.inl x_30), some (.inl x6)] rfl ?_
        refine bz_s_iinc (pc := 126) dX12_night_126 (Nat.le_of_ble_eq_true rfl) rfl rfl [some (.inr (some a0)), some (.inl x1), some (.inl x2), some (.inl (x3 + x_21)), some (.inl x4), some (.inl x_30), some (.inl (x6 + 1))] rfl ?_
        refine bz_goto (tgt := 53) (pc := 129) dX12_night_129 rfl ?_
        exact hP30
    · have hP31 := hP21.2 c
      clear hP21
      refine bz_aload_n (pc := 86) dX12_night_86 rfl rfl ?_
      refine bz_rw_rR (pc := 87) dX12_night_87 fl_X12_46 hP31 (fun r_31 hP32 => ?_)
      clear hP31
      refine bz_iload (pc := 90) dX12_night_90 rfl ?_
      obtain ⟨a_32, rfl, hP33⟩ := hP32
      refine bz_rw_rA (pc := 92) dX12_night_92 hP33 (fun x_33 hP34 => ?_)
      clear hP33
      refine bz_goto (tgt := 98) (pc := 93) dX12_night_93 rfl ?_
      refine bz_s_istore (pc := 98) dX12_night_98 (Nat.le_of_ble_eq_true rfl) [some (.inr (some a0)), some (.inl x1), some (.inl x2), some (.inl (x3 + x_21)), some (.inl x_33), some (.inl x5), some (.inl x6)] rfl ?_
      refine bz_aload_n (pc := 100) dX12_night_100 rfl rfl ?_
      refine bz_rw_rR (pc := 101) dX12_night_101 fl_X12_46 hP34 (fun r_34 hP35 => ?_)
      clear hP34
      refine bz_iload (pc := 104) dX12_night_104 rfl ?_
      obtain ⟨a_35, rfl, hP36⟩ := hP35
      refine bz_rw_rA (pc := 106) dX12_night_106 hP36 (fun x_36 hP37 => ?_)
      clear hP36
      refine bz_iload (pc := 107) dX12_night_107 rfl ?_
      refine bz_icmp_ge (tgt := 122) (pc := 109) dX12_night_109 rfl (fun c => ?_) (fun c => ?_)
      · have hP38 := hP37.1 c
        clear hP37
        refine bz_iload (pc := 122) dX12_night_122 rfl ?_
        refine bz_s_istore (pc := 124) dX12_night_124 (Nat.le_of_ble_eq_true rfl) [some (.inr (some a0)), some (.inl x1), some (.inl x2), some (.inl (x3 + x_21)), some (.inl x_33), some (.inl x5), some (.inl x6)] rfl ?_
        refine bz_s_iinc (pc := 126) dX12_night_126 (Nat.le_of_ble_eq_true rfl) rfl rfl [some (.inr (some a0)), some (.inl x1), some (.inl x2), some (.inl (x3 + x_21)), some (.inl x_33), some (.inl x5), some (.inl (x6 + 1))] rfl ?_
        refine bz_goto (tgt := 53) (pc := 129) dX12_night_129 rfl ?_
        exact hP38
      · have hP39 := hP37.2 c
        clear hP37
        refine bz_aload_n (pc := 112) dX12_night_112 rfl rfl ?_
        refine bz_rw_rR (pc := 113) dX12_night_113 fl_X12_46 hP39 (fun r_37 hP40 => ?_)
        clear hP39
        refine bz_iload (pc := 116) dX12_night_116 rfl ?_
        obtain ⟨a_38, rfl, hP41⟩ := hP40
        refine bz_rw_rA (pc := 118) dX12_night_118 hP41 (fun x_39 hP42 => ?_)
        clear hP41
        refine bz_goto (tgt := 124) (pc := 119) dX12_night_119 rfl ?_
        refine bz_s_istore (pc := 124) dX12_night_124 (Nat.le_of_ble_eq_true rfl) [some (.inr (some a0)), some (.inl x1), some (.inl x2), some (.inl (x3 + x_21)), some (.inl x_33), some (.inl x_39), some (.inl x6)] rfl ?_
        refine bz_s_iinc (pc := 126) dX12_night_126 (Nat.le_of_ble_eq_true rfl) rfl rfl [some (.inr (some a0)), some (.inl x1), some (.inl x2), some (.inl (x3 + x_21)), some (.inl x_33), some (.inl x_39), some (.inl (x6 + 1))] rfl ?_
        refine bz_goto (tgt := 53) (pc := 129) dX12_night_129 rfl ?_
        exact hP42
theorem m_X12_night {G : bz_G} {l : Launch} {d mc ms : Nat} {F : Option bz_V → bz_H → Prop} (a0 : Nat) (x1 : Int32) (x2 : Int32) (h : bz_H) (hP : ∀ (κ : bz_K) (bc bs : Nat), κ.2.1 = l → w_X12_night_0 G κ l d F bc bs a0 x1 x2 h) : bz_Call G l (d + 1) kX12_night [.inr (some a0), .inl x1, .inl x2] h mc ms F :=
  bz_body (by decide) (Nat.le_of_ble_eq_true rfl) (fun κ hl => g_X12_night_0 hl a0 x1 x2 h (hP κ mc ms hl))
def w_X12_ofOrder_0 (G : bz_G) (l : Launch) (d : Nat) (F : Option bz_V → bz_H → Prop) (a0 : Nat) (x1 : Int32) (x2 : Int32) (h : bz_H) : Prop := bz_rR h a0 12 0 (fun r_1 => bz_nn r_1 (fun a_2 => bz_rA h a_2 ((312 + (12 * x1)) + x2) (fun x_3 => F (some (.inl x_3)) h)))
set_option maxRecDepth 20000 in
set_option maxHeartbeats 4000000 in
theorem g_X12_ofOrder_0 {G : bz_G} {κ : bz_K} {l : Launch} {d : Nat} {F : Option bz_V → bz_H → Prop} {bc bs : Nat} (hl : κ.2.1 = l) (a0 : Nat) (x1 : Int32) (x2 : Int32) (h : bz_H) (hP0 : w_X12_ofOrder_0 G l d F a0 x1 x2 h) : bz_J G κ kX12_ofOrder (d + 1) F bc bs 0 [some (.inr (some a0)), some (.inl x1), some (.inl x2)] [] h := by
  subst hl
  unfold w_X12_ofOrder_0 at hP0
  refine bz_aload_n (pc := 0) dX12_ofOrder_0 rfl rfl ?_
  refine bz_rw_rR (pc := 1) dX12_ofOrder_1 fl_X12_7 hP0 (fun r_1 hP1 => ?_)
  clear hP0
  refine bz_sipush (pc := 4) dX12_ofOrder_4 cs_312 ?_
  refine bz_bipush (pc := 7) dX12_ofOrder_7 cb_12 ?_
  refine bz_iload_n (pc := 9) dX12_ofOrder_9 rfl rfl ?_
  refine bz_imul (pc := 10) dX12_ofOrder_10 ?_
  refine bz_iadd (pc := 11) dX12_ofOrder_11 ?_
  refine bz_iload_n (pc := 12) dX12_ofOrder_12 rfl rfl ?_
  refine bz_iadd (pc := 13) dX12_ofOrder_13 ?_
  obtain ⟨a_2, rfl, hP2⟩ := hP1
  refine bz_rw_rA (pc := 14) dX12_ofOrder_14 hP2 (fun x_3 hP3 => ?_)
  clear hP2
  exact bz_retI (pc := 15) dX12_ofOrder_15 rfl rfl hP3
theorem m_X12_ofOrder {G : bz_G} {l : Launch} {d mc ms : Nat} {F : Option bz_V → bz_H → Prop} (a0 : Nat) (x1 : Int32) (x2 : Int32) (h : bz_H) (hP : w_X12_ofOrder_0 G l d F a0 x1 x2 h) : bz_Call G l (d + 1) kX12_ofOrder [.inr (some a0), .inl x1, .inl x2] h mc ms F :=
  bz_body (by decide) (Nat.le_of_ble_eq_true rfl) (fun κ hl => g_X12_ofOrder_0 hl a0 x1 x2 h hP)
def w_X12_ofRider_0 (G : bz_G) (l : Launch) (d : Nat) (F : Option bz_V → bz_H → Prop) (a0 : Nat) (x1 : Int32) (x2 : Int32) (h : bz_H) : Prop := bz_rR h a0 12 0 (fun r_1 => bz_nn r_1 (fun a_2 => bz_rA h a_2 ((600 + (8 * x1)) + x2) (fun x_3 => F (some (.inl x_3)) h)))
set_option maxRecDepth 20000 in
set_option maxHeartbeats 4000000 in
theorem g_X12_ofRider_0 {G : bz_G} {κ : bz_K} {l : Launch} {d : Nat} {F : Option bz_V → bz_H → Prop} {bc bs : Nat} (hl : κ.2.1 = l) (a0 : Nat) (x1 : Int32) (x2 : Int32) (h : bz_H) (hP0 : w_X12_ofRider_0 G l d F a0 x1 x2 h) : bz_J G κ kX12_ofRider (d + 1) F bc bs 0 [some (.inr (some a0)), some (.inl x1), some (.inl x2)] [] h := by
  subst hl
  unfold w_X12_ofRider_0 at hP0
  refine bz_aload_n (pc := 0) dX12_ofRider_0 rfl rfl ?_
  refine bz_rw_rR (pc := 1) dX12_ofRider_1 fl_X12_7 hP0 (fun r_1 hP1 => ?_)
  clear hP0
  refine bz_sipush (pc := 4) dX12_ofRider_4 cs_600 ?_
  refine bz_bipush (pc := 7) dX12_ofRider_7 cb_8 ?_
  refine bz_iload_n (pc := 9) dX12_ofRider_9 rfl rfl ?_
  refine bz_imul (pc := 10) dX12_ofRider_10 ?_
  refine bz_iadd (pc := 11) dX12_ofRider_11 ?_
  refine bz_iload_n (pc := 12) dX12_ofRider_12 rfl rfl ?_
  refine bz_iadd (pc := 13) dX12_ofRider_13 ?_
  obtain ⟨a_2, rfl, hP2⟩ := hP1
  refine bz_rw_rA (pc := 14) dX12_ofRider_14 hP2 (fun x_3 hP3 => ?_)
  clear hP2
  exact bz_retI (pc := 15) dX12_ofRider_15 rfl rfl hP3
theorem m_X12_ofRider {G : bz_G} {l : Launch} {d mc ms : Nat} {F : Option bz_V → bz_H → Prop} (a0 : Nat) (x1 : Int32) (x2 : Int32) (h : bz_H) (hP : w_X12_ofRider_0 G l d F a0 x1 x2 h) : bz_Call G l (d + 1) kX12_ofRider [.inr (some a0), .inl x1, .inl x2] h mc ms F :=
  bz_body (by decide) (Nat.le_of_ble_eq_true rfl) (fun κ hl => g_X12_ofRider_0 hl a0 x1 x2 h hP)
def w_X12_offerAll_0 (G : bz_G) (κ : bz_K) (l : Launch) (d : Nat) (F : Option bz_V → bz_H → Prop) (bc bs : Nat) (a0 : Nat) (h : bz_H) : Prop := bz_rR h a0 12 0 (fun r_1 => bz_nn r_1 (fun a_2 => bz_rA h a_2 5 (fun x_3 => (0 ≤ x_3 → bz_J G κ kX12_offerAll (d + 1) F bc bs 19 [some (.inr (some a0)), some (.inl 0), some (.inl 0), none, none] [] h) ∧ (¬ (0 ≤ x_3) → bz_rc h a0 12 (bz_cI G l d kX12_finding [.inr (some a0), .inl 4] h 0 0 (fun x_4 h_5 => F (some (.inl x_4)) h_5))))))
set_option maxRecDepth 20000 in
set_option maxHeartbeats 4000000 in
theorem g_X12_offerAll_0 {G : bz_G} {κ : bz_K} {l : Launch} {d : Nat} {F : Option bz_V → bz_H → Prop} {bc bs : Nat} (hl : κ.2.1 = l) (a0 : Nat) (h : bz_H) (hP0 : w_X12_offerAll_0 G κ l d F bc bs a0 h) : bz_J G κ kX12_offerAll (d + 1) F bc bs 0 [some (.inr (some a0)), none, none, none, none] [] h := by
  subst hl
  unfold w_X12_offerAll_0 at hP0
  refine bz_aload_n (pc := 0) dX12_offerAll_0 rfl rfl ?_
  refine bz_rw_rR (pc := 1) dX12_offerAll_1 fl_X12_7 hP0 (fun r_1 hP1 => ?_)
  clear hP0
  refine bz_iconst (pc := 4) dX12_offerAll_4 ci_5 ?_
  obtain ⟨a_2, rfl, hP2⟩ := hP1
  refine bz_rw_rA (pc := 5) dX12_offerAll_5 hP2 (fun x_3 hP3 => ?_)
  clear hP2
  refine bz_if_ge (tgt := 15) (pc := 6) dX12_offerAll_6 rfl (fun c => ?_) (fun c => ?_)
  · have hP4 := hP3.1 c
    clear hP3
    refine bz_iconst (pc := 15) dX12_offerAll_15 ci_0 ?_
    refine bz_s_istore_n (pc := 16) dX12_offerAll_16 rfl (Nat.le_of_ble_eq_true rfl) [some (.inr (some a0)), some (.inl 0), none, none, none] rfl ?_
    refine bz_iconst (pc := 17) dX12_offerAll_17 ci_0 ?_
    refine bz_s_istore_n (pc := 18) dX12_offerAll_18 rfl (Nat.le_of_ble_eq_true rfl) [some (.inr (some a0)), some (.inl 0), some (.inl 0), none, none] rfl ?_
    exact hP4
  · have hP5 := hP3.2 c
    clear hP3
    refine bz_aload_n (pc := 9) dX12_offerAll_9 rfl rfl ?_
    refine bz_iconst (pc := 10) dX12_offerAll_10 ci_4 ?_
    refine bz_kIV (as := [.inl 4]) (st := []) (ci := 12) (n := 1) (mc := 0) (ms := 0) (bc := bc) (bs := bs) (yc := kX12_finding) (q := (RX12, TX12, 34)) (b := a0) (pc := 11) dX12_offerAll_11 sc_X12_finding ml_X12_73 im_X12_finding se_X12_finding rfl rfl rfl (Nat.le_of_ble_eq_true rfl) hP5 (fun x_4 h_5 hP6 => ?_)
    clear hP5
    exact bz_retI (pc := 14) dX12_offerAll_14 rfl rfl hP6
def w_X12_offerAll_19 (G : bz_G) (κ : bz_K) (l : Launch) (d : Nat) (F : Option bz_V → bz_H → Prop) (bc bs : Nat) (a0 : Nat) (x1 : Int32) (x2 : Int32) (u3 : Option bz_V) (u4 : Option bz_V) (h : bz_H) : Prop := bz_rR h a0 12 0 (fun r_6 => bz_nn r_6 (fun a_7 => bz_rA h a_7 2 (fun x_8 => (x_8 ≤ x2 → F (some (.inl x1)) h) ∧ (¬ (x_8 ≤ x2) → bz_rc h a0 12 (bz_cI G l d kX12_isWaiting [.inr (some a0), .inl x2] h 0 0 (fun x_9 h_10 => (x_9 = 0 → (((-1) : Int32) < 0 → bz_J G κ kX12_offerAll (d + 1) F bc bs 19 [some (.inr (some a0)), some (.inl x1), some (.inl (x2 + 1)), some (.inl (-1)), u4] [] h_10) ∧ (¬ (((-1) : Int32) < 0) → bz_rc h_10 a0 12 (bz_cI G l d kX12_tripNow [.inr (some a0), .inl (-1), .inl x2] h_10 0 0 (fun x_11 h_12 => (x_11 = 0 → bz_J G κ kX12_offerAll (d + 1) F bc bs 19 [some (.inr (some a0)), some (.inl x1), some (.inl (x2 + 1)), some (.inl (-1)), u4] [] h_12) ∧ (¬ (x_11 = 0) → bz_rc h_12 a0 12 (bz_cI G l d kX12_gives [.inr (some a0), .inl (-1), .inl x2] h_12 0 0 (fun x_13 h_14 => bz_J G κ kX12_offerAll (d + 1) F bc bs 19 [some (.inr (some a0)), some (.inl (x1 + 1)), some (.inl (x2 + 1)), some (.inl (-1)), some (.inl x_13)] [] h_14))))))) ∧ (¬ (x_9 = 0) → bz_rc h_10 a0 12 (bz_cI G l d kX12_offeredTo [.inr (some a0), .inl x2] h_10 0 0 (fun x_15 h_16 => (x_15 < 0 → bz_J G κ kX12_offerAll (d + 1) F bc bs 19 [some (.inr (some a0)), some (.inl x1), some (.inl (x2 + 1)), some (.inl x_15), u4] [] h_16) ∧ (¬ (x_15 < 0) → bz_rc h_16 a0 12 (bz_cI G l d kX12_tripNow [.inr (some a0), .inl x_15, .inl x2] h_16 0 0 (fun x_17 h_18 => (x_17 = 0 → bz_J G κ kX12_offerAll (d + 1) F bc bs 19 [some (.inr (some a0)), some (.inl x1), some (.inl (x2 + 1)), some (.inl x_15), u4] [] h_18) ∧ (¬ (x_17 = 0) → bz_rc h_18 a0 12 (bz_cI G l d kX12_gives [.inr (some a0), .inl x_15, .inl x2] h_18 0 0 (fun x_19 h_20 => bz_J G κ kX12_offerAll (d + 1) F bc bs 19 [some (.inr (some a0)), some (.inl (x1 + 1)), some (.inl (x2 + 1)), some (.inl x_15), some (.inl x_19)] [] h_20)))))))))))))))
set_option maxRecDepth 20000 in
set_option maxHeartbeats 4000000 in
theorem g_X12_offerAll_19 {G : bz_G} {κ : bz_K} {l : Launch} {d : Nat} {F : Option bz_V → bz_H → Prop} {bc bs : Nat} (hl : κ.2.1 = l) (a0 : Nat) (x1 : Int32) (x2 : Int32) (u3 : Option bz_V) (u4 : Option bz_V) (h : bz_H) (hP0 : w_X12_offerAll_19 G κ l d F bc bs a0 x1 x2 u3 u4 h) : bz_J G κ kX12_offerAll (d + 1) F bc bs 19 [some (.inr (some a0)), some (.inl x1), some (.inl x2), u3, u4] [] h := by
  subst hl
  unfold w_X12_offerAll_19 at hP0
  refine bz_iload_n (pc := 19) dX12_offerAll_19 rfl rfl ?_
  refine bz_aload_n (pc := 20) dX12_offerAll_20 rfl rfl ?_
  refine bz_rw_rR (pc := 21) dX12_offerAll_21 fl_X12_7 hP0 (fun r_6 hP1 => ?_)
  clear hP0
  refine bz_iconst (pc := 24) dX12_offerAll_24 ci_2 ?_
  obtain ⟨a_7, rfl, hP2⟩ := hP1
  refine bz_rw_rA (pc := 25) dX12_offerAll_25 hP2 (fun x_8 hP3 => ?_)
  clear hP2
  refine bz_icmp_ge (tgt := 77) (pc := 26) dX12_offerAll_26 rfl (fun c => ?_) (fun c => ?_)
  · have hP4 := hP3.1 c
    clear hP3
    refine bz_iload_n (pc := 77) dX12_offerAll_77 rfl rfl ?_
    exact bz_retI (pc := 78) dX12_offerAll_78 rfl rfl hP4
  · have hP5 := hP3.2 c
    clear hP3
    refine bz_aload_n (pc := 29) dX12_offerAll_29 rfl rfl ?_
    refine bz_iload_n (pc := 30) dX12_offerAll_30 rfl rfl ?_
    refine bz_kIV (as := [.inl x2]) (st := []) (ci := 12) (n := 1) (mc := 0) (ms := 0) (bc := bc) (bs := bs) (yc := kX12_isWaiting) (q := (RX12, TX12, 34)) (b := a0) (pc := 31) dX12_offerAll_31 sc_X12_isWaiting ml_X12_129 im_X12_isWaiting se_X12_isWaiting rfl rfl rfl (Nat.le_of_ble_eq_true rfl) hP5 (fun x_9 h_10 hP6 => ?_)
    clear hP5
    refine bz_if_eq (tgt := 45) (pc := 34) dX12_offerAll_34 rfl (fun c => ?_) (fun c => ?_)
    · have hP7 := hP6.1 c
      clear hP6
      refine bz_iconst (pc := 45) dX12_offerAll_45 ci_m1 ?_
      refine bz_s_istore_n (pc := 46) dX12_offerAll_46 rfl (Nat.le_of_ble_eq_true rfl) [some (.inr (some a0)), some (.inl x1), some (.inl x2), some (.inl (-1)), u4] rfl ?_
      refine bz_iload_n (pc := 47) dX12_offerAll_47 rfl rfl ?_
      refine bz_if_lt (tgt := 71) (pc := 48) dX12_offerAll_48 rfl (fun c => ?_) (fun c => ?_)
      · have hP8 := hP7.1 c
        clear hP7
        refine bz_s_iinc (pc := 71) dX12_offerAll_71 (Nat.le_of_ble_eq_true rfl) rfl rfl [some (.inr (some a0)), some (.inl x1), some (.inl (x2 + 1)), some (.inl (-1)), u4] rfl ?_
        refine bz_goto (tgt := 19) (pc := 74) dX12_offerAll_74 rfl ?_
        exact hP8
      · have hP9 := hP7.2 c
        clear hP7
        refine bz_aload_n (pc := 51) dX12_offerAll_51 rfl rfl ?_
        refine bz_iload_n (pc := 52) dX12_offerAll_52 rfl rfl ?_
        refine bz_iload_n (pc := 53) dX12_offerAll_53 rfl rfl ?_
        refine bz_kIV (as := [.inl (-1), .inl x2]) (st := []) (ci := 12) (n := 2) (mc := 0) (ms := 0) (bc := bc) (bs := bs) (yc := kX12_tripNow) (q := (RX12, TX12, 34)) (b := a0) (pc := 54) dX12_offerAll_54 sc_X12_tripNow ml_X12_194 im_X12_tripNow se_X12_tripNow rfl rfl rfl (Nat.le_of_ble_eq_true rfl) hP9 (fun x_11 h_12 hP10 => ?_)
        clear hP9
        refine bz_if_eq (tgt := 71) (pc := 57) dX12_offerAll_57 rfl (fun c => ?_) (fun c => ?_)
        · have hP11 := hP10.1 c
          clear hP10
          refine bz_s_iinc (pc := 71) dX12_offerAll_71 (Nat.le_of_ble_eq_true rfl) rfl rfl [some (.inr (some a0)), some (.inl x1), some (.inl (x2 + 1)), some (.inl (-1)), u4] rfl ?_
          refine bz_goto (tgt := 19) (pc := 74) dX12_offerAll_74 rfl ?_
          exact hP11
        · have hP12 := hP10.2 c
          clear hP10
          refine bz_aload_n (pc := 60) dX12_offerAll_60 rfl rfl ?_
          refine bz_iload_n (pc := 61) dX12_offerAll_61 rfl rfl ?_
          refine bz_iload_n (pc := 62) dX12_offerAll_62 rfl rfl ?_
          refine bz_kIV (as := [.inl (-1), .inl x2]) (st := []) (ci := 12) (n := 2) (mc := 0) (ms := 0) (bc := bc) (bs := bs) (yc := kX12_gives) (q := (RX12, TX12, 34)) (b := a0) (pc := 63) dX12_offerAll_63 sc_X12_gives ml_X12_232 im_X12_gives se_X12_gives rfl rfl rfl (Nat.le_of_ble_eq_true rfl) hP12 (fun x_13 h_14 hP13 => ?_)
          clear hP12
          refine bz_s_istore (pc := 66) dX12_offerAll_66 (Nat.le_of_ble_eq_true rfl) [some (.inr (some a0)), some (.inl x1), some (.inl x2), some (.inl (-1)), some (.inl x_13)] rfl ?_
          refine bz_s_iinc (pc := 68) dX12_offerAll_68 (Nat.le_of_ble_eq_true rfl) rfl rfl [some (.inr (some a0)), some (.inl (x1 + 1)), some (.inl x2), some (.inl (-1)), some (.inl x_13)] rfl ?_
          refine bz_s_iinc (pc := 71) dX12_offerAll_71 (Nat.le_of_ble_eq_true rfl) rfl rfl [some (.inr (some a0)), some (.inl (x1 + 1)), some (.inl (x2 + 1)), some (.inl (-1)), some (.inl x_13)] rfl ?_
          refine bz_goto (tgt := 19) (pc := 74) dX12_offerAll_74 rfl ?_
          exact hP13
    · have hP14 := hP6.2 c
      clear hP6
      refine bz_aload_n (pc := 37) dX12_offerAll_37 rfl rfl ?_
      refine bz_iload_n (pc := 38) dX12_offerAll_38 rfl rfl ?_
      refine bz_kIV (as := [.inl x2]) (st := []) (ci := 12) (n := 1) (mc := 0) (ms := 0) (bc := bc) (bs := bs) (yc := kX12_offeredTo) (q := (RX12, TX12, 34)) (b := a0) (pc := 39) dX12_offerAll_39 sc_X12_offeredTo ml_X12_302 im_X12_offeredTo se_X12_offeredTo rfl rfl rfl (Nat.le_of_ble_eq_true rfl) hP14 (fun x_15 h_16 hP15 => ?_)
      clear hP14
      refine bz_goto (tgt := 46) (pc := 42) dX12_offerAll_42 rfl ?_
      refine bz_s_istore_n (pc := 46) dX12_offerAll_46 rfl (Nat.le_of_ble_eq_true rfl) [some (.inr (some a0)), some (.inl x1), some (.inl x2), some (.inl x_15), u4] rfl ?_
      refine bz_iload_n (pc := 47) dX12_offerAll_47 rfl rfl ?_
      refine bz_if_lt (tgt := 71) (pc := 48) dX12_offerAll_48 rfl (fun c => ?_) (fun c => ?_)
      · have hP16 := hP15.1 c
        clear hP15
        refine bz_s_iinc (pc := 71) dX12_offerAll_71 (Nat.le_of_ble_eq_true rfl) rfl rfl [some (.inr (some a0)), some (.inl x1), some (.inl (x2 + 1)), some (.inl x_15), u4] rfl ?_
        refine bz_goto (tgt := 19) (pc := 74) dX12_offerAll_74 rfl ?_
        exact hP16
      · have hP17 := hP15.2 c
        clear hP15
        refine bz_aload_n (pc := 51) dX12_offerAll_51 rfl rfl ?_
        refine bz_iload_n (pc := 52) dX12_offerAll_52 rfl rfl ?_
        refine bz_iload_n (pc := 53) dX12_offerAll_53 rfl rfl ?_
        refine bz_kIV (as := [.inl x_15, .inl x2]) (st := []) (ci := 12) (n := 2) (mc := 0) (ms := 0) (bc := bc) (bs := bs) (yc := kX12_tripNow) (q := (RX12, TX12, 34)) (b := a0) (pc := 54) dX12_offerAll_54 sc_X12_tripNow ml_X12_194 im_X12_tripNow se_X12_tripNow rfl rfl rfl (Nat.le_of_ble_eq_true rfl) hP17 (fun x_17 h_18 hP18 => ?_)
        clear hP17
        refine bz_if_eq (tgt := 71) (pc := 57) dX12_offerAll_57 rfl (fun c => ?_) (fun c => ?_)
        · have hP19 := hP18.1 c
          clear hP18
          refine bz_s_iinc (pc := 71) dX12_offerAll_71 (Nat.le_of_ble_eq_true rfl) rfl rfl [some (.inr (some a0)), some (.inl x1), some (.inl (x2 + 1)), some (.inl x_15), u4] rfl ?_
          refine bz_goto (tgt := 19) (pc := 74) dX12_offerAll_74 rfl ?_
          exact hP19
        · have hP20 := hP18.2 c
          clear hP18
          refine bz_aload_n (pc := 60) dX12_offerAll_60 rfl rfl ?_
          refine bz_iload_n (pc := 61) dX12_offerAll_61 rfl rfl ?_
          refine bz_iload_n (pc := 62) dX12_offerAll_62 rfl rfl ?_
          refine bz_kIV (as := [.inl x_15, .inl x2]) (st := []) (ci := 12) (n := 2) (mc := 0) (ms := 0) (bc := bc) (bs := bs) (yc := kX12_gives) (q := (RX12, TX12, 34)) (b := a0) (pc := 63) dX12_offerAll_63 sc_X12_gives ml_X12_232 im_X12_gives se_X12_gives rfl rfl rfl (Nat.le_of_ble_eq_true rfl) hP20 (fun x_19 h_20 hP21 => ?_)
          clear hP20
          refine bz_s_istore (pc := 66) dX12_offerAll_66 (Nat.le_of_ble_eq_true rfl) [some (.inr (some a0)), some (.inl x1), some (.inl x2), some (.inl x_15), some (.inl x_19)] rfl ?_
          refine bz_s_iinc (pc := 68) dX12_offerAll_68 (Nat.le_of_ble_eq_true rfl) rfl rfl [some (.inr (some a0)), some (.inl (x1 + 1)), some (.inl x2), some (.inl x_15), some (.inl x_19)] rfl ?_
          refine bz_s_iinc (pc := 71) dX12_offerAll_71 (Nat.le_of_ble_eq_true rfl) rfl rfl [some (.inr (some a0)), some (.inl (x1 + 1)), some (.inl (x2 + 1)), some (.inl x_15), some (.inl x_19)] rfl ?_
          refine bz_goto (tgt := 19) (pc := 74) dX12_offerAll_74 rfl ?_
          exact hP21
theorem m_X12_offerAll {G : bz_G} {l : Launch} {d mc ms : Nat} {F : Option bz_V → bz_H → Prop} (a0 : Nat) (h : bz_H) (hP : ∀ (κ : bz_K) (bc bs : Nat), κ.2.1 = l → w_X12_offerAll_0 G κ l d F bc bs a0 h) : bz_Call G l (d + 1) kX12_offerAll [.inr (some a0)] h mc ms F :=
  bz_body (by decide) (Nat.le_of_ble_eq_true rfl) (fun κ hl => g_X12_offerAll_0 hl a0 h (hP κ mc ms hl))
def w_X12_offeredTo_0 (G : bz_G) (κ : bz_K) (l : Launch) (d : Nat) (F : Option bz_V → bz_H → Prop) (bc bs : Nat) (a0 : Nat) (x1 : Int32) (h : bz_H) : Prop := bz_J G κ kX12_offeredTo (d + 1) F bc bs 7 [some (.inr (some a0)), some (.inl x1), some (.inl (-1)), some (.inl 0), some (.inl 0), none, none] [] h
set_option maxRecDepth 20000 in
set_option maxHeartbeats 4000000 in
theorem g_X12_offeredTo_0 {G : bz_G} {κ : bz_K} {l : Launch} {d : Nat} {F : Option bz_V → bz_H → Prop} {bc bs : Nat} (hl : κ.2.1 = l) (a0 : Nat) (x1 : Int32) (h : bz_H) (hP0 : w_X12_offeredTo_0 G κ l d F bc bs a0 x1 h) : bz_J G κ kX12_offeredTo (d + 1) F bc bs 0 [some (.inr (some a0)), some (.inl x1), none, none, none, none, none] [] h := by
  subst hl
  unfold w_X12_offeredTo_0 at hP0
  refine bz_iconst (pc := 0) dX12_offeredTo_0 ci_m1 ?_
  refine bz_s_istore_n (pc := 1) dX12_offeredTo_1 rfl (Nat.le_of_ble_eq_true rfl) [some (.inr (some a0)), some (.inl x1), some (.inl (-1)), none, none, none, none] rfl ?_
  refine bz_iconst (pc := 2) dX12_offeredTo_2 ci_0 ?_
  refine bz_s_istore_n (pc := 3) dX12_offeredTo_3 rfl (Nat.le_of_ble_eq_true rfl) [some (.inr (some a0)), some (.inl x1), some (.inl (-1)), some (.inl 0), none, none, none] rfl ?_
  refine bz_iconst (pc := 4) dX12_offeredTo_4 ci_0 ?_
  refine bz_s_istore (pc := 5) dX12_offeredTo_5 (Nat.le_of_ble_eq_true rfl) [some (.inr (some a0)), some (.inl x1), some (.inl (-1)), some (.inl 0), some (.inl 0), none, none] rfl ?_
  exact hP0
def w_X12_offeredTo_7 (G : bz_G) (κ : bz_K) (l : Launch) (d : Nat) (F : Option bz_V → bz_H → Prop) (bc bs : Nat) (a0 : Nat) (x1 : Int32) (x2 : Int32) (x3 : Int32) (x4 : Int32) (u5 : Option bz_V) (u6 : Option bz_V) (h : bz_H) : Prop := bz_rR h a0 12 0 (fun r_1 => bz_nn r_1 (fun a_2 => bz_rA h a_2 3 (fun x_3 => (x_3 ≤ x4 → F (some (.inl x2)) h) ∧ (¬ (x_3 ≤ x4) → bz_rc h a0 12 (bz_cI G l d kX12_ofRider [.inr (some a0), .inl x4, .inl 2] h 0 0 (fun x_4 h_5 => bz_rR h_5 a0 12 0 (fun r_6 => bz_nn r_6 (fun a_7 => bz_rA h_5 a_7 0 (fun x_8 => (x_8 < x_4 → bz_J G κ kX12_offeredTo (d + 1) F bc bs 57 [some (.inr (some a0)), some (.inl x1), some (.inl x2), some (.inl x3), some (.inl x4), u5, u6] [.inl 0] h_5) ∧ (¬ (x_8 < x_4) → bz_rR h_5 a0 12 0 (fun r_9 => bz_nn r_9 (fun a_10 => bz_rA h_5 a_10 (696 + x4) (fun x_11 => bz_J G κ kX12_offeredTo (d + 1) F bc bs 57 [some (.inr (some a0)), some (.inl x1), some (.inl x2), some (.inl x3), some (.inl x4), u5, u6] [.inl (if ((x_11 >>> (x1 &&& 31)) &&& 1) = 0 then 1 else 0)] h_5)))))))))))))
set_option maxRecDepth 20000 in
set_option maxHeartbeats 4000000 in
theorem g_X12_offeredTo_7 {G : bz_G} {κ : bz_K} {l : Launch} {d : Nat} {F : Option bz_V → bz_H → Prop} {bc bs : Nat} (hl : κ.2.1 = l) (a0 : Nat) (x1 : Int32) (x2 : Int32) (x3 : Int32) (x4 : Int32) (u5 : Option bz_V) (u6 : Option bz_V) (h : bz_H) (hP0 : w_X12_offeredTo_7 G κ l d F bc bs a0 x1 x2 x3 x4 u5 u6 h) : bz_J G κ kX12_offeredTo (d + 1) F bc bs 7 [some (.inr (some a0)), some (.inl x1), some (.inl x2), some (.inl x3), some (.inl x4), u5, u6] [] h := by
  subst hl
  unfold w_X12_offeredTo_7 at hP0
  refine bz_iload (pc := 7) dX12_offeredTo_7 rfl ?_
  refine bz_aload_n (pc := 9) dX12_offeredTo_9 rfl rfl ?_
  refine bz_rw_rR (pc := 10) dX12_offeredTo_10 fl_X12_7 hP0 (fun r_1 hP1 => ?_)
  clear hP0
  refine bz_iconst (pc := 13) dX12_offeredTo_13 ci_3 ?_
  obtain ⟨a_2, rfl, hP2⟩ := hP1
  refine bz_rw_rA (pc := 14) dX12_offeredTo_14 hP2 (fun x_3 hP3 => ?_)
  clear hP2
  refine bz_icmp_ge (tgt := 118) (pc := 15) dX12_offeredTo_15 rfl (fun c => ?_) (fun c => ?_)
  · have hP4 := hP3.1 c
    clear hP3
    refine bz_iload_n (pc := 118) dX12_offeredTo_118 rfl rfl ?_
    exact bz_retI (pc := 119) dX12_offeredTo_119 rfl rfl hP4
  · have hP5 := hP3.2 c
    clear hP3
    refine bz_aload_n (pc := 18) dX12_offeredTo_18 rfl rfl ?_
    refine bz_iload (pc := 19) dX12_offeredTo_19 rfl ?_
    refine bz_iconst (pc := 21) dX12_offeredTo_21 ci_2 ?_
    refine bz_kIV (as := [.inl x4, .inl 2]) (st := []) (ci := 12) (n := 2) (mc := 0) (ms := 0) (bc := bc) (bs := bs) (yc := kX12_ofRider) (q := (RX12, TX12, 34)) (b := a0) (pc := 22) dX12_offeredTo_22 sc_X12_ofRider ml_X12_136 im_X12_ofRider se_X12_ofRider rfl rfl rfl (Nat.le_of_ble_eq_true rfl) hP5 (fun x_4 h_5 hP6 => ?_)
    clear hP5
    refine bz_aload_n (pc := 25) dX12_offeredTo_25 rfl rfl ?_
    refine bz_rw_rR (pc := 26) dX12_offeredTo_26 fl_X12_7 hP6 (fun r_6 hP7 => ?_)
    clear hP6
    refine bz_iconst (pc := 29) dX12_offeredTo_29 ci_0 ?_
    obtain ⟨a_7, rfl, hP8⟩ := hP7
    refine bz_rw_rA (pc := 30) dX12_offeredTo_30 hP8 (fun x_8 hP9 => ?_)
    clear hP8
    refine bz_icmp_gt (tgt := 56) (pc := 31) dX12_offeredTo_31 rfl (fun c => ?_) (fun c => ?_)
    · have hP10 := hP9.1 c
      clear hP9
      refine bz_iconst (pc := 56) dX12_offeredTo_56 ci_0 ?_
      exact hP10
    · have hP11 := hP9.2 c
      clear hP9
      refine bz_aload_n (pc := 34) dX12_offeredTo_34 rfl rfl ?_
      refine bz_rw_rR (pc := 35) dX12_offeredTo_35 fl_X12_7 hP11 (fun r_9 hP12 => ?_)
      clear hP11
      refine bz_sipush (pc := 38) dX12_offeredTo_38 cs_696 ?_
      refine bz_iload (pc := 41) dX12_offeredTo_41 rfl ?_
      refine bz_iadd (pc := 43) dX12_offeredTo_43 ?_
      obtain ⟨a_10, rfl, hP13⟩ := hP12
      refine bz_rw_rA (pc := 44) dX12_offeredTo_44 hP13 (fun x_11 hP14 => ?_)
      clear hP13
      refine bz_iload_n (pc := 45) dX12_offeredTo_45 rfl rfl ?_
      refine bz_ishr (pc := 46) dX12_offeredTo_46 ?_
      refine bz_iconst (pc := 47) dX12_offeredTo_47 ci_1 ?_
      refine bz_iand (pc := 48) dX12_offeredTo_48 ?_
      have hJ : bz_J G κ kX12_offeredTo (d + 1) F bc bs 57 [some (.inr (some a0)), some (.inl x1), some (.inl x2), some (.inl x3), some (.inl x4), u5, u6] [.inl (if ((x_11 >>> (x1 &&& 31)) &&& 1) = 0 then 1 else 0)] h_5 := by
        exact hP14
      refine bz_if_ne (tgt := 56) (pc := 49) dX12_offeredTo_49 rfl (fun c => ?_) (fun c => ?_)
      · have e9 : ((if ((x_11 >>> (x1 &&& 31)) &&& 1) = 0 then 1 else 0) : Int32) = (0) := if_neg c
        rw [e9] at hJ
        refine bz_iconst (pc := 56) dX12_offeredTo_56 ci_0 ?_
        exact hJ
      · have e9 : ((if ((x_11 >>> (x1 &&& 31)) &&& 1) = 0 then 1 else 0) : Int32) = (1) := if_pos c
        rw [e9] at hJ
        refine bz_iconst (pc := 52) dX12_offeredTo_52 ci_1 ?_
        refine bz_goto (tgt := 57) (pc := 53) dX12_offeredTo_53 rfl ?_
        exact hJ
def w_X12_offeredTo_57 (G : bz_G) (κ : bz_K) (l : Launch) (d : Nat) (F : Option bz_V → bz_H → Prop) (bc bs : Nat) (a0 : Nat) (x1 : Int32) (x2 : Int32) (x3 : Int32) (x4 : Int32) (u5 : Option bz_V) (u6 : Option bz_V) (y0 : Int32) (h : bz_H) : Prop := (y0 = 0 → bz_J G κ kX12_offeredTo (d + 1) F bc bs 7 [some (.inr (some a0)), some (.inl x1), some (.inl x2), some (.inl x3), some (.inl (x4 + 1)), some (.inl y0), u6] [] h) ∧ (¬ (y0 = 0) → bz_rc h a0 12 (bz_cI G l d kX12_tripNow [.inr (some a0), .inl x4, .inl x1] h 0 0 (fun x_12 h_13 => (¬ x_12 = 0 → bz_rc h_13 a0 12 (bz_cV G l d kX12_nameAll [.inr (some a0), .inl x4, .inl x1] h_13 0 0 (fun h_15 => bz_rR h_15 a0 12 0 (fun r_16 => bz_nn r_16 (fun a_17 => bz_rA h_15 a_17 5 (fun x_18 => bz_rc h_15 a0 12 (bz_cI G l d kX12_works [.inr (some a0), .inl x_18] h_15 0 0 (fun x_19 h_20 => (x2 < 0 → bz_J G κ kX12_offeredTo (d + 1) F bc bs 7 [some (.inr (some a0)), some (.inl x1), some (.inl x4), some (.inl x_19), some (.inl (x4 + 1)), some (.inl y0), some (.inl x_19)] [] h_20) ∧ (¬ (x2 < 0) → (x_19 ≤ x3 → bz_J G κ kX12_offeredTo (d + 1) F bc bs 7 [some (.inr (some a0)), some (.inl x1), some (.inl x2), some (.inl x3), some (.inl (x4 + 1)), some (.inl y0), some (.inl x_19)] [] h_20) ∧ (¬ (x_19 ≤ x3) → bz_J G κ kX12_offeredTo (d + 1) F bc bs 7 [some (.inr (some a0)), some (.inl x1), some (.inl x4), some (.inl x_19), some (.inl (x4 + 1)), some (.inl y0), some (.inl x_19)] [] h_20)))))))))) ∧ (x_12 = 0 → bz_J G κ kX12_offeredTo (d + 1) F bc bs 7 [some (.inr (some a0)), some (.inl x1), some (.inl x2), some (.inl x3), some (.inl (x4 + 1)), some (.inl y0), u6] [] h_13))))
set_option maxRecDepth 20000 in
set_option maxHeartbeats 4000000 in
theorem g_X12_offeredTo_57 {G : bz_G} {κ : bz_K} {l : Launch} {d : Nat} {F : Option bz_V → bz_H → Prop} {bc bs : Nat} (hl : κ.2.1 = l) (a0 : Nat) (x1 : Int32) (x2 : Int32) (x3 : Int32) (x4 : Int32) (u5 : Option bz_V) (u6 : Option bz_V) (y0 : Int32) (h : bz_H) (hP0 : w_X12_offeredTo_57 G κ l d F bc bs a0 x1 x2 x3 x4 u5 u6 y0 h) : bz_J G κ kX12_offeredTo (d + 1) F bc bs 57 [some (.inr (some a0)), some (.inl x1), some (.inl x2), some (.inl x3), some (.inl x4), u5, u6] [.inl y0] h := by
  subst hl
  unfold w_X12_offeredTo_57 at hP0
  refine bz_s_istore (pc := 57) dX12_offeredTo_57 (Nat.le_of_ble_eq_true rfl) [some (.inr (some a0)), some (.inl x1), some (.inl x2), some (.inl x3), some (.inl x4), some (.inl y0), u6] rfl ?_
  refine bz_iload (pc := 59) dX12_offeredTo_59 rfl ?_
  refine bz_if_eq (tgt := 112) (pc := 61) dX12_offeredTo_61 rfl (fun c => ?_) (fun c => ?_)
  · have hP1 := hP0.1 c
    clear hP0
    refine bz_s_iinc (pc := 112) dX12_offeredTo_112 (Nat.le_of_ble_eq_true rfl) rfl rfl [some (.inr (some a0)), some (.inl x1), some (.inl x2), some (.inl x3), some (.inl (x4 + 1)), some (.inl y0), u6] rfl ?_
    refine bz_goto (tgt := 7) (pc := 115) dX12_offeredTo_115 rfl ?_
    exact hP1
  · have hP2 := hP0.2 c
    clear hP0
    refine bz_aload_n (pc := 64) dX12_offeredTo_64 rfl rfl ?_
    refine bz_iload (pc := 65) dX12_offeredTo_65 rfl ?_
    refine bz_iload_n (pc := 67) dX12_offeredTo_67 rfl rfl ?_
    refine bz_kIV (as := [.inl x4, .inl x1]) (st := []) (ci := 12) (n := 2) (mc := 0) (ms := 0) (bc := bc) (bs := bs) (yc := kX12_tripNow) (q := (RX12, TX12, 34)) (b := a0) (pc := 68) dX12_offeredTo_68 sc_X12_tripNow ml_X12_194 im_X12_tripNow se_X12_tripNow rfl rfl rfl (Nat.le_of_ble_eq_true rfl) hP2 (fun x_12 h_13 hP3 => ?_)
    clear hP2
    refine bz_if_ne (tgt := 77) (pc := 71) dX12_offeredTo_71 rfl (fun c => ?_) (fun c => ?_)
    · have hP4 := hP3.1 c
      clear hP3
      refine bz_aload_n (pc := 77) dX12_offeredTo_77 rfl rfl ?_
      refine bz_iload (pc := 78) dX12_offeredTo_78 rfl ?_
      refine bz_iload_n (pc := 80) dX12_offeredTo_80 rfl rfl ?_
      refine bz_kVV (as := [.inl x4, .inl x1]) (st := []) (ci := 12) (n := 2) (mc := 0) (ms := 0) (bc := bc) (bs := bs) (yc := kX12_nameAll) (q := (RX12, TX12, 34)) (b := a0) (pc := 81) dX12_offeredTo_81 sc_X12_nameAll ml_X12_299 im_X12_nameAll se_X12_nameAll rfl rfl rfl (Nat.le_of_ble_eq_true rfl) hP4 (fun h_15 hP5 => ?_)
      clear hP4
      refine bz_aload_n (pc := 84) dX12_offeredTo_84 rfl rfl ?_
      refine bz_aload_n (pc := 85) dX12_offeredTo_85 rfl rfl ?_
      refine bz_rw_rR (pc := 86) dX12_offeredTo_86 fl_X12_7 hP5 (fun r_16 hP6 => ?_)
      clear hP5
      refine bz_iconst (pc := 89) dX12_offeredTo_89 ci_5 ?_
      obtain ⟨a_17, rfl, hP7⟩ := hP6
      refine bz_rw_rA (pc := 90) dX12_offeredTo_90 hP7 (fun x_18 hP8 => ?_)
      clear hP7
      refine bz_kIV (as := [.inl x_18]) (st := []) (ci := 12) (n := 1) (mc := 0) (ms := 0) (bc := bc) (bs := bs) (yc := kX12_works) (q := (RX12, TX12, 34)) (b := a0) (pc := 91) dX12_offeredTo_91 sc_X12_works ml_X12_218 im_X12_works se_X12_works rfl rfl rfl (Nat.le_of_ble_eq_true rfl) hP8 (fun x_19 h_20 hP9 => ?_)
      clear hP8
      refine bz_s_istore (pc := 94) dX12_offeredTo_94 (Nat.le_of_ble_eq_true rfl) [some (.inr (some a0)), some (.inl x1), some (.inl x2), some (.inl x3), some (.inl x4), some (.inl y0), some (.inl x_19)] rfl ?_
      refine bz_iload_n (pc := 96) dX12_offeredTo_96 rfl rfl ?_
      refine bz_if_lt (tgt := 106) (pc := 97) dX12_offeredTo_97 rfl (fun c => ?_) (fun c => ?_)
      · have hP10 := hP9.1 c
        clear hP9
        refine bz_iload (pc := 106) dX12_offeredTo_106 rfl ?_
        refine bz_s_istore_n (pc := 108) dX12_offeredTo_108 rfl (Nat.le_of_ble_eq_true rfl) [some (.inr (some a0)), some (.inl x1), some (.inl x4), some (.inl x3), some (.inl x4), some (.inl y0), some (.inl x_19)] rfl ?_
        refine bz_iload (pc := 109) dX12_offeredTo_109 rfl ?_
        refine bz_s_istore_n (pc := 111) dX12_offeredTo_111 rfl (Nat.le_of_ble_eq_true rfl) [some (.inr (some a0)), some (.inl x1), some (.inl x4), some (.inl x_19), some (.inl x4), some (.inl y0), some (.inl x_19)] rfl ?_
        refine bz_s_iinc (pc := 112) dX12_offeredTo_112 (Nat.le_of_ble_eq_true rfl) rfl rfl [some (.inr (some a0)), some (.inl x1), some (.inl x4), some (.inl x_19), some (.inl (x4 + 1)), some (.inl y0), some (.inl x_19)] rfl ?_
        refine bz_goto (tgt := 7) (pc := 115) dX12_offeredTo_115 rfl ?_
        exact hP10
      · have hP11 := hP9.2 c
        clear hP9
        refine bz_iload (pc := 100) dX12_offeredTo_100 rfl ?_
        refine bz_iload_n (pc := 102) dX12_offeredTo_102 rfl rfl ?_
        refine bz_icmp_le (tgt := 112) (pc := 103) dX12_offeredTo_103 rfl (fun c => ?_) (fun c => ?_)
        · have hP12 := hP11.1 c
          clear hP11
          refine bz_s_iinc (pc := 112) dX12_offeredTo_112 (Nat.le_of_ble_eq_true rfl) rfl rfl [some (.inr (some a0)), some (.inl x1), some (.inl x2), some (.inl x3), some (.inl (x4 + 1)), some (.inl y0), some (.inl x_19)] rfl ?_
          refine bz_goto (tgt := 7) (pc := 115) dX12_offeredTo_115 rfl ?_
          exact hP12
        · have hP13 := hP11.2 c
          clear hP11
          refine bz_iload (pc := 106) dX12_offeredTo_106 rfl ?_
          refine bz_s_istore_n (pc := 108) dX12_offeredTo_108 rfl (Nat.le_of_ble_eq_true rfl) [some (.inr (some a0)), some (.inl x1), some (.inl x4), some (.inl x3), some (.inl x4), some (.inl y0), some (.inl x_19)] rfl ?_
          refine bz_iload (pc := 109) dX12_offeredTo_109 rfl ?_
          refine bz_s_istore_n (pc := 111) dX12_offeredTo_111 rfl (Nat.le_of_ble_eq_true rfl) [some (.inr (some a0)), some (.inl x1), some (.inl x4), some (.inl x_19), some (.inl x4), some (.inl y0), some (.inl x_19)] rfl ?_
          refine bz_s_iinc (pc := 112) dX12_offeredTo_112 (Nat.le_of_ble_eq_true rfl) rfl rfl [some (.inr (some a0)), some (.inl x1), some (.inl x4), some (.inl x_19), some (.inl (x4 + 1)), some (.inl y0), some (.inl x_19)] rfl ?_
          refine bz_goto (tgt := 7) (pc := 115) dX12_offeredTo_115 rfl ?_
          exact hP13
    · have hP14 := hP3.2 c
      clear hP3
      refine bz_goto (tgt := 112) (pc := 74) dX12_offeredTo_74 rfl ?_
      refine bz_s_iinc (pc := 112) dX12_offeredTo_112 (Nat.le_of_ble_eq_true rfl) rfl rfl [some (.inr (some a0)), some (.inl x1), some (.inl x2), some (.inl x3), some (.inl (x4 + 1)), some (.inl y0), u6] rfl ?_
      refine bz_goto (tgt := 7) (pc := 115) dX12_offeredTo_115 rfl ?_
      exact hP14
theorem m_X12_offeredTo {G : bz_G} {l : Launch} {d mc ms : Nat} {F : Option bz_V → bz_H → Prop} (a0 : Nat) (x1 : Int32) (h : bz_H) (hP : ∀ (κ : bz_K) (bc bs : Nat), κ.2.1 = l → w_X12_offeredTo_0 G κ l d F bc bs a0 x1 h) : bz_Call G l (d + 1) kX12_offeredTo [.inr (some a0), .inl x1] h mc ms F :=
  bz_body (by decide) (Nat.le_of_ble_eq_true rfl) (fun κ hl => g_X12_offeredTo_0 hl a0 x1 h (hP κ mc ms hl))
def w_X12_offered_0 (G : bz_G) (l : Launch) (d : Nat) (F : Option bz_V → bz_H → Prop) (a0 : Nat) (x1 : Int32) (h : bz_H) : Prop := bz_rc h a0 12 (bz_cI G l d kX12_isOrder [.inr (some a0), .inl x1] h 0 0 (fun x_1 h_2 => (¬ x_1 = 0 → bz_rc h_2 a0 12 (bz_cI G l d kX12_isWaiting [.inr (some a0), .inl x1] h_2 0 0 (fun x_3 h_4 => (x_3 = 0 → bz_rc h_4 a0 12 (bz_cI G l d kX12_finding [.inr (some a0), .inl 4] h_4 0 0 (fun x_5 h_6 => F (some (.inl x_5)) h_6))) ∧ (¬ (x_3 = 0) → bz_rR h_4 a0 12 0 (fun r_7 => bz_nn r_7 (fun a_8 => bz_rA h_4 a_8 5 (fun x_9 => (0 ≤ x_9 → bz_rc h_4 a0 12 (bz_cI G l d kX12_offeredTo [.inr (some a0), .inl x1] h_4 0 0 (fun x_10 h_11 => (0 ≤ x_10 → F (some (.inl x_10)) h_11) ∧ (¬ (0 ≤ x_10) → bz_rc h_11 a0 12 (bz_cI G l d kX12_finding [.inr (some a0), .inl 3] h_11 0 0 (fun x_12 h_13 => F (some (.inl x_12)) h_13)))))) ∧ (¬ (0 ≤ x_9) → bz_rc h_4 a0 12 (bz_cI G l d kX12_finding [.inr (some a0), .inl 4] h_4 0 0 (fun x_14 h_15 => F (some (.inl x_14)) h_15)))))))))) ∧ (x_1 = 0 → bz_rc h_2 a0 12 (bz_cI G l d kX12_finding [.inr (some a0), .inl 0] h_2 0 0 (fun x_16 h_17 => F (some (.inl x_16)) h_17)))))
set_option maxRecDepth 20000 in
set_option maxHeartbeats 4000000 in
theorem g_X12_offered_0 {G : bz_G} {κ : bz_K} {l : Launch} {d : Nat} {F : Option bz_V → bz_H → Prop} {bc bs : Nat} (hl : κ.2.1 = l) (a0 : Nat) (x1 : Int32) (h : bz_H) (hP0 : w_X12_offered_0 G l d F a0 x1 h) : bz_J G κ kX12_offered (d + 1) F bc bs 0 [some (.inr (some a0)), some (.inl x1), none] [] h := by
  subst hl
  unfold w_X12_offered_0 at hP0
  refine bz_aload_n (pc := 0) dX12_offered_0 rfl rfl ?_
  refine bz_iload_n (pc := 1) dX12_offered_1 rfl rfl ?_
  refine bz_kIV (as := [.inl x1]) (st := []) (ci := 12) (n := 1) (mc := 0) (ms := 0) (bc := bc) (bs := bs) (yc := kX12_isOrder) (q := (RX12, TX12, 34)) (b := a0) (pc := 2) dX12_offered_2 sc_X12_isOrder ml_X12_117 im_X12_isOrder se_X12_isOrder rfl rfl rfl (Nat.le_of_ble_eq_true rfl) hP0 (fun x_1 h_2 hP1 => ?_)
  clear hP0
  refine bz_if_ne (tgt := 14) (pc := 5) dX12_offered_5 rfl (fun c => ?_) (fun c => ?_)
  · have hP2 := hP1.1 c
    clear hP1
    refine bz_aload_n (pc := 14) dX12_offered_14 rfl rfl ?_
    refine bz_iload_n (pc := 15) dX12_offered_15 rfl rfl ?_
    refine bz_kIV (as := [.inl x1]) (st := []) (ci := 12) (n := 1) (mc := 0) (ms := 0) (bc := bc) (bs := bs) (yc := kX12_isWaiting) (q := (RX12, TX12, 34)) (b := a0) (pc := 16) dX12_offered_16 sc_X12_isWaiting ml_X12_129 im_X12_isWaiting se_X12_isWaiting rfl rfl rfl (Nat.le_of_ble_eq_true rfl) hP2 (fun x_3 h_4 hP3 => ?_)
    clear hP2
    refine bz_if_eq (tgt := 31) (pc := 19) dX12_offered_19 rfl (fun c => ?_) (fun c => ?_)
    · have hP4 := hP3.1 c
      clear hP3
      refine bz_aload_n (pc := 31) dX12_offered_31 rfl rfl ?_
      refine bz_iconst (pc := 32) dX12_offered_32 ci_4 ?_
      refine bz_kIV (as := [.inl 4]) (st := []) (ci := 12) (n := 1) (mc := 0) (ms := 0) (bc := bc) (bs := bs) (yc := kX12_finding) (q := (RX12, TX12, 34)) (b := a0) (pc := 33) dX12_offered_33 sc_X12_finding ml_X12_73 im_X12_finding se_X12_finding rfl rfl rfl (Nat.le_of_ble_eq_true rfl) hP4 (fun x_5 h_6 hP5 => ?_)
      clear hP4
      exact bz_retI (pc := 36) dX12_offered_36 rfl rfl hP5
    · have hP6 := hP3.2 c
      clear hP3
      refine bz_aload_n (pc := 22) dX12_offered_22 rfl rfl ?_
      refine bz_rw_rR (pc := 23) dX12_offered_23 fl_X12_7 hP6 (fun r_7 hP7 => ?_)
      clear hP6
      refine bz_iconst (pc := 26) dX12_offered_26 ci_5 ?_
      obtain ⟨a_8, rfl, hP8⟩ := hP7
      refine bz_rw_rA (pc := 27) dX12_offered_27 hP8 (fun x_9 hP9 => ?_)
      clear hP8
      refine bz_if_ge (tgt := 37) (pc := 28) dX12_offered_28 rfl (fun c => ?_) (fun c => ?_)
      · have hP10 := hP9.1 c
        clear hP9
        refine bz_aload_n (pc := 37) dX12_offered_37 rfl rfl ?_
        refine bz_iload_n (pc := 38) dX12_offered_38 rfl rfl ?_
        refine bz_kIV (as := [.inl x1]) (st := []) (ci := 12) (n := 1) (mc := 0) (ms := 0) (bc := bc) (bs := bs) (yc := kX12_offeredTo) (q := (RX12, TX12, 34)) (b := a0) (pc := 39) dX12_offered_39 sc_X12_offeredTo ml_X12_302 im_X12_offeredTo se_X12_offeredTo rfl rfl rfl (Nat.le_of_ble_eq_true rfl) hP10 (fun x_10 h_11 hP11 => ?_)
        clear hP10
        refine bz_s_istore_n (pc := 42) dX12_offered_42 rfl (Nat.le_of_ble_eq_true rfl) [some (.inr (some a0)), some (.inl x1), some (.inl x_10)] rfl ?_
        refine bz_iload_n (pc := 43) dX12_offered_43 rfl rfl ?_
        refine bz_if_ge (tgt := 55) (pc := 44) dX12_offered_44 rfl (fun c => ?_) (fun c => ?_)
        · have hP12 := hP11.1 c
          clear hP11
          refine bz_iload_n (pc := 55) dX12_offered_55 rfl rfl ?_
          exact bz_retI (pc := 56) dX12_offered_56 rfl rfl hP12
        · have hP13 := hP11.2 c
          clear hP11
          refine bz_aload_n (pc := 47) dX12_offered_47 rfl rfl ?_
          refine bz_iconst (pc := 48) dX12_offered_48 ci_3 ?_
          refine bz_kIV (as := [.inl 3]) (st := []) (ci := 12) (n := 1) (mc := 0) (ms := 0) (bc := bc) (bs := bs) (yc := kX12_finding) (q := (RX12, TX12, 34)) (b := a0) (pc := 49) dX12_offered_49 sc_X12_finding ml_X12_73 im_X12_finding se_X12_finding rfl rfl rfl (Nat.le_of_ble_eq_true rfl) hP13 (fun x_12 h_13 hP14 => ?_)
          clear hP13
          refine bz_goto (tgt := 56) (pc := 52) dX12_offered_52 rfl ?_
          exact bz_retI (pc := 56) dX12_offered_56 rfl rfl hP14
      · have hP15 := hP9.2 c
        clear hP9
        refine bz_aload_n (pc := 31) dX12_offered_31 rfl rfl ?_
        refine bz_iconst (pc := 32) dX12_offered_32 ci_4 ?_
        refine bz_kIV (as := [.inl 4]) (st := []) (ci := 12) (n := 1) (mc := 0) (ms := 0) (bc := bc) (bs := bs) (yc := kX12_finding) (q := (RX12, TX12, 34)) (b := a0) (pc := 33) dX12_offered_33 sc_X12_finding ml_X12_73 im_X12_finding se_X12_finding rfl rfl rfl (Nat.le_of_ble_eq_true rfl) hP15 (fun x_14 h_15 hP16 => ?_)
        clear hP15
        exact bz_retI (pc := 36) dX12_offered_36 rfl rfl hP16
  · have hP17 := hP1.2 c
    clear hP1
    refine bz_aload_n (pc := 8) dX12_offered_8 rfl rfl ?_
    refine bz_iconst (pc := 9) dX12_offered_9 ci_0 ?_
    refine bz_kIV (as := [.inl 0]) (st := []) (ci := 12) (n := 1) (mc := 0) (ms := 0) (bc := bc) (bs := bs) (yc := kX12_finding) (q := (RX12, TX12, 34)) (b := a0) (pc := 10) dX12_offered_10 sc_X12_finding ml_X12_73 im_X12_finding se_X12_finding rfl rfl rfl (Nat.le_of_ble_eq_true rfl) hP17 (fun x_16 h_17 hP18 => ?_)
    clear hP17
    exact bz_retI (pc := 13) dX12_offered_13 rfl rfl hP18
theorem m_X12_offered {G : bz_G} {l : Launch} {d mc ms : Nat} {F : Option bz_V → bz_H → Prop} (a0 : Nat) (x1 : Int32) (h : bz_H) (hP : w_X12_offered_0 G l d F a0 x1 h) : bz_Call G l (d + 1) kX12_offered [.inr (some a0), .inl x1] h mc ms F :=
  bz_body (by decide) (Nat.le_of_ble_eq_true rfl) (fun κ hl => g_X12_offered_0 hl a0 x1 h hP)
def w_X12_one_0 (G : bz_G) (l : Launch) (d : Nat) (F : Option bz_V → bz_H → Prop) (a0 : Nat) (h : bz_H) : Prop := bz_rI h a0 12 15 (fun x_1 => (x_1 = 2 → bz_rI h a0 12 15 (fun x_2 => bz_rI h a0 12 18 (fun x_3 => bz_rc h a0 12 (bz_cV G l d kX12_lays [.inr (some a0), .inl (if x_2 = 2 then 0 else 1), .inl x_3] h 0 0 (fun h_5 => bz_rc h_5 a0 12 (bz_cV G l d kX12_next [.inr (some a0)] h_5 0 0 (fun h_7 => F (some (.inl 1)) h_7))))))) ∧ (¬ (x_1 = 2) → bz_rI h a0 12 15 (fun x_8 => (¬ x_8 = 1 → bz_rc h a0 12 (bz_cI G l d kX12_isSign [.inr (some a0), .inl 45] h 0 0 (fun x_9 h_10 => (x_9 = 0 → bz_rc h_10 a0 12 (bz_cI G l d kX12_isSign [.inr (some a0), .inl 40] h_10 0 0 (fun x_11 h_12 => (x_11 = 0 → F (some (.inl 0)) h_12) ∧ (¬ (x_11 = 0) → bz_rc h_12 a0 12 (bz_cI G l d kX12_opens [.inr (some a0)] h_12 0 0 (fun x_13 h_14 => (x_13 = 0 → F (some (.inl 0)) h_14) ∧ (¬ (x_13 = 0) → bz_rc h_14 a0 12 (bz_cI G l d kX12_whole [.inr (some a0)] h_14 0 0 (fun x_15 h_16 => (x_15 = 0 → F (some (.inl 0)) h_16) ∧ (¬ (x_15 = 0) → bz_rc h_16 a0 12 (bz_cI G l d kX12_isSign [.inr (some a0), .inl 41] h_16 0 0 (fun x_17 h_18 => (¬ x_17 = 0 → bz_rI h_18 a0 12 19 (fun x_19 => bz_wI h_18 a0 12 19 (x_19 - 1) (fun h_20 => bz_rc h_20 a0 12 (bz_cV G l d kX12_next [.inr (some a0)] h_20 0 0 (fun h_22 => F (some (.inl 1)) h_22))))) ∧ (x_17 = 0 → F (some (.inl 0)) h_18))))))))))))) ∧ (¬ (x_9 = 0) → bz_rc h_10 a0 12 (bz_cI G l d kX12_opens [.inr (some a0)] h_10 0 0 (fun x_23 h_24 => (x_23 = 0 → F (some (.inl 0)) h_24) ∧ (¬ (x_23 = 0) → bz_rc h_24 a0 12 (bz_cI G l d kX12_one [.inr (some a0)] h_24 0 0 (fun x_25 h_26 => (¬ x_25 = 0 → bz_rI h_26 a0 12 19 (fun x_27 => bz_wI h_26 a0 12 19 (x_27 - 1) (fun h_28 => bz_rc h_28 a0 12 (bz_cV G l d kX12_lays [.inr (some a0), .inl 2, .inl 0] h_28 0 0 (fun h_30 => F (some (.inl 1)) h_30))))) ∧ (x_25 = 0 → F (some (.inl 0)) h_26)))))))))) ∧ (x_8 = 1 → bz_rI h a0 12 15 (fun x_31 => bz_rI h a0 12 18 (fun x_32 => bz_rc h a0 12 (bz_cV G l d kX12_lays [.inr (some a0), .inl (if x_31 = 2 then 0 else 1), .inl x_32] h 0 0 (fun h_34 => bz_rc h_34 a0 12 (bz_cV G l d kX12_next [.inr (some a0)] h_34 0 0 (fun h_36 => F (some (.inl 1)) h_36))))))))))
set_option maxRecDepth 20000 in
set_option maxHeartbeats 4000000 in
theorem g_X12_one_0 {G : bz_G} {κ : bz_K} {l : Launch} {d : Nat} {F : Option bz_V → bz_H → Prop} {bc bs : Nat} (hl : κ.2.1 = l) (a0 : Nat) (h : bz_H) (hP0 : w_X12_one_0 G l d F a0 h) : bz_J G κ kX12_one (d + 1) F bc bs 0 [some (.inr (some a0))] [] h := by
  subst hl
  unfold w_X12_one_0 at hP0
  refine bz_aload_n (pc := 0) dX12_one_0 rfl rfl ?_
  refine bz_rw_rI (pc := 1) dX12_one_1 fl_X12_244 hP0 (fun x_1 hP1 => ?_)
  clear hP0
  refine bz_iconst (pc := 4) dX12_one_4 ci_2 ?_
  refine bz_icmp_eq (tgt := 16) (pc := 5) dX12_one_5 rfl (fun c => ?_) (fun c => ?_)
  · have hP2 := hP1.1 c
    clear hP1
    refine bz_aload_n (pc := 16) dX12_one_16 rfl rfl ?_
    refine bz_aload_n (pc := 17) dX12_one_17 rfl rfl ?_
    refine bz_rw_rI (pc := 18) dX12_one_18 fl_X12_244 hP2 (fun x_2 hP3 => ?_)
    clear hP2
    refine bz_iconst (pc := 21) dX12_one_21 ci_2 ?_
    have hJ : bz_J G κ kX12_one (d + 1) F bc bs 30 [some (.inr (some a0))] [.inl (if x_2 = 2 then 0 else 1), .inr (some a0)] h := by
      refine bz_aload_n (pc := 30) dX12_one_30 rfl rfl ?_
      refine bz_rw_rI (pc := 31) dX12_one_31 fl_X12_247 hP3 (fun x_3 hP4 => ?_)
      clear hP3
      refine bz_kVV (as := [.inl (if x_2 = 2 then 0 else 1), .inl x_3]) (st := []) (ci := 12) (n := 2) (mc := 0) (ms := 0) (bc := bc) (bs := bs) (yc := kX12_lays) (q := (RX12, TX12, 34)) (b := a0) (pc := 34) dX12_one_34 sc_X12_lays ml_X12_275 im_X12_lays se_X12_lays rfl rfl rfl (Nat.le_of_ble_eq_true rfl) hP4 (fun h_5 hP5 => ?_)
      clear hP4
      refine bz_aload_n (pc := 37) dX12_one_37 rfl rfl ?_
      refine bz_kVV (as := []) (st := []) (ci := 12) (n := 0) (mc := 0) (ms := 0) (bc := bc) (bs := bs) (yc := kX12_next) (q := (RX12, TX12, 34)) (b := a0) (pc := 38) dX12_one_38 sc_X12_next ml_X12_265 im_X12_next se_X12_next rfl rfl rfl (Nat.le_of_ble_eq_true rfl) hP5 (fun h_7 hP6 => ?_)
      clear hP5
      refine bz_iconst (pc := 41) dX12_one_41 ci_1 ?_
      exact bz_retI (pc := 42) dX12_one_42 rfl rfl hP6
    refine bz_icmp_ne (tgt := 29) (pc := 22) dX12_one_22 rfl (fun c => ?_) (fun c => ?_)
    · have e9 : ((if x_2 = 2 then 0 else 1) : Int32) = (1) := if_neg c
      rw [e9] at hJ
      refine bz_iconst (pc := 29) dX12_one_29 ci_1 ?_
      exact hJ
    · have e9 : ((if x_2 = 2 then 0 else 1) : Int32) = (0) := if_pos c
      rw [e9] at hJ
      refine bz_iconst (pc := 25) dX12_one_25 ci_0 ?_
      refine bz_goto (tgt := 30) (pc := 26) dX12_one_26 rfl ?_
      exact hJ
  · have hP7 := hP1.2 c
    clear hP1
    refine bz_aload_n (pc := 8) dX12_one_8 rfl rfl ?_
    refine bz_rw_rI (pc := 9) dX12_one_9 fl_X12_244 hP7 (fun x_8 hP8 => ?_)
    clear hP7
    refine bz_iconst (pc := 12) dX12_one_12 ci_1 ?_
    refine bz_icmp_ne (tgt := 43) (pc := 13) dX12_one_13 rfl (fun c => ?_) (fun c => ?_)
    · have hP9 := hP8.1 c
      clear hP8
      refine bz_aload_n (pc := 43) dX12_one_43 rfl rfl ?_
      refine bz_bipush (pc := 44) dX12_one_44 cb_45 ?_
      refine bz_kIV (as := [.inl 45]) (st := []) (ci := 12) (n := 1) (mc := 0) (ms := 0) (bc := bc) (bs := bs) (yc := kX12_isSign) (q := (RX12, TX12, 34)) (b := a0) (pc := 46) dX12_one_46 sc_X12_isSign ml_X12_272 im_X12_isSign se_X12_isSign rfl rfl rfl (Nat.le_of_ble_eq_true rfl) hP9 (fun x_9 h_10 hP10 => ?_)
      clear hP9
      refine bz_if_eq (tgt := 86) (pc := 49) dX12_one_49 rfl (fun c => ?_) (fun c => ?_)
      · have hP11 := hP10.1 c
        clear hP10
        refine bz_aload_n (pc := 86) dX12_one_86 rfl rfl ?_
        refine bz_bipush (pc := 87) dX12_one_87 cb_40 ?_
        refine bz_kIV (as := [.inl 40]) (st := []) (ci := 12) (n := 1) (mc := 0) (ms := 0) (bc := bc) (bs := bs) (yc := kX12_isSign) (q := (RX12, TX12, 34)) (b := a0) (pc := 89) dX12_one_89 sc_X12_isSign ml_X12_272 im_X12_isSign se_X12_isSign rfl rfl rfl (Nat.le_of_ble_eq_true rfl) hP11 (fun x_11 h_12 hP12 => ?_)
        clear hP11
        refine bz_if_eq (tgt := 118) (pc := 92) dX12_one_92 rfl (fun c => ?_) (fun c => ?_)
        · have hP13 := hP12.1 c
          clear hP12
          refine bz_iconst (pc := 118) dX12_one_118 ci_0 ?_
          exact bz_retI (pc := 119) dX12_one_119 rfl rfl hP13
        · have hP14 := hP12.2 c
          clear hP12
          refine bz_aload_n (pc := 95) dX12_one_95 rfl rfl ?_
          refine bz_kIV (as := []) (st := []) (ci := 12) (n := 0) (mc := 0) (ms := 0) (bc := bc) (bs := bs) (yc := kX12_opens) (q := (RX12, TX12, 34)) (b := a0) (pc := 96) dX12_one_96 sc_X12_opens ml_X12_284 im_X12_opens se_X12_opens rfl rfl rfl (Nat.le_of_ble_eq_true rfl) hP14 (fun x_13 h_14 hP15 => ?_)
          clear hP14
          refine bz_if_eq (tgt := 118) (pc := 99) dX12_one_99 rfl (fun c => ?_) (fun c => ?_)
          · have hP16 := hP15.1 c
            clear hP15
            refine bz_iconst (pc := 118) dX12_one_118 ci_0 ?_
            exact bz_retI (pc := 119) dX12_one_119 rfl rfl hP16
          · have hP17 := hP15.2 c
            clear hP15
            refine bz_aload_n (pc := 102) dX12_one_102 rfl rfl ?_
            refine bz_kIV (as := []) (st := []) (ci := 12) (n := 0) (mc := 0) (ms := 0) (bc := bc) (bs := bs) (yc := kX12_whole) (q := (RX12, TX12, 34)) (b := a0) (pc := 103) dX12_one_103 sc_X12_whole ml_X12_287 im_X12_whole se_X12_whole rfl rfl rfl (Nat.le_of_ble_eq_true rfl) hP17 (fun x_15 h_16 hP18 => ?_)
            clear hP17
            refine bz_if_eq (tgt := 118) (pc := 106) dX12_one_106 rfl (fun c => ?_) (fun c => ?_)
            · have hP19 := hP18.1 c
              clear hP18
              refine bz_iconst (pc := 118) dX12_one_118 ci_0 ?_
              exact bz_retI (pc := 119) dX12_one_119 rfl rfl hP19
            · have hP20 := hP18.2 c
              clear hP18
              refine bz_aload_n (pc := 109) dX12_one_109 rfl rfl ?_
              refine bz_bipush (pc := 110) dX12_one_110 cb_41 ?_
              refine bz_kIV (as := [.inl 41]) (st := []) (ci := 12) (n := 1) (mc := 0) (ms := 0) (bc := bc) (bs := bs) (yc := kX12_isSign) (q := (RX12, TX12, 34)) (b := a0) (pc := 112) dX12_one_112 sc_X12_isSign ml_X12_272 im_X12_isSign se_X12_isSign rfl rfl rfl (Nat.le_of_ble_eq_true rfl) hP20 (fun x_17 h_18 hP21 => ?_)
              clear hP20
              refine bz_if_ne (tgt := 120) (pc := 115) dX12_one_115 rfl (fun c => ?_) (fun c => ?_)
              · have hP22 := hP21.1 c
                clear hP21
                refine bz_aload_n (pc := 120) dX12_one_120 rfl rfl ?_
                refine bz_dup (pc := 121) dX12_one_121 ?_
                refine bz_rw_rI (pc := 122) dX12_one_122 fl_X12_262 hP22 (fun x_19 hP23 => ?_)
                clear hP22
                refine bz_iconst (pc := 125) dX12_one_125 ci_1 ?_
                refine bz_isub (pc := 126) dX12_one_126 ?_
                refine bz_rw_wI (pc := 127) dX12_one_127 fl_X12_262 (fun q h9 => by cases h9; rfl) rfl hP23 (fun h_20 hP24 => ?_)
                clear hP23
                refine bz_aload_n (pc := 130) dX12_one_130 rfl rfl ?_
                refine bz_kVV (as := []) (st := []) (ci := 12) (n := 0) (mc := 0) (ms := 0) (bc := bc) (bs := bs) (yc := kX12_next) (q := (RX12, TX12, 34)) (b := a0) (pc := 131) dX12_one_131 sc_X12_next ml_X12_265 im_X12_next se_X12_next rfl rfl rfl (Nat.le_of_ble_eq_true rfl) hP24 (fun h_22 hP25 => ?_)
                clear hP24
                refine bz_iconst (pc := 134) dX12_one_134 ci_1 ?_
                exact bz_retI (pc := 135) dX12_one_135 rfl rfl hP25
              · have hP26 := hP21.2 c
                clear hP21
                refine bz_iconst (pc := 118) dX12_one_118 ci_0 ?_
                exact bz_retI (pc := 119) dX12_one_119 rfl rfl hP26
      · have hP27 := hP10.2 c
        clear hP10
        refine bz_aload_n (pc := 52) dX12_one_52 rfl rfl ?_
        refine bz_kIV (as := []) (st := []) (ci := 12) (n := 0) (mc := 0) (ms := 0) (bc := bc) (bs := bs) (yc := kX12_opens) (q := (RX12, TX12, 34)) (b := a0) (pc := 53) dX12_one_53 sc_X12_opens ml_X12_284 im_X12_opens se_X12_opens rfl rfl rfl (Nat.le_of_ble_eq_true rfl) hP27 (fun x_23 h_24 hP28 => ?_)
        clear hP27
        refine bz_if_eq (tgt := 66) (pc := 56) dX12_one_56 rfl (fun c => ?_) (fun c => ?_)
        · have hP29 := hP28.1 c
          clear hP28
          refine bz_iconst (pc := 66) dX12_one_66 ci_0 ?_
          exact bz_retI (pc := 67) dX12_one_67 rfl rfl hP29
        · have hP30 := hP28.2 c
          clear hP28
          refine bz_aload_n (pc := 59) dX12_one_59 rfl rfl ?_
          refine bz_kIV (as := []) (st := []) (ci := 12) (n := 0) (mc := 0) (ms := 0) (bc := bc) (bs := bs) (yc := kX12_one) (q := (RX12, TX12, 34)) (b := a0) (pc := 60) dX12_one_60 sc_X12_one ml_X12_281 im_X12_one se_X12_one rfl rfl rfl (Nat.le_of_ble_eq_true rfl) hP30 (fun x_25 h_26 hP31 => ?_)
          clear hP30
          refine bz_if_ne (tgt := 68) (pc := 63) dX12_one_63 rfl (fun c => ?_) (fun c => ?_)
          · have hP32 := hP31.1 c
            clear hP31
            refine bz_aload_n (pc := 68) dX12_one_68 rfl rfl ?_
            refine bz_dup (pc := 69) dX12_one_69 ?_
            refine bz_rw_rI (pc := 70) dX12_one_70 fl_X12_262 hP32 (fun x_27 hP33 => ?_)
            clear hP32
            refine bz_iconst (pc := 73) dX12_one_73 ci_1 ?_
            refine bz_isub (pc := 74) dX12_one_74 ?_
            refine bz_rw_wI (pc := 75) dX12_one_75 fl_X12_262 (fun q h9 => by cases h9; rfl) rfl hP33 (fun h_28 hP34 => ?_)
            clear hP33
            refine bz_aload_n (pc := 78) dX12_one_78 rfl rfl ?_
            refine bz_iconst (pc := 79) dX12_one_79 ci_2 ?_
            refine bz_iconst (pc := 80) dX12_one_80 ci_0 ?_
            refine bz_kVV (as := [.inl 2, .inl 0]) (st := []) (ci := 12) (n := 2) (mc := 0) (ms := 0) (bc := bc) (bs := bs) (yc := kX12_lays) (q := (RX12, TX12, 34)) (b := a0) (pc := 81) dX12_one_81 sc_X12_lays ml_X12_275 im_X12_lays se_X12_lays rfl rfl rfl (Nat.le_of_ble_eq_true rfl) hP34 (fun h_30 hP35 => ?_)
            clear hP34
            refine bz_iconst (pc := 84) dX12_one_84 ci_1 ?_
            exact bz_retI (pc := 85) dX12_one_85 rfl rfl hP35
          · have hP36 := hP31.2 c
            clear hP31
            refine bz_iconst (pc := 66) dX12_one_66 ci_0 ?_
            exact bz_retI (pc := 67) dX12_one_67 rfl rfl hP36
    · have hP37 := hP8.2 c
      clear hP8
      refine bz_aload_n (pc := 16) dX12_one_16 rfl rfl ?_
      refine bz_aload_n (pc := 17) dX12_one_17 rfl rfl ?_
      refine bz_rw_rI (pc := 18) dX12_one_18 fl_X12_244 hP37 (fun x_31 hP38 => ?_)
      clear hP37
      refine bz_iconst (pc := 21) dX12_one_21 ci_2 ?_
      have hJ : bz_J G κ kX12_one (d + 1) F bc bs 30 [some (.inr (some a0))] [.inl (if x_31 = 2 then 0 else 1), .inr (some a0)] h := by
        refine bz_aload_n (pc := 30) dX12_one_30 rfl rfl ?_
        refine bz_rw_rI (pc := 31) dX12_one_31 fl_X12_247 hP38 (fun x_32 hP39 => ?_)
        clear hP38
        refine bz_kVV (as := [.inl (if x_31 = 2 then 0 else 1), .inl x_32]) (st := []) (ci := 12) (n := 2) (mc := 0) (ms := 0) (bc := bc) (bs := bs) (yc := kX12_lays) (q := (RX12, TX12, 34)) (b := a0) (pc := 34) dX12_one_34 sc_X12_lays ml_X12_275 im_X12_lays se_X12_lays rfl rfl rfl (Nat.le_of_ble_eq_true rfl) hP39 (fun h_34 hP40 => ?_)
        clear hP39
        refine bz_aload_n (pc := 37) dX12_one_37 rfl rfl ?_
        refine bz_kVV (as := []) (st := []) (ci := 12) (n := 0) (mc := 0) (ms := 0) (bc := bc) (bs := bs) (yc := kX12_next) (q := (RX12, TX12, 34)) (b := a0) (pc := 38) dX12_one_38 sc_X12_next ml_X12_265 im_X12_next se_X12_next rfl rfl rfl (Nat.le_of_ble_eq_true rfl) hP40 (fun h_36 hP41 => ?_)
        clear hP40
        refine bz_iconst (pc := 41) dX12_one_41 ci_1 ?_
        exact bz_retI (pc := 42) dX12_one_42 rfl rfl hP41
      refine bz_icmp_ne (tgt := 29) (pc := 22) dX12_one_22 rfl (fun c => ?_) (fun c => ?_)
      · have e9 : ((if x_31 = 2 then 0 else 1) : Int32) = (1) := if_neg c
        rw [e9] at hJ
        refine bz_iconst (pc := 29) dX12_one_29 ci_1 ?_
        exact hJ
      · have e9 : ((if x_31 = 2 then 0 else 1) : Int32) = (0) := if_pos c
        rw [e9] at hJ
        refine bz_iconst (pc := 25) dX12_one_25 ci_0 ?_
        refine bz_goto (tgt := 30) (pc := 26) dX12_one_26 rfl ?_
        exact hJ
theorem m_X12_one {G : bz_G} {l : Launch} {d mc ms : Nat} {F : Option bz_V → bz_H → Prop} (a0 : Nat) (h : bz_H) (hP : w_X12_one_0 G l d F a0 h) : bz_Call G l (d + 1) kX12_one [.inr (some a0)] h mc ms F :=
  bz_body (by decide) (Nat.le_of_ble_eq_true rfl) (fun κ hl => g_X12_one_0 hl a0 h hP)
def w_X12_opens_0 (G : bz_G) (l : Launch) (d : Nat) (F : Option bz_V → bz_H → Prop) (a0 : Nat) (h : bz_H) : Prop := bz_rI h a0 12 19 (fun x_1 => (¬ x_1 = 6 → bz_rI h a0 12 19 (fun x_2 => bz_wI h a0 12 19 (x_2 + 1) (fun h_3 => bz_rc h_3 a0 12 (bz_cV G l d kX12_next [.inr (some a0)] h_3 0 0 (fun h_5 => F (some (.inl 1)) h_5))))) ∧ (x_1 = 6 → F (some (.inl 0)) h))
set_option maxRecDepth 20000 in
set_option maxHeartbeats 4000000 in
theorem g_X12_opens_0 {G : bz_G} {κ : bz_K} {l : Launch} {d : Nat} {F : Option bz_V → bz_H → Prop} {bc bs : Nat} (hl : κ.2.1 = l) (a0 : Nat) (h : bz_H) (hP0 : w_X12_opens_0 G l d F a0 h) : bz_J G κ kX12_opens (d + 1) F bc bs 0 [some (.inr (some a0))] [] h := by
  subst hl
  unfold w_X12_opens_0 at hP0
  refine bz_aload_n (pc := 0) dX12_opens_0 rfl rfl ?_
  refine bz_rw_rI (pc := 1) dX12_opens_1 fl_X12_262 hP0 (fun x_1 hP1 => ?_)
  clear hP0
  refine bz_bipush (pc := 4) dX12_opens_4 cb_6 ?_
  refine bz_icmp_ne (tgt := 11) (pc := 6) dX12_opens_6 rfl (fun c => ?_) (fun c => ?_)
  · have hP2 := hP1.1 c
    clear hP1
    refine bz_aload_n (pc := 11) dX12_opens_11 rfl rfl ?_
    refine bz_dup (pc := 12) dX12_opens_12 ?_
    refine bz_rw_rI (pc := 13) dX12_opens_13 fl_X12_262 hP2 (fun x_2 hP3 => ?_)
    clear hP2
    refine bz_iconst (pc := 16) dX12_opens_16 ci_1 ?_
    refine bz_iadd (pc := 17) dX12_opens_17 ?_
    refine bz_rw_wI (pc := 18) dX12_opens_18 fl_X12_262 (fun q h9 => by cases h9; rfl) rfl hP3 (fun h_3 hP4 => ?_)
    clear hP3
    refine bz_aload_n (pc := 21) dX12_opens_21 rfl rfl ?_
    refine bz_kVV (as := []) (st := []) (ci := 12) (n := 0) (mc := 0) (ms := 0) (bc := bc) (bs := bs) (yc := kX12_next) (q := (RX12, TX12, 34)) (b := a0) (pc := 22) dX12_opens_22 sc_X12_next ml_X12_265 im_X12_next se_X12_next rfl rfl rfl (Nat.le_of_ble_eq_true rfl) hP4 (fun h_5 hP5 => ?_)
    clear hP4
    refine bz_iconst (pc := 25) dX12_opens_25 ci_1 ?_
    exact bz_retI (pc := 26) dX12_opens_26 rfl rfl hP5
  · have hP6 := hP1.2 c
    clear hP1
    refine bz_iconst (pc := 9) dX12_opens_9 ci_0 ?_
    exact bz_retI (pc := 10) dX12_opens_10 rfl rfl hP6
theorem m_X12_opens {G : bz_G} {l : Launch} {d mc ms : Nat} {F : Option bz_V → bz_H → Prop} (a0 : Nat) (h : bz_H) (hP : w_X12_opens_0 G l d F a0 h) : bz_Call G l (d + 1) kX12_opens [.inr (some a0)] h mc ms F :=
  bz_body (by decide) (Nat.le_of_ble_eq_true rfl) (fun κ hl => g_X12_opens_0 hl a0 h hP)
def w_X12_orZero_0 (G : bz_G) (l : Launch) (d : Nat) (F : Option bz_V → bz_H → Prop) (x0 : Int32) (h : bz_H) : Prop := F (some (.inl (if 0 ≤ x0 then x0 else 0))) h
set_option maxRecDepth 20000 in
set_option maxHeartbeats 4000000 in
theorem g_X12_orZero_0 {G : bz_G} {κ : bz_K} {l : Launch} {d : Nat} {F : Option bz_V → bz_H → Prop} {bc bs : Nat} (hl : κ.2.1 = l) (x0 : Int32) (h : bz_H) (hP0 : w_X12_orZero_0 G l d F x0 h) : bz_J G κ kX12_orZero (d + 1) F bc bs 0 [some (.inl x0)] [] h := by
  subst hl
  unfold w_X12_orZero_0 at hP0
  refine bz_iload_n (pc := 0) dX12_orZero_0 rfl rfl ?_
  have hJ : bz_J G κ kX12_orZero (d + 1) F bc bs 9 [some (.inl x0)] [.inl (if 0 ≤ x0 then x0 else 0)] h := by
    exact bz_retI (pc := 9) dX12_orZero_9 rfl rfl hP0
  refine bz_if_ge (tgt := 8) (pc := 1) dX12_orZero_1 rfl (fun c => ?_) (fun c => ?_)
  · have e9 : ((if 0 ≤ x0 then x0 else 0) : Int32) = (x0) := if_pos c
    rw [e9] at hJ
    refine bz_iload_n (pc := 8) dX12_orZero_8 rfl rfl ?_
    exact hJ
  · have e9 : ((if 0 ≤ x0 then x0 else 0) : Int32) = (0) := if_neg c
    rw [e9] at hJ
    refine bz_iconst (pc := 4) dX12_orZero_4 ci_0 ?_
    refine bz_goto (tgt := 9) (pc := 5) dX12_orZero_5 rfl ?_
    exact hJ
theorem m_X12_orZero {G : bz_G} {l : Launch} {d mc ms : Nat} {F : Option bz_V → bz_H → Prop} (x0 : Int32) (h : bz_H) (hP : w_X12_orZero_0 G l d F x0 h) : bz_Call G l (d + 1) kX12_orZero [.inl x0] h mc ms F :=
  bz_body (by decide) (Nat.le_of_ble_eq_true rfl) (fun κ hl => g_X12_orZero_0 hl x0 h hP)
def w_X12_orderOf_0 (G : bz_G) (κ : bz_K) (l : Launch) (d : Nat) (F : Option bz_V → bz_H → Prop) (bc bs : Nat) (a0 : Nat) (x1 : Int32) (x2 : Int32) (h : bz_H) : Prop := bz_rc h a0 12 (bz_cI G l d kX12_isOrder [.inr (some a0), .inl x1] h 0 0 (fun x_1 h_2 => (x_1 = 0 → bz_rc h_2 a0 12 (bz_cI G l d kX12_finding [.inr (some a0), .inl 0] h_2 0 0 (fun x_3 h_4 => F (some (.inl x_3)) h_4))) ∧ (¬ (x_1 = 0) → bz_cI G l d kX12_in [.inl x2, .inl 0, .inl 10] h_2 0 0 (fun x_5 h_6 => (¬ x_5 = 0 → (x2 ≤ 4 → bz_J G κ kX12_orderOf (d + 1) F bc bs 43 [some (.inr (some a0)), some (.inl x1), some (.inl x2)] [] h_6) ∧ (¬ (x2 ≤ 4) → bz_rc h_6 a0 12 (bz_cI G l d kX12_isGiven [.inr (some a0), .inl x1] h_6 0 0 (fun x_7 h_8 => (¬ x_7 = 0 → bz_J G κ kX12_orderOf (d + 1) F bc bs 43 [some (.inr (some a0)), some (.inl x1), some (.inl x2)] [] h_8) ∧ (x_7 = 0 → bz_rc h_8 a0 12 (bz_cI G l d kX12_finding [.inr (some a0), .inl 3] h_8 0 0 (fun x_9 h_10 => F (some (.inl x_9)) h_10))))))) ∧ (x_5 = 0 → bz_rc h_6 a0 12 (bz_cI G l d kX12_finding [.inr (some a0), .inl 0] h_6 0 0 (fun x_11 h_12 => F (some (.inl x_11)) h_12)))))))
set_option maxRecDepth 20000 in
set_option maxHeartbeats 4000000 in
theorem g_X12_orderOf_0 {G : bz_G} {κ : bz_K} {l : Launch} {d : Nat} {F : Option bz_V → bz_H → Prop} {bc bs : Nat} (hl : κ.2.1 = l) (a0 : Nat) (x1 : Int32) (x2 : Int32) (h : bz_H) (hP0 : w_X12_orderOf_0 G κ l d F bc bs a0 x1 x2 h) : bz_J G κ kX12_orderOf (d + 1) F bc bs 0 [some (.inr (some a0)), some (.inl x1), some (.inl x2)] [] h := by
  subst hl
  unfold w_X12_orderOf_0 at hP0
  refine bz_aload_n (pc := 0) dX12_orderOf_0 rfl rfl ?_
  refine bz_iload_n (pc := 1) dX12_orderOf_1 rfl rfl ?_
  refine bz_kIV (as := [.inl x1]) (st := []) (ci := 12) (n := 1) (mc := 0) (ms := 0) (bc := bc) (bs := bs) (yc := kX12_isOrder) (q := (RX12, TX12, 34)) (b := a0) (pc := 2) dX12_orderOf_2 sc_X12_isOrder ml_X12_117 im_X12_isOrder se_X12_isOrder rfl rfl rfl (Nat.le_of_ble_eq_true rfl) hP0 (fun x_1 h_2 hP1 => ?_)
  clear hP0
  refine bz_if_eq (tgt := 18) (pc := 5) dX12_orderOf_5 rfl (fun c => ?_) (fun c => ?_)
  · have hP2 := hP1.1 c
    clear hP1
    refine bz_aload_n (pc := 18) dX12_orderOf_18 rfl rfl ?_
    refine bz_iconst (pc := 19) dX12_orderOf_19 ci_0 ?_
    refine bz_kIV (as := [.inl 0]) (st := []) (ci := 12) (n := 1) (mc := 0) (ms := 0) (bc := bc) (bs := bs) (yc := kX12_finding) (q := (RX12, TX12, 34)) (b := a0) (pc := 20) dX12_orderOf_20 sc_X12_finding ml_X12_73 im_X12_finding se_X12_finding rfl rfl rfl (Nat.le_of_ble_eq_true rfl) hP2 (fun x_3 h_4 hP3 => ?_)
    clear hP2
    exact bz_retI (pc := 23) dX12_orderOf_23 rfl rfl hP3
  · have hP4 := hP1.2 c
    clear hP1
    refine bz_iload_n (pc := 8) dX12_orderOf_8 rfl rfl ?_
    refine bz_iconst (pc := 9) dX12_orderOf_9 ci_0 ?_
    refine bz_bipush (pc := 10) dX12_orderOf_10 cb_10 ?_
    refine bz_kIS (as := [.inl x2, .inl 0, .inl 10]) (st := []) (n := 3) (mc := 0) (ms := 0) (bc := bc) (bs := bs) (yc := kX12_in) (pc := 12) dX12_orderOf_12 sc_X12_in ml_X12_65 ss_X12_in rfl (Nat.le_of_ble_eq_true rfl) hP4 (fun x_5 h_6 hP5 => ?_)
    clear hP4
    refine bz_if_ne (tgt := 24) (pc := 15) dX12_orderOf_15 rfl (fun c => ?_) (fun c => ?_)
    · have hP6 := hP5.1 c
      clear hP5
      refine bz_iload_n (pc := 24) dX12_orderOf_24 rfl rfl ?_
      refine bz_iconst (pc := 25) dX12_orderOf_25 ci_4 ?_
      refine bz_icmp_le (tgt := 43) (pc := 26) dX12_orderOf_26 rfl (fun c => ?_) (fun c => ?_)
      · have hP7 := hP6.1 c
        clear hP6
        exact hP7
      · have hP8 := hP6.2 c
        clear hP6
        refine bz_aload_n (pc := 29) dX12_orderOf_29 rfl rfl ?_
        refine bz_iload_n (pc := 30) dX12_orderOf_30 rfl rfl ?_
        refine bz_kIV (as := [.inl x1]) (st := []) (ci := 12) (n := 1) (mc := 0) (ms := 0) (bc := bc) (bs := bs) (yc := kX12_isGiven) (q := (RX12, TX12, 34)) (b := a0) (pc := 31) dX12_orderOf_31 sc_X12_isGiven ml_X12_120 im_X12_isGiven se_X12_isGiven rfl rfl rfl (Nat.le_of_ble_eq_true rfl) hP8 (fun x_7 h_8 hP9 => ?_)
        clear hP8
        refine bz_if_ne (tgt := 43) (pc := 34) dX12_orderOf_34 rfl (fun c => ?_) (fun c => ?_)
        · have hP10 := hP9.1 c
          clear hP9
          exact hP10
        · have hP11 := hP9.2 c
          clear hP9
          refine bz_aload_n (pc := 37) dX12_orderOf_37 rfl rfl ?_
          refine bz_iconst (pc := 38) dX12_orderOf_38 ci_3 ?_
          refine bz_kIV (as := [.inl 3]) (st := []) (ci := 12) (n := 1) (mc := 0) (ms := 0) (bc := bc) (bs := bs) (yc := kX12_finding) (q := (RX12, TX12, 34)) (b := a0) (pc := 39) dX12_orderOf_39 sc_X12_finding ml_X12_73 im_X12_finding se_X12_finding rfl rfl rfl (Nat.le_of_ble_eq_true rfl) hP11 (fun x_9 h_10 hP12 => ?_)
          clear hP11
          exact bz_retI (pc := 42) dX12_orderOf_42 rfl rfl hP12
    · have hP13 := hP5.2 c
      clear hP5
      refine bz_aload_n (pc := 18) dX12_orderOf_18 rfl rfl ?_
      refine bz_iconst (pc := 19) dX12_orderOf_19 ci_0 ?_
      refine bz_kIV (as := [.inl 0]) (st := []) (ci := 12) (n := 1) (mc := 0) (ms := 0) (bc := bc) (bs := bs) (yc := kX12_finding) (q := (RX12, TX12, 34)) (b := a0) (pc := 20) dX12_orderOf_20 sc_X12_finding ml_X12_73 im_X12_finding se_X12_finding rfl rfl rfl (Nat.le_of_ble_eq_true rfl) hP13 (fun x_11 h_12 hP14 => ?_)
      clear hP13
      exact bz_retI (pc := 23) dX12_orderOf_23 rfl rfl hP14
def w_X12_orderOf_43 (G : bz_G) (l : Launch) (d : Nat) (F : Option bz_V → bz_H → Prop) (a0 : Nat) (x1 : Int32) (x2 : Int32) (h : bz_H) : Prop := (x2 = 0 → bz_rc h a0 12 (bz_cI G l d kX12_ofOrder [.inr (some a0), .inl x1, .inl x2] h 0 0 (fun x_13 h_14 => F (some (.inl x_13)) h_14))) ∧ (¬ x2 = 0 → (x2 = 1 → bz_rc h a0 12 (bz_cI G l d kX12_ofOrder [.inr (some a0), .inl x1, .inl x2] h 0 0 (fun x_15 h_16 => F (some (.inl x_15)) h_16))) ∧ (¬ x2 = 1 → (x2 = 2 → bz_rc h a0 12 (bz_cI G l d kX12_ofOrder [.inr (some a0), .inl x1, .inl x2] h 0 0 (fun x_17 h_18 => F (some (.inl x_17)) h_18))) ∧ (¬ x2 = 2 → (x2 = 3 → bz_rc h a0 12 (bz_cI G l d kX12_ready [.inr (some a0), .inl x1] h 0 0 (fun x_19 h_20 => F (some (.inl x_19)) h_20))) ∧ (¬ x2 = 3 → (x2 = 4 → bz_rc h a0 12 (bz_cI G l d kX12_ofOrder [.inr (some a0), .inl x1, .inl 5] h 0 0 (fun x_21 h_22 => F (some (.inl x_21)) h_22))) ∧ (¬ x2 = 4 → (x2 = 5 → bz_rc h a0 12 (bz_cI G l d kX12_ofOrder [.inr (some a0), .inl x1, .inl 6] h 0 0 (fun x_23 h_24 => F (some (.inl x_23)) h_24))) ∧ (¬ x2 = 5 → (x2 = 6 → bz_rc h a0 12 (bz_cI G l d kX12_ofOrder [.inr (some a0), .inl x1, .inl 7] h 0 0 (fun x_25 h_26 => F (some (.inl x_25)) h_26))) ∧ (¬ x2 = 6 → (x2 = 7 → bz_rc h a0 12 (bz_cI G l d kX12_ofOrder [.inr (some a0), .inl x1, .inl 8] h 0 0 (fun x_27 h_28 => F (some (.inl x_27)) h_28))) ∧ (¬ x2 = 7 → (x2 = 8 → bz_rc h a0 12 (bz_cI G l d kX12_lateOf [.inr (some a0), .inl x1] h 0 0 (fun x_29 h_30 => F (some (.inl x_29)) h_30))) ∧ (¬ x2 = 8 → (x2 = 9 → bz_rc h a0 12 (bz_cI G l d kX12_payOf [.inr (some a0), .inl x1] h 0 0 (fun x_31 h_32 => F (some (.inl x_31)) h_32))) ∧ (¬ x2 = 9 → bz_rc h a0 12 (bz_cI G l d kX12_ratingOf [.inr (some a0), .inl x1] h 0 0 (fun x_33 h_34 => F (some (.inl x_33)) h_34))))))))))))
set_option maxRecDepth 20000 in
set_option maxHeartbeats 4000000 in
theorem g_X12_orderOf_43 {G : bz_G} {κ : bz_K} {l : Launch} {d : Nat} {F : Option bz_V → bz_H → Prop} {bc bs : Nat} (hl : κ.2.1 = l) (a0 : Nat) (x1 : Int32) (x2 : Int32) (h : bz_H) (hP0 : w_X12_orderOf_43 G l d F a0 x1 x2 h) : bz_J G κ kX12_orderOf (d + 1) F bc bs 43 [some (.inr (some a0)), some (.inl x1), some (.inl x2)] [] h := by
  subst hl
  unfold w_X12_orderOf_43 at hP0
  refine bz_iload_n (pc := 43) dX12_orderOf_43 rfl rfl ?_
  refine bz_table (pc := 44) [(0, 56), (1, 56), (2, 56), (3, 63), (4, 69), (5, 76), (6, 84), (7, 92), (8, 100), (9, 106)] dX12_orderOf_44 (by decide) (by decide) (by decide) (by decide) (by decide) ?_
  refine ⟨fun c => ?_, fun c => ?_⟩
  · have hP1 := hP0.1 c
    clear hP0
    show bz_J G κ kX12_orderOf (d + 1) F bc bs 100 [some (.inr (some a0)), some (.inl x1), some (.inl x2)] [] h
    refine bz_aload_n (pc := 100) dX12_orderOf_100 rfl rfl ?_
    refine bz_iload_n (pc := 101) dX12_orderOf_101 rfl rfl ?_
    refine bz_iload_n (pc := 102) dX12_orderOf_102 rfl rfl ?_
    refine bz_kIV (as := [.inl x1, .inl x2]) (st := []) (ci := 12) (n := 2) (mc := 0) (ms := 0) (bc := bc) (bs := bs) (yc := kX12_ofOrder) (q := (RX12, TX12, 34)) (b := a0) (pc := 103) dX12_orderOf_103 sc_X12_ofOrder ml_X12_99 im_X12_ofOrder se_X12_ofOrder rfl rfl rfl (Nat.le_of_ble_eq_true rfl) hP1 (fun x_13 h_14 hP2 => ?_)
    clear hP1
    exact bz_retI (pc := 106) dX12_orderOf_106 rfl rfl hP2
  · have hP3 := hP0.2 c
    clear hP0
    refine ⟨fun c => ?_, fun c => ?_⟩
    · have hP4 := hP3.1 c
      clear hP3
      show bz_J G κ kX12_orderOf (d + 1) F bc bs 100 [some (.inr (some a0)), some (.inl x1), some (.inl x2)] [] h
      refine bz_aload_n (pc := 100) dX12_orderOf_100 rfl rfl ?_
      refine bz_iload_n (pc := 101) dX12_orderOf_101 rfl rfl ?_
      refine bz_iload_n (pc := 102) dX12_orderOf_102 rfl rfl ?_
      refine bz_kIV (as := [.inl x1, .inl x2]) (st := []) (ci := 12) (n := 2) (mc := 0) (ms := 0) (bc := bc) (bs := bs) (yc := kX12_ofOrder) (q := (RX12, TX12, 34)) (b := a0) (pc := 103) dX12_orderOf_103 sc_X12_ofOrder ml_X12_99 im_X12_ofOrder se_X12_ofOrder rfl rfl rfl (Nat.le_of_ble_eq_true rfl) hP4 (fun x_15 h_16 hP5 => ?_)
      clear hP4
      exact bz_retI (pc := 106) dX12_orderOf_106 rfl rfl hP5
    · have hP6 := hP3.2 c
      clear hP3
      refine ⟨fun c => ?_, fun c => ?_⟩
      · have hP7 := hP6.1 c
        clear hP6
        show bz_J G κ kX12_orderOf (d + 1) F bc bs 100 [some (.inr (some a0)), some (.inl x1), some (.inl x2)] [] h
        refine bz_aload_n (pc := 100) dX12_orderOf_100 rfl rfl ?_
        refine bz_iload_n (pc := 101) dX12_orderOf_101 rfl rfl ?_
        refine bz_iload_n (pc := 102) dX12_orderOf_102 rfl rfl ?_
        refine bz_kIV (as := [.inl x1, .inl x2]) (st := []) (ci := 12) (n := 2) (mc := 0) (ms := 0) (bc := bc) (bs := bs) (yc := kX12_ofOrder) (q := (RX12, TX12, 34)) (b := a0) (pc := 103) dX12_orderOf_103 sc_X12_ofOrder ml_X12_99 im_X12_ofOrder se_X12_ofOrder rfl rfl rfl (Nat.le_of_ble_eq_true rfl) hP7 (fun x_17 h_18 hP8 => ?_)
        clear hP7
        exact bz_retI (pc := 106) dX12_orderOf_106 rfl rfl hP8
      · have hP9 := hP6.2 c
        clear hP6
        refine ⟨fun c => ?_, fun c => ?_⟩
        · have hP10 := hP9.1 c
          clear hP9
          show bz_J G κ kX12_orderOf (d + 1) F bc bs 107 [some (.inr (some a0)), some (.inl x1), some (.inl x2)] [] h
          refine bz_aload_n (pc := 107) dX12_orderOf_107 rfl rfl ?_
          refine bz_iload_n (pc := 108) dX12_orderOf_108 rfl rfl ?_
          refine bz_kIV (as := [.inl x1]) (st := []) (ci := 12) (n := 1) (mc := 0) (ms := 0) (bc := bc) (bs := bs) (yc := kX12_ready) (q := (RX12, TX12, 34)) (b := a0) (pc := 109) dX12_orderOf_109 sc_X12_ready ml_X12_108 im_X12_ready se_X12_ready rfl rfl rfl (Nat.le_of_ble_eq_true rfl) hP10 (fun x_19 h_20 hP11 => ?_)
          clear hP10
          exact bz_retI (pc := 112) dX12_orderOf_112 rfl rfl hP11
        · have hP12 := hP9.2 c
          clear hP9
          refine ⟨fun c => ?_, fun c => ?_⟩
          · have hP13 := hP12.1 c
            clear hP12
            show bz_J G κ kX12_orderOf (d + 1) F bc bs 113 [some (.inr (some a0)), some (.inl x1), some (.inl x2)] [] h
            refine bz_aload_n (pc := 113) dX12_orderOf_113 rfl rfl ?_
            refine bz_iload_n (pc := 114) dX12_orderOf_114 rfl rfl ?_
            refine bz_iconst (pc := 115) dX12_orderOf_115 ci_5 ?_
            refine bz_kIV (as := [.inl x1, .inl 5]) (st := []) (ci := 12) (n := 2) (mc := 0) (ms := 0) (bc := bc) (bs := bs) (yc := kX12_ofOrder) (q := (RX12, TX12, 34)) (b := a0) (pc := 116) dX12_orderOf_116 sc_X12_ofOrder ml_X12_99 im_X12_ofOrder se_X12_ofOrder rfl rfl rfl (Nat.le_of_ble_eq_true rfl) hP13 (fun x_21 h_22 hP14 => ?_)
            clear hP13
            exact bz_retI (pc := 119) dX12_orderOf_119 rfl rfl hP14
          · have hP15 := hP12.2 c
            clear hP12
            refine ⟨fun c => ?_, fun c => ?_⟩
            · have hP16 := hP15.1 c
              clear hP15
              show bz_J G κ kX12_orderOf (d + 1) F bc bs 120 [some (.inr (some a0)), some (.inl x1), some (.inl x2)] [] h
              refine bz_aload_n (pc := 120) dX12_orderOf_120 rfl rfl ?_
              refine bz_iload_n (pc := 121) dX12_orderOf_121 rfl rfl ?_
              refine bz_bipush (pc := 122) dX12_orderOf_122 cb_6 ?_
              refine bz_kIV (as := [.inl x1, .inl 6]) (st := []) (ci := 12) (n := 2) (mc := 0) (ms := 0) (bc := bc) (bs := bs) (yc := kX12_ofOrder) (q := (RX12, TX12, 34)) (b := a0) (pc := 124) dX12_orderOf_124 sc_X12_ofOrder ml_X12_99 im_X12_ofOrder se_X12_ofOrder rfl rfl rfl (Nat.le_of_ble_eq_true rfl) hP16 (fun x_23 h_24 hP17 => ?_)
              clear hP16
              exact bz_retI (pc := 127) dX12_orderOf_127 rfl rfl hP17
            · have hP18 := hP15.2 c
              clear hP15
              refine ⟨fun c => ?_, fun c => ?_⟩
              · have hP19 := hP18.1 c
                clear hP18
                show bz_J G κ kX12_orderOf (d + 1) F bc bs 128 [some (.inr (some a0)), some (.inl x1), some (.inl x2)] [] h
                refine bz_aload_n (pc := 128) dX12_orderOf_128 rfl rfl ?_
                refine bz_iload_n (pc := 129) dX12_orderOf_129 rfl rfl ?_
                refine bz_bipush (pc := 130) dX12_orderOf_130 cb_7 ?_
                refine bz_kIV (as := [.inl x1, .inl 7]) (st := []) (ci := 12) (n := 2) (mc := 0) (ms := 0) (bc := bc) (bs := bs) (yc := kX12_ofOrder) (q := (RX12, TX12, 34)) (b := a0) (pc := 132) dX12_orderOf_132 sc_X12_ofOrder ml_X12_99 im_X12_ofOrder se_X12_ofOrder rfl rfl rfl (Nat.le_of_ble_eq_true rfl) hP19 (fun x_25 h_26 hP20 => ?_)
                clear hP19
                exact bz_retI (pc := 135) dX12_orderOf_135 rfl rfl hP20
              · have hP21 := hP18.2 c
                clear hP18
                refine ⟨fun c => ?_, fun c => ?_⟩
                · have hP22 := hP21.1 c
                  clear hP21
                  show bz_J G κ kX12_orderOf (d + 1) F bc bs 136 [some (.inr (some a0)), some (.inl x1), some (.inl x2)] [] h
                  refine bz_aload_n (pc := 136) dX12_orderOf_136 rfl rfl ?_
                  refine bz_iload_n (pc := 137) dX12_orderOf_137 rfl rfl ?_
                  refine bz_bipush (pc := 138) dX12_orderOf_138 cb_8 ?_
                  refine bz_kIV (as := [.inl x1, .inl 8]) (st := []) (ci := 12) (n := 2) (mc := 0) (ms := 0) (bc := bc) (bs := bs) (yc := kX12_ofOrder) (q := (RX12, TX12, 34)) (b := a0) (pc := 140) dX12_orderOf_140 sc_X12_ofOrder ml_X12_99 im_X12_ofOrder se_X12_ofOrder rfl rfl rfl (Nat.le_of_ble_eq_true rfl) hP22 (fun x_27 h_28 hP23 => ?_)
                  clear hP22
                  exact bz_retI (pc := 143) dX12_orderOf_143 rfl rfl hP23
                · have hP24 := hP21.2 c
                  clear hP21
                  refine ⟨fun c => ?_, fun c => ?_⟩
                  · have hP25 := hP24.1 c
                    clear hP24
                    show bz_J G κ kX12_orderOf (d + 1) F bc bs 144 [some (.inr (some a0)), some (.inl x1), some (.inl x2)] [] h
                    refine bz_aload_n (pc := 144) dX12_orderOf_144 rfl rfl ?_
                    refine bz_iload_n (pc := 145) dX12_orderOf_145 rfl rfl ?_
                    refine bz_kIV (as := [.inl x1]) (st := []) (ci := 12) (n := 1) (mc := 0) (ms := 0) (bc := bc) (bs := bs) (yc := kX12_lateOf) (q := (RX12, TX12, 34)) (b := a0) (pc := 146) dX12_orderOf_146 sc_X12_lateOf ml_X12_105 im_X12_lateOf se_X12_lateOf rfl rfl rfl (Nat.le_of_ble_eq_true rfl) hP25 (fun x_29 h_30 hP26 => ?_)
                    clear hP25
                    exact bz_retI (pc := 149) dX12_orderOf_149 rfl rfl hP26
                  · have hP27 := hP24.2 c
                    clear hP24
                    refine ⟨fun c => ?_, fun c => ?_⟩
                    · have hP28 := hP27.1 c
                      clear hP27
                      show bz_J G κ kX12_orderOf (d + 1) F bc bs 150 [some (.inr (some a0)), some (.inl x1), some (.inl x2)] [] h
                      refine bz_aload_n (pc := 150) dX12_orderOf_150 rfl rfl ?_
                      refine bz_iload_n (pc := 151) dX12_orderOf_151 rfl rfl ?_
                      refine bz_kIV (as := [.inl x1]) (st := []) (ci := 12) (n := 1) (mc := 0) (ms := 0) (bc := bc) (bs := bs) (yc := kX12_payOf) (q := (RX12, TX12, 34)) (b := a0) (pc := 152) dX12_orderOf_152 sc_X12_payOf ml_X12_123 im_X12_payOf se_X12_payOf rfl rfl rfl (Nat.le_of_ble_eq_true rfl) hP28 (fun x_31 h_32 hP29 => ?_)
                      clear hP28
                      exact bz_retI (pc := 155) dX12_orderOf_155 rfl rfl hP29
                    · have hP30 := hP27.2 c
                      clear hP27
                      show bz_J G κ kX12_orderOf (d + 1) F bc bs 156 [some (.inr (some a0)), some (.inl x1), some (.inl x2)] [] h
                      refine bz_aload_n (pc := 156) dX12_orderOf_156 rfl rfl ?_
                      refine bz_iload_n (pc := 157) dX12_orderOf_157 rfl rfl ?_
                      refine bz_kIV (as := [.inl x1]) (st := []) (ci := 12) (n := 1) (mc := 0) (ms := 0) (bc := bc) (bs := bs) (yc := kX12_ratingOf) (q := (RX12, TX12, 34)) (b := a0) (pc := 158) dX12_orderOf_158 sc_X12_ratingOf ml_X12_126 im_X12_ratingOf se_X12_ratingOf rfl rfl rfl (Nat.le_of_ble_eq_true rfl) hP30 (fun x_33 h_34 hP31 => ?_)
                      clear hP30
                      exact bz_retI (pc := 161) dX12_orderOf_161 rfl rfl hP31
theorem m_X12_orderOf {G : bz_G} {l : Launch} {d mc ms : Nat} {F : Option bz_V → bz_H → Prop} (a0 : Nat) (x1 : Int32) (x2 : Int32) (h : bz_H) (hP : ∀ (κ : bz_K) (bc bs : Nat), κ.2.1 = l → w_X12_orderOf_0 G κ l d F bc bs a0 x1 x2 h) : bz_Call G l (d + 1) kX12_orderOf [.inr (some a0), .inl x1, .inl x2] h mc ms F :=
  bz_body (by decide) (Nat.le_of_ble_eq_true rfl) (fun κ hl => g_X12_orderOf_0 hl a0 x1 x2 h (hP κ mc ms hl))
def w_X12_order_0 (G : bz_G) (l : Launch) (d : Nat) (F : Option bz_V → bz_H → Prop) (a0 : Nat) (x1 : Int32) (x2 : Int32) (x3 : Int32) (x4 : Int32) (h : bz_H) : Prop := bz_rR h a0 12 0 (fun r_1 => bz_nn r_1 (fun a_2 => bz_rA h a_2 1 (fun x_3 => bz_cI G l d kX12_in [.inl x1, .inl 0, .inl (x_3 - 1)] h 0 0 (fun x_4 h_5 => (x_4 = 0 → bz_rc h_5 a0 12 (bz_cI G l d kX12_finding [.inr (some a0), .inl 0] h_5 0 0 (fun x_6 h_7 => F (some (.inl x_6)) h_7))) ∧ (¬ (x_4 = 0) → bz_cI G l d kX12_isCrossing [.inl x2] h_5 0 0 (fun x_8 h_9 => (x_8 = 0 → bz_rc h_9 a0 12 (bz_cI G l d kX12_finding [.inr (some a0), .inl 0] h_9 0 0 (fun x_10 h_11 => F (some (.inl x_10)) h_11))) ∧ (¬ (x_8 = 0) → bz_cI G l d kX12_in [.inl x3, .inl 10, .inl 120] h_9 0 0 (fun x_12 h_13 => (x_12 = 0 → bz_rc h_13 a0 12 (bz_cI G l d kX12_finding [.inr (some a0), .inl 0] h_13 0 0 (fun x_14 h_15 => F (some (.inl x_14)) h_15))) ∧ (¬ (x_12 = 0) → bz_cI G l d kX12_in [.inl x4, .inl 0, .inl 60] h_13 0 0 (fun x_16 h_17 => (¬ x_16 = 0 → bz_rR h_17 a0 12 0 (fun r_18 => bz_nn r_18 (fun a_19 => bz_rA h_17 a_19 2 (fun x_20 => (¬ x_20 = 24 → bz_rR h_17 a0 12 0 (fun r_21 => bz_nn r_21 (fun a_22 => bz_rA h_17 a_22 2 (fun x_23 => bz_rR h_17 a0 12 0 (fun r_24 => bz_nn r_24 (fun a_25 => bz_wA h_17 a_25 ((312 + (12 * x_23)) + 0) x1 (fun h_26 => bz_rR h_26 a0 12 0 (fun r_27 => bz_nn r_27 (fun a_28 => bz_wA h_26 a_28 ((312 + (12 * x_23)) + 1) x2 (fun h_29 => bz_rR h_29 a0 12 0 (fun r_30 => bz_rR h_29 a0 12 0 (fun r_31 => bz_nn r_31 (fun a_32 => bz_rA h_29 a_32 0 (fun x_33 => bz_nn r_30 (fun a_34 => bz_wA h_29 a_34 ((312 + (12 * x_23)) + 2) x_33 (fun h_35 => bz_rR h_35 a0 12 0 (fun r_36 => bz_nn r_36 (fun a_37 => bz_wA h_35 a_37 ((312 + (12 * x_23)) + 3) x3 (fun h_38 => bz_rR h_38 a0 12 0 (fun r_39 => bz_nn r_39 (fun a_40 => bz_wA h_38 a_40 ((312 + (12 * x_23)) + 4) x4 (fun h_41 => bz_rR h_41 a0 12 0 (fun r_42 => bz_nn r_42 (fun a_43 => bz_wA h_41 a_43 ((312 + (12 * x_23)) + 5) 0 (fun h_44 => bz_rR h_44 a0 12 0 (fun r_45 => bz_nn r_45 (fun a_46 => bz_rA h_44 a_46 2 (fun x_47 => bz_wA h_44 a_46 2 (x_47 + 1) (fun h_48 => bz_rR h_48 a0 12 0 (fun r_49 => bz_nn r_49 (fun a_50 => bz_rA h_48 a_50 2 (fun x_51 => F (some (.inl (x_51 - 1))) h_48)))))))))))))))))))))))))))))))) ∧ (x_20 = 24 → bz_rc h_17 a0 12 (bz_cI G l d kX12_finding [.inr (some a0), .inl 1] h_17 0 0 (fun x_52 h_53 => F (some (.inl x_52)) h_53))))))) ∧ (x_16 = 0 → bz_rc h_17 a0 12 (bz_cI G l d kX12_finding [.inr (some a0), .inl 0] h_17 0 0 (fun x_54 h_55 => F (some (.inl x_54)) h_55)))))))))))))
set_option maxRecDepth 20000 in
set_option maxHeartbeats 4000000 in
theorem g_X12_order_0 {G : bz_G} {κ : bz_K} {l : Launch} {d : Nat} {F : Option bz_V → bz_H → Prop} {bc bs : Nat} (hl : κ.2.1 = l) (a0 : Nat) (x1 : Int32) (x2 : Int32) (x3 : Int32) (x4 : Int32) (h : bz_H) (hP0 : w_X12_order_0 G l d F a0 x1 x2 x3 x4 h) : bz_J G κ kX12_order (d + 1) F bc bs 0 [some (.inr (some a0)), some (.inl x1), some (.inl x2), some (.inl x3), some (.inl x4), none] [] h := by
  subst hl
  unfold w_X12_order_0 at hP0
  refine bz_iload_n (pc := 0) dX12_order_0 rfl rfl ?_
  refine bz_iconst (pc := 1) dX12_order_1 ci_0 ?_
  refine bz_aload_n (pc := 2) dX12_order_2 rfl rfl ?_
  refine bz_rw_rR (pc := 3) dX12_order_3 fl_X12_7 hP0 (fun r_1 hP1 => ?_)
  clear hP0
  refine bz_iconst (pc := 6) dX12_order_6 ci_1 ?_
  obtain ⟨a_2, rfl, hP2⟩ := hP1
  refine bz_rw_rA (pc := 7) dX12_order_7 hP2 (fun x_3 hP3 => ?_)
  clear hP2
  refine bz_iconst (pc := 8) dX12_order_8 ci_1 ?_
  refine bz_isub (pc := 9) dX12_order_9 ?_
  refine bz_kIS (as := [.inl x1, .inl 0, .inl (x_3 - 1)]) (st := []) (n := 3) (mc := 0) (ms := 0) (bc := bc) (bs := bs) (yc := kX12_in) (pc := 10) dX12_order_10 sc_X12_in ml_X12_65 ss_X12_in rfl (Nat.le_of_ble_eq_true rfl) hP3 (fun x_4 h_5 hP4 => ?_)
  clear hP3
  refine bz_if_eq (tgt := 45) (pc := 13) dX12_order_13 rfl (fun c => ?_) (fun c => ?_)
  · have hP5 := hP4.1 c
    clear hP4
    refine bz_aload_n (pc := 45) dX12_order_45 rfl rfl ?_
    refine bz_iconst (pc := 46) dX12_order_46 ci_0 ?_
    refine bz_kIV (as := [.inl 0]) (st := []) (ci := 12) (n := 1) (mc := 0) (ms := 0) (bc := bc) (bs := bs) (yc := kX12_finding) (q := (RX12, TX12, 34)) (b := a0) (pc := 47) dX12_order_47 sc_X12_finding ml_X12_73 im_X12_finding se_X12_finding rfl rfl rfl (Nat.le_of_ble_eq_true rfl) hP5 (fun x_6 h_7 hP6 => ?_)
    clear hP5
    exact bz_retI (pc := 50) dX12_order_50 rfl rfl hP6
  · have hP7 := hP4.2 c
    clear hP4
    refine bz_iload_n (pc := 16) dX12_order_16 rfl rfl ?_
    refine bz_kIS (as := [.inl x2]) (st := []) (n := 1) (mc := 0) (ms := 0) (bc := bc) (bs := bs) (yc := kX12_isCrossing) (pc := 17) dX12_order_17 sc_X12_isCrossing ml_X12_69 ss_X12_isCrossing rfl (Nat.le_of_ble_eq_true rfl) hP7 (fun x_8 h_9 hP8 => ?_)
    clear hP7
    refine bz_if_eq (tgt := 45) (pc := 20) dX12_order_20 rfl (fun c => ?_) (fun c => ?_)
    · have hP9 := hP8.1 c
      clear hP8
      refine bz_aload_n (pc := 45) dX12_order_45 rfl rfl ?_
      refine bz_iconst (pc := 46) dX12_order_46 ci_0 ?_
      refine bz_kIV (as := [.inl 0]) (st := []) (ci := 12) (n := 1) (mc := 0) (ms := 0) (bc := bc) (bs := bs) (yc := kX12_finding) (q := (RX12, TX12, 34)) (b := a0) (pc := 47) dX12_order_47 sc_X12_finding ml_X12_73 im_X12_finding se_X12_finding rfl rfl rfl (Nat.le_of_ble_eq_true rfl) hP9 (fun x_10 h_11 hP10 => ?_)
      clear hP9
      exact bz_retI (pc := 50) dX12_order_50 rfl rfl hP10
    · have hP11 := hP8.2 c
      clear hP8
      refine bz_iload_n (pc := 23) dX12_order_23 rfl rfl ?_
      refine bz_bipush (pc := 24) dX12_order_24 cb_10 ?_
      refine bz_bipush (pc := 26) dX12_order_26 cb_120 ?_
      refine bz_kIS (as := [.inl x3, .inl 10, .inl 120]) (st := []) (n := 3) (mc := 0) (ms := 0) (bc := bc) (bs := bs) (yc := kX12_in) (pc := 28) dX12_order_28 sc_X12_in ml_X12_65 ss_X12_in rfl (Nat.le_of_ble_eq_true rfl) hP11 (fun x_12 h_13 hP12 => ?_)
      clear hP11
      refine bz_if_eq (tgt := 45) (pc := 31) dX12_order_31 rfl (fun c => ?_) (fun c => ?_)
      · have hP13 := hP12.1 c
        clear hP12
        refine bz_aload_n (pc := 45) dX12_order_45 rfl rfl ?_
        refine bz_iconst (pc := 46) dX12_order_46 ci_0 ?_
        refine bz_kIV (as := [.inl 0]) (st := []) (ci := 12) (n := 1) (mc := 0) (ms := 0) (bc := bc) (bs := bs) (yc := kX12_finding) (q := (RX12, TX12, 34)) (b := a0) (pc := 47) dX12_order_47 sc_X12_finding ml_X12_73 im_X12_finding se_X12_finding rfl rfl rfl (Nat.le_of_ble_eq_true rfl) hP13 (fun x_14 h_15 hP14 => ?_)
        clear hP13
        exact bz_retI (pc := 50) dX12_order_50 rfl rfl hP14
      · have hP15 := hP12.2 c
        clear hP12
        refine bz_iload (pc := 34) dX12_order_34 rfl ?_
        refine bz_iconst (pc := 36) dX12_order_36 ci_0 ?_
        refine bz_bipush (pc := 37) dX12_order_37 cb_60 ?_
        refine bz_kIS (as := [.inl x4, .inl 0, .inl 60]) (st := []) (n := 3) (mc := 0) (ms := 0) (bc := bc) (bs := bs) (yc := kX12_in) (pc := 39) dX12_order_39 sc_X12_in ml_X12_65 ss_X12_in rfl (Nat.le_of_ble_eq_true rfl) hP15 (fun x_16 h_17 hP16 => ?_)
        clear hP15
        refine bz_if_ne (tgt := 51) (pc := 42) dX12_order_42 rfl (fun c => ?_) (fun c => ?_)
        · have hP17 := hP16.1 c
          clear hP16
          refine bz_aload_n (pc := 51) dX12_order_51 rfl rfl ?_
          refine bz_rw_rR (pc := 52) dX12_order_52 fl_X12_7 hP17 (fun r_18 hP18 => ?_)
          clear hP17
          refine bz_iconst (pc := 55) dX12_order_55 ci_2 ?_
          obtain ⟨a_19, rfl, hP19⟩ := hP18
          refine bz_rw_rA (pc := 56) dX12_order_56 hP19 (fun x_20 hP20 => ?_)
          clear hP19
          refine bz_bipush (pc := 57) dX12_order_57 cb_24 ?_
          refine bz_icmp_ne (tgt := 68) (pc := 59) dX12_order_59 rfl (fun c => ?_) (fun c => ?_)
          · have hP21 := hP20.1 c
            clear hP20
            refine bz_sipush (pc := 68) dX12_order_68 cs_312 ?_
            refine bz_bipush (pc := 71) dX12_order_71 cb_12 ?_
            refine bz_aload_n (pc := 73) dX12_order_73 rfl rfl ?_
            refine bz_rw_rR (pc := 74) dX12_order_74 fl_X12_7 hP21 (fun r_21 hP22 => ?_)
            clear hP21
            refine bz_iconst (pc := 77) dX12_order_77 ci_2 ?_
            obtain ⟨a_22, rfl, hP23⟩ := hP22
            refine bz_rw_rA (pc := 78) dX12_order_78 hP23 (fun x_23 hP24 => ?_)
            clear hP23
            refine bz_imul (pc := 79) dX12_order_79 ?_
            refine bz_iadd (pc := 80) dX12_order_80 ?_
            refine bz_s_istore (pc := 81) dX12_order_81 (Nat.le_of_ble_eq_true rfl) [some (.inr (some a0)), some (.inl x1), some (.inl x2), some (.inl x3), some (.inl x4), some (.inl (312 + (12 * x_23)))] rfl ?_
            refine bz_aload_n (pc := 83) dX12_order_83 rfl rfl ?_
            refine bz_rw_rR (pc := 84) dX12_order_84 fl_X12_7 hP24 (fun r_24 hP25 => ?_)
            clear hP24
            refine bz_iload (pc := 87) dX12_order_87 rfl ?_
            refine bz_iconst (pc := 89) dX12_order_89 ci_0 ?_
            refine bz_iadd (pc := 90) dX12_order_90 ?_
            refine bz_iload_n (pc := 91) dX12_order_91 rfl rfl ?_
            obtain ⟨a_25, rfl, hP26⟩ := hP25
            refine bz_rw_wA (pc := 92) dX12_order_92 hP26 (fun h_26 hP27 => ?_)
            clear hP26
            refine bz_aload_n (pc := 93) dX12_order_93 rfl rfl ?_
            refine bz_rw_rR (pc := 94) dX12_order_94 fl_X12_7 hP27 (fun r_27 hP28 => ?_)
            clear hP27
            refine bz_iload (pc := 97) dX12_order_97 rfl ?_
            refine bz_iconst (pc := 99) dX12_order_99 ci_1 ?_
            refine bz_iadd (pc := 100) dX12_order_100 ?_
            refine bz_iload_n (pc := 101) dX12_order_101 rfl rfl ?_
            obtain ⟨a_28, rfl, hP29⟩ := hP28
            refine bz_rw_wA (pc := 102) dX12_order_102 hP29 (fun h_29 hP30 => ?_)
            clear hP29
            refine bz_aload_n (pc := 103) dX12_order_103 rfl rfl ?_
            refine bz_rw_rR (pc := 104) dX12_order_104 fl_X12_7 hP30 (fun r_30 hP31 => ?_)
            clear hP30
            refine bz_iload (pc := 107) dX12_order_107 rfl ?_
            refine bz_iconst (pc := 109) dX12_order_109 ci_2 ?_
            refine bz_iadd (pc := 110) dX12_order_110 ?_
            refine bz_aload_n (pc := 111) dX12_order_111 rfl rfl ?_
            refine bz_rw_rR (pc := 112) dX12_order_112 fl_X12_7 hP31 (fun r_31 hP32 => ?_)
            clear hP31
            refine bz_iconst (pc := 115) dX12_order_115 ci_0 ?_
            obtain ⟨a_32, rfl, hP33⟩ := hP32
            refine bz_rw_rA (pc := 116) dX12_order_116 hP33 (fun x_33 hP34 => ?_)
            clear hP33
            obtain ⟨a_34, rfl, hP35⟩ := hP34
            refine bz_rw_wA (pc := 117) dX12_order_117 hP35 (fun h_35 hP36 => ?_)
            clear hP35
            refine bz_aload_n (pc := 118) dX12_order_118 rfl rfl ?_
            refine bz_rw_rR (pc := 119) dX12_order_119 fl_X12_7 hP36 (fun r_36 hP37 => ?_)
            clear hP36
            refine bz_iload (pc := 122) dX12_order_122 rfl ?_
            refine bz_iconst (pc := 124) dX12_order_124 ci_3 ?_
            refine bz_iadd (pc := 125) dX12_order_125 ?_
            refine bz_iload_n (pc := 126) dX12_order_126 rfl rfl ?_
            obtain ⟨a_37, rfl, hP38⟩ := hP37
            refine bz_rw_wA (pc := 127) dX12_order_127 hP38 (fun h_38 hP39 => ?_)
            clear hP38
            refine bz_aload_n (pc := 128) dX12_order_128 rfl rfl ?_
            refine bz_rw_rR (pc := 129) dX12_order_129 fl_X12_7 hP39 (fun r_39 hP40 => ?_)
            clear hP39
            refine bz_iload (pc := 132) dX12_order_132 rfl ?_
            refine bz_iconst (pc := 134) dX12_order_134 ci_4 ?_
            refine bz_iadd (pc := 135) dX12_order_135 ?_
            refine bz_iload (pc := 136) dX12_order_136 rfl ?_
            obtain ⟨a_40, rfl, hP41⟩ := hP40
            refine bz_rw_wA (pc := 138) dX12_order_138 hP41 (fun h_41 hP42 => ?_)
            clear hP41
            refine bz_aload_n (pc := 139) dX12_order_139 rfl rfl ?_
            refine bz_rw_rR (pc := 140) dX12_order_140 fl_X12_7 hP42 (fun r_42 hP43 => ?_)
            clear hP42
            refine bz_iload (pc := 143) dX12_order_143 rfl ?_
            refine bz_iconst (pc := 145) dX12_order_145 ci_5 ?_
            refine bz_iadd (pc := 146) dX12_order_146 ?_
            refine bz_iconst (pc := 147) dX12_order_147 ci_0 ?_
            obtain ⟨a_43, rfl, hP44⟩ := hP43
            refine bz_rw_wA (pc := 148) dX12_order_148 hP44 (fun h_44 hP45 => ?_)
            clear hP44
            refine bz_aload_n (pc := 149) dX12_order_149 rfl rfl ?_
            refine bz_rw_rR (pc := 150) dX12_order_150 fl_X12_7 hP45 (fun r_45 hP46 => ?_)
            clear hP45
            refine bz_iconst (pc := 153) dX12_order_153 ci_2 ?_
            refine bz_dup2 (pc := 154) dX12_order_154 ?_
            obtain ⟨a_46, rfl, hP47⟩ := hP46
            refine bz_rw_rA (pc := 155) dX12_order_155 hP47 (fun x_47 hP48 => ?_)
            clear hP47
            refine bz_iconst (pc := 156) dX12_order_156 ci_1 ?_
            refine bz_iadd (pc := 157) dX12_order_157 ?_
            refine bz_rw_wA (pc := 158) dX12_order_158 hP48 (fun h_48 hP49 => ?_)
            clear hP48
            refine bz_aload_n (pc := 159) dX12_order_159 rfl rfl ?_
            refine bz_rw_rR (pc := 160) dX12_order_160 fl_X12_7 hP49 (fun r_49 hP50 => ?_)
            clear hP49
            refine bz_iconst (pc := 163) dX12_order_163 ci_2 ?_
            obtain ⟨a_50, rfl, hP51⟩ := hP50
            refine bz_rw_rA (pc := 164) dX12_order_164 hP51 (fun x_51 hP52 => ?_)
            clear hP51
            refine bz_iconst (pc := 165) dX12_order_165 ci_1 ?_
            refine bz_isub (pc := 166) dX12_order_166 ?_
            exact bz_retI (pc := 167) dX12_order_167 rfl rfl hP52
          · have hP53 := hP20.2 c
            clear hP20
            refine bz_aload_n (pc := 62) dX12_order_62 rfl rfl ?_
            refine bz_iconst (pc := 63) dX12_order_63 ci_1 ?_
            refine bz_kIV (as := [.inl 1]) (st := []) (ci := 12) (n := 1) (mc := 0) (ms := 0) (bc := bc) (bs := bs) (yc := kX12_finding) (q := (RX12, TX12, 34)) (b := a0) (pc := 64) dX12_order_64 sc_X12_finding ml_X12_73 im_X12_finding se_X12_finding rfl rfl rfl (Nat.le_of_ble_eq_true rfl) hP53 (fun x_52 h_53 hP54 => ?_)
            clear hP53
            exact bz_retI (pc := 67) dX12_order_67 rfl rfl hP54
        · have hP55 := hP16.2 c
          clear hP16
          refine bz_aload_n (pc := 45) dX12_order_45 rfl rfl ?_
          refine bz_iconst (pc := 46) dX12_order_46 ci_0 ?_
          refine bz_kIV (as := [.inl 0]) (st := []) (ci := 12) (n := 1) (mc := 0) (ms := 0) (bc := bc) (bs := bs) (yc := kX12_finding) (q := (RX12, TX12, 34)) (b := a0) (pc := 47) dX12_order_47 sc_X12_finding ml_X12_73 im_X12_finding se_X12_finding rfl rfl rfl (Nat.le_of_ble_eq_true rfl) hP55 (fun x_54 h_55 hP56 => ?_)
          clear hP55
          exact bz_retI (pc := 50) dX12_order_50 rfl rfl hP56
theorem m_X12_order {G : bz_G} {l : Launch} {d mc ms : Nat} {F : Option bz_V → bz_H → Prop} (a0 : Nat) (x1 : Int32) (x2 : Int32) (x3 : Int32) (x4 : Int32) (h : bz_H) (hP : w_X12_order_0 G l d F a0 x1 x2 x3 x4 h) : bz_Call G l (d + 1) kX12_order [.inr (some a0), .inl x1, .inl x2, .inl x3, .inl x4] h mc ms F :=
  bz_body (by decide) (Nat.le_of_ble_eq_true rfl) (fun κ hl => g_X12_order_0 hl a0 x1 x2 x3 x4 h hP)
