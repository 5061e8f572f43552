def w_X12_isElsewhere_0 (G : bz_G) (κ : bz_K) (l : Launch) (d : Nat) (F : Option bz_V → bz_H → Prop) (bc bs : Nat) (a0 : Nat) (x1 : Int32) (x2 : Int32) (h : bz_H) : Prop := bz_J G κ kX12_isElsewhere (d + 1) F bc bs 15 [some (.inr (some a0)), some (.inl x1), some (.inl x2), some (.inl (726 + (9 * x1))), some (.inl 0), some (.inl 0)] [] h
set_option maxRecDepth 20000 in
set_option maxHeartbeats 4000000 in
theorem g_X12_isElsewhere_0 {G : bz_G} {κ : bz_K} {l : Launch} {d : Nat} {F : Option bz_V → bz_H → Prop} {bc bs : Nat} (hl : κ.2.1 = l) (a0 : Nat) (x1 : Int32) (x2 : Int32) (h : bz_H) (hP0 : w_X12_isElsewhere_0 G κ l d F bc bs a0 x1 x2 h) : bz_J G κ kX12_isElsewhere (d + 1) F bc bs 0 [some (.inr (some a0)), some (.inl x1), some (.inl x2), none, none, none] [] h := by
  subst hl
  unfold w_X12_isElsewhere_0 at hP0
  refine bz_sipush (pc := 0) dX12_isElsewhere_0 cs_726 ?_
  refine bz_bipush (pc := 3) dX12_isElsewhere_3 cb_9 ?_
  refine bz_iload_n (pc := 5) dX12_isElsewhere_5 rfl rfl ?_
  refine bz_imul (pc := 6) dX12_isElsewhere_6 ?_
  refine bz_iadd (pc := 7) dX12_isElsewhere_7 ?_
  refine bz_s_istore_n (pc := 8) dX12_isElsewhere_8 rfl (Nat.le_of_ble_eq_true rfl) [some (.inr (some a0)), some (.inl x1), some (.inl x2), some (.inl (726 + (9 * x1))), none, none] rfl ?_
  refine bz_iconst (pc := 9) dX12_isElsewhere_9 ci_0 ?_
  refine bz_s_istore (pc := 10) dX12_isElsewhere_10 (Nat.le_of_ble_eq_true rfl) [some (.inr (some a0)), some (.inl x1), some (.inl x2), some (.inl (726 + (9 * x1))), some (.inl 0), none] rfl ?_
  refine bz_iconst (pc := 12) dX12_isElsewhere_12 ci_0 ?_
  refine bz_s_istore (pc := 13) dX12_isElsewhere_13 (Nat.le_of_ble_eq_true rfl) [some (.inr (some a0)), some (.inl x1), some (.inl x2), some (.inl (726 + (9 * x1))), some (.inl 0), some (.inl 0)] rfl ?_
  exact hP0
def w_X12_isElsewhere_15 (G : bz_G) (κ : bz_K) (l : Launch) (d : Nat) (F : Option bz_V → bz_H → Prop) (bc bs : Nat) (a0 : Nat) (x1 : Int32) (x2 : Int32) (x3 : Int32) (x4 : Int32) (x5 : Int32) (h : bz_H) : Prop := bz_rR h a0 12 0 (fun r_1 => bz_nn r_1 (fun a_2 => bz_rA h a_2 x3 (fun x_3 => (x_3 ≤ x5 → bz_b x4 (F (some (.inl x4)) h)) ∧ (¬ (x_3 ≤ x5) → (¬ x4 = 0 → bz_b x4 (F (some (.inl x4)) h)) ∧ (x4 = 0 → bz_rR h a0 12 0 (fun r_4 => bz_nn r_4 (fun a_5 => bz_rA h a_5 ((x3 + 1) + (2 * x5)) (fun x_6 => bz_rR h a0 12 0 (fun r_7 => bz_nn r_7 (fun a_8 => bz_rA h a_8 ((x3 + 2) + (2 * x5)) (fun x_9 => bz_cI G l d kX12_in [.inl x2, .inl x_6, .inl (x_9 - 1)] h 0 0 (fun x_10 h_11 => bz_J G κ kX12_isElsewhere (d + 1) F bc bs 15 [some (.inr (some a0)), some (.inl x1), some (.inl x2), some (.inl x3), some (.inl x_10), some (.inl (x5 + 1))] [] h_11))))))))))))
set_option maxRecDepth 20000 in
set_option maxHeartbeats 4000000 in
theorem g_X12_isElsewhere_15 {G : bz_G} {κ : bz_K} {l : Launch} {d : Nat} {F : Option bz_V → bz_H → Prop} {bc bs : Nat} (hl : κ.2.1 = l) (a0 : Nat) (x1 : Int32) (x2 : Int32) (x3 : Int32) (x4 : Int32) (x5 : Int32) (h : bz_H) (hP0 : w_X12_isElsewhere_15 G κ l d F bc bs a0 x1 x2 x3 x4 x5 h) : bz_J G κ kX12_isElsewhere (d + 1) F bc bs 15 [some (.inr (some a0)), some (.inl x1), some (.inl x2), some (.inl x3), some (.inl x4), some (.inl x5)] [] h := by
  subst hl
  unfold w_X12_isElsewhere_15 at hP0
  refine bz_iload (pc := 15) dX12_isElsewhere_15 rfl ?_
  refine bz_aload_n (pc := 17) dX12_isElsewhere_17 rfl rfl ?_
  refine bz_rw_rR (pc := 18) dX12_isElsewhere_18 fl_X12_7 hP0 (fun r_1 hP1 => ?_)
  clear hP0
  refine bz_iload_n (pc := 21) dX12_isElsewhere_21 rfl rfl ?_
  obtain ⟨a_2, rfl, hP2⟩ := hP1
  refine bz_rw_rA (pc := 22) dX12_isElsewhere_22 hP2 (fun x_3 hP3 => ?_)
  clear hP2
  refine bz_icmp_ge (tgt := 71) (pc := 23) dX12_isElsewhere_23 rfl (fun c => ?_) (fun c => ?_)
  · have hP4 := hP3.1 c
    clear hP3
    refine bz_iload (pc := 71) dX12_isElsewhere_71 rfl ?_
    obtain ⟨hb, hP5⟩ := hP4
    exact bz_retI (pc := 73) dX12_isElsewhere_73 rfl (by rcases hb with hb | hb <;> rw [hb] <;> rfl) hP5
  · have hP6 := hP3.2 c
    clear hP3
    refine bz_iload (pc := 26) dX12_isElsewhere_26 rfl ?_
    refine bz_if_ne (tgt := 71) (pc := 28) dX12_isElsewhere_28 rfl (fun c => ?_) (fun c => ?_)
    · have hP7 := hP6.1 c
      clear hP6
      refine bz_iload (pc := 71) dX12_isElsewhere_71 rfl ?_
      obtain ⟨hb, hP8⟩ := hP7
      exact bz_retI (pc := 73) dX12_isElsewhere_73 rfl (by rcases hb with hb | hb <;> rw [hb] <;> rfl) hP8
    · have hP9 := hP6.2 c
      clear hP6
      refine bz_iload_n (pc := 31) dX12_isElsewhere_31 rfl rfl ?_
      refine bz_aload_n (pc := 32) dX12_isElsewhere_32 rfl rfl ?_
      refine bz_rw_rR (pc := 33) dX12_isElsewhere_33 fl_X12_7 hP9 (fun r_4 hP10 => ?_)
      clear hP9
      refine bz_iload_n (pc := 36) dX12_isElsewhere_36 rfl rfl ?_
      refine bz_iconst (pc := 37) dX12_isElsewhere_37 ci_1 ?_
      refine bz_iadd (pc := 38) dX12_isElsewhere_38 ?_
      refine bz_iconst (pc := 39) dX12_isElsewhere_39 ci_2 ?_
      refine bz_iload (pc := 40) dX12_isElsewhere_40 rfl ?_
      refine bz_imul (pc := 42) dX12_isElsewhere_42 ?_
      refine bz_iadd (pc := 43) dX12_isElsewhere_43 ?_
      obtain ⟨a_5, rfl, hP11⟩ := hP10
      refine bz_rw_rA (pc := 44) dX12_isElsewhere_44 hP11 (fun x_6 hP12 => ?_)
      clear hP11
      refine bz_aload_n (pc := 45) dX12_isElsewhere_45 rfl rfl ?_
      refine bz_rw_rR (pc := 46) dX12_isElsewhere_46 fl_X12_7 hP12 (fun r_7 hP13 => ?_)
      clear hP12
      refine bz_iload_n (pc := 49) dX12_isElsewhere_49 rfl rfl ?_
      refine bz_iconst (pc := 50) dX12_isElsewhere_50 ci_2 ?_
      refine bz_iadd (pc := 51) dX12_isElsewhere_51 ?_
      refine bz_iconst (pc := 52) dX12_isElsewhere_52 ci_2 ?_
      refine bz_iload (pc := 53) dX12_isElsewhere_53 rfl ?_
      refine bz_imul (pc := 55) dX12_isElsewhere_55 ?_
      refine bz_iadd (pc := 56) dX12_isElsewhere_56 ?_
      obtain ⟨a_8, rfl, hP14⟩ := hP13
      refine bz_rw_rA (pc := 57) dX12_isElsewhere_57 hP14 (fun x_9 hP15 => ?_)
      clear hP14
      refine bz_iconst (pc := 58) dX12_isElsewhere_58 ci_1 ?_
      refine bz_isub (pc := 59) dX12_isElsewhere_59 ?_
      refine bz_kIS (as := [.inl x2, .inl x_6, .inl (x_9 - 1)]) (st := []) (n := 3) (mc := 0) (ms := 0) (bc := bc) (bs := bs) (yc := kX12_in) (pc := 60) dX12_isElsewhere_60 sc_X12_in ml_X12_65 ss_X12_in rfl (Nat.le_of_ble_eq_true rfl) hP15 (fun x_10 h_11 hP16 => ?_)
      clear hP15
      refine bz_s_istore (pc := 63) dX12_isElsewhere_63 (Nat.le_of_ble_eq_true rfl) [some (.inr (some a0)), some (.inl x1), some (.inl x2), some (.inl x3), some (.inl x_10), some (.inl x5)] rfl ?_
      refine bz_s_iinc (pc := 65) dX12_isElsewhere_65 (Nat.le_of_ble_eq_true rfl) rfl rfl [some (.inr (some a0)), some (.inl x1), some (.inl x2), some (.inl x3), some (.inl x_10), some (.inl (x5 + 1))] rfl ?_
      refine bz_goto (tgt := 15) (pc := 68) dX12_isElsewhere_68 rfl ?_
      exact hP16
theorem m_X12_isElsewhere {G : bz_G} {l : Launch} {d mc ms : Nat} {F : Option bz_V → bz_H → Prop} (a0 : Nat) (x1 : Int32) (x2 : Int32) (h : bz_H) (hP : ∀ (κ : bz_K) (bc bs : Nat), κ.2.1 = l → w_X12_isElsewhere_0 G κ l d F bc bs a0 x1 x2 h) : bz_Call G l (d + 1) kX12_isElsewhere [.inr (some a0), .inl x1, .inl x2] h mc ms F :=
  bz_body (by decide) (Nat.le_of_ble_eq_true rfl) (fun κ hl => g_X12_isElsewhere_0 hl a0 x1 x2 h (hP κ mc ms hl))
def w_X12_isGiven_0 (G : bz_G) (l : Launch) (d : Nat) (F : Option bz_V → bz_H → Prop) (a0 : Nat) (x1 : Int32) (h : bz_H) : Prop := bz_rc h a0 12 (bz_cI G l d kX12_ofOrder [.inr (some a0), .inl x1, .inl 5] h 0 0 (fun x_1 h_2 => F (some (.inl (if x_1 = 1 then 1 else 0))) h_2))
set_option maxRecDepth 20000 in
set_option maxHeartbeats 4000000 in
theorem g_X12_isGiven_0 {G : bz_G} {κ : bz_K} {l : Launch} {d : Nat} {F : Option bz_V → bz_H → Prop} {bc bs : Nat} (hl : κ.2.1 = l) (a0 : Nat) (x1 : Int32) (h : bz_H) (hP0 : w_X12_isGiven_0 G l d F a0 x1 h) : bz_J G κ kX12_isGiven (d + 1) F bc bs 0 [some (.inr (some a0)), some (.inl x1)] [] h := by
  subst hl
  unfold w_X12_isGiven_0 at hP0
  refine bz_aload_n (pc := 0) dX12_isGiven_0 rfl rfl ?_
  refine bz_iload_n (pc := 1) dX12_isGiven_1 rfl rfl ?_
  refine bz_iconst (pc := 2) dX12_isGiven_2 ci_5 ?_
  refine bz_kIV (as := [.inl x1, .inl 5]) (st := []) (ci := 12) (n := 2) (mc := 0) (ms := 0) (bc := bc) (bs := bs) (yc := kX12_ofOrder) (q := (RX12, TX12, 34)) (b := a0) (pc := 3) dX12_isGiven_3 sc_X12_ofOrder ml_X12_99 im_X12_ofOrder se_X12_ofOrder rfl rfl rfl (Nat.le_of_ble_eq_true rfl) hP0 (fun x_1 h_2 hP1 => ?_)
  clear hP0
  refine bz_iconst (pc := 6) dX12_isGiven_6 ci_1 ?_
  have hJ : bz_J G κ kX12_isGiven (d + 1) F bc bs 15 [some (.inr (some a0)), some (.inl x1)] [.inl (if x_1 = 1 then 1 else 0)] h_2 := by
    exact bz_retI (pc := 15) dX12_isGiven_15 rfl (by (repeat' split) <;> rfl) hP1
  refine bz_icmp_ne (tgt := 14) (pc := 7) dX12_isGiven_7 rfl (fun c => ?_) (fun c => ?_)
  · have e9 : ((if x_1 = 1 then 1 else 0) : Int32) = (0) := if_neg c
    rw [e9] at hJ
    refine bz_iconst (pc := 14) dX12_isGiven_14 ci_0 ?_
    exact hJ
  · have e9 : ((if x_1 = 1 then 1 else 0) : Int32) = (1) := if_pos c
    rw [e9] at hJ
    refine bz_iconst (pc := 10) dX12_isGiven_10 ci_1 ?_
    refine bz_goto (tgt := 15) (pc := 11) dX12_isGiven_11 rfl ?_
    exact hJ
theorem m_X12_isGiven {G : bz_G} {l : Launch} {d mc ms : Nat} {F : Option bz_V → bz_H → Prop} (a0 : Nat) (x1 : Int32) (h : bz_H) (hP : w_X12_isGiven_0 G l d F a0 x1 h) : bz_Call G l (d + 1) kX12_isGiven [.inr (some a0), .inl x1] h mc ms F :=
  bz_body (by decide) (Nat.le_of_ble_eq_true rfl) (fun κ hl => g_X12_isGiven_0 hl a0 x1 h hP)
def w_X12_isHis_0 (G : bz_G) (l : Launch) (d : Nat) (F : Option bz_V → bz_H → Prop) (a0 : Nat) (x1 : Int32) (x2 : Int32) (h : bz_H) : Prop := bz_rc h a0 12 (bz_cI G l d kX12_isGiven [.inr (some a0), .inl x2] h 0 0 (fun x_1 h_2 => (x_1 = 0 → F (some (.inl 0)) h_2) ∧ (¬ (x_1 = 0) → bz_rc h_2 a0 12 (bz_cI G l d kX12_ofOrder [.inr (some a0), .inl x2, .inl 6] h_2 0 0 (fun x_3 h_4 => F (some (.inl (if x_3 = x1 then 1 else 0))) h_4)))))
set_option maxRecDepth 20000 in
set_option maxHeartbeats 4000000 in
theorem g_X12_isHis_0 {G : bz_G} {κ : bz_K} {l : Launch} {d : Nat} {F : Option bz_V → bz_H → Prop} {bc bs : Nat} (hl : κ.2.1 = l) (a0 : Nat) (x1 : Int32) (x2 : Int32) (h : bz_H) (hP0 : w_X12_isHis_0 G l d F a0 x1 x2 h) : bz_J G κ kX12_isHis (d + 1) F bc bs 0 [some (.inr (some a0)), some (.inl x1), some (.inl x2)] [] h := by
  subst hl
  unfold w_X12_isHis_0 at hP0
  refine bz_aload_n (pc := 0) dX12_isHis_0 rfl rfl ?_
  refine bz_iload_n (pc := 1) dX12_isHis_1 rfl rfl ?_
  refine bz_kIV (as := [.inl x2]) (st := []) (ci := 12) (n := 1) (mc := 0) (ms := 0) (bc := bc) (bs := bs) (yc := kX12_isGiven) (q := (RX12, TX12, 34)) (b := a0) (pc := 2) dX12_isHis_2 sc_X12_isGiven ml_X12_120 im_X12_isGiven se_X12_isGiven rfl rfl rfl (Nat.le_of_ble_eq_true rfl) hP0 (fun x_1 h_2 hP1 => ?_)
  clear hP0
  refine bz_if_eq (tgt := 23) (pc := 5) dX12_isHis_5 rfl (fun c => ?_) (fun c => ?_)
  · have hP2 := hP1.1 c
    clear hP1
    refine bz_iconst (pc := 23) dX12_isHis_23 ci_0 ?_
    exact bz_retI (pc := 24) dX12_isHis_24 rfl rfl hP2
  · have hP3 := hP1.2 c
    clear hP1
    refine bz_aload_n (pc := 8) dX12_isHis_8 rfl rfl ?_
    refine bz_iload_n (pc := 9) dX12_isHis_9 rfl rfl ?_
    refine bz_bipush (pc := 10) dX12_isHis_10 cb_6 ?_
    refine bz_kIV (as := [.inl x2, .inl 6]) (st := []) (ci := 12) (n := 2) (mc := 0) (ms := 0) (bc := bc) (bs := bs) (yc := kX12_ofOrder) (q := (RX12, TX12, 34)) (b := a0) (pc := 12) dX12_isHis_12 sc_X12_ofOrder ml_X12_99 im_X12_ofOrder se_X12_ofOrder rfl rfl rfl (Nat.le_of_ble_eq_true rfl) hP3 (fun x_3 h_4 hP4 => ?_)
    clear hP3
    refine bz_iload_n (pc := 15) dX12_isHis_15 rfl rfl ?_
    have hJ : bz_J G κ kX12_isHis (d + 1) F bc bs 24 [some (.inr (some a0)), some (.inl x1), some (.inl x2)] [.inl (if x_3 = x1 then 1 else 0)] h_4 := by
      exact bz_retI (pc := 24) dX12_isHis_24 rfl (by (repeat' split) <;> rfl) hP4
    refine bz_icmp_ne (tgt := 23) (pc := 16) dX12_isHis_16 rfl (fun c => ?_) (fun c => ?_)
    · have e9 : ((if x_3 = x1 then 1 else 0) : Int32) = (0) := if_neg c
      rw [e9] at hJ
      refine bz_iconst (pc := 23) dX12_isHis_23 ci_0 ?_
      exact hJ
    · have e9 : ((if x_3 = x1 then 1 else 0) : Int32) = (1) := if_pos c
      rw [e9] at hJ
      refine bz_iconst (pc := 19) dX12_isHis_19 ci_1 ?_
      refine bz_goto (tgt := 24) (pc := 20) dX12_isHis_20 rfl ?_
      exact hJ
theorem m_X12_isHis {G : bz_G} {l : Launch} {d mc ms : Nat} {F : Option bz_V → bz_H → Prop} (a0 : Nat) (x1 : Int32) (x2 : Int32) (h : bz_H) (hP : w_X12_isHis_0 G l d F a0 x1 x2 h) : bz_Call G l (d + 1) kX12_isHis [.inr (some a0), .inl x1, .inl x2] h mc ms F :=
  bz_body (by decide) (Nat.le_of_ble_eq_true rfl) (fun κ hl => g_X12_isHis_0 hl a0 x1 x2 h hP)
def w_X12_isMinute_0 (G : bz_G) (l : Launch) (d : Nat) (F : Option bz_V → bz_H → Prop) (x0 : Int32) (h : bz_H) : Prop := bz_cI G l d kX12_in [.inl x0, .inl 0, .inl 1439] h 0 0 (fun x_1 h_2 => bz_b x_1 (F (some (.inl x_1)) h_2))
set_option maxRecDepth 20000 in
set_option maxHeartbeats 4000000 in
theorem g_X12_isMinute_0 {G : bz_G} {κ : bz_K} {l : Launch} {d : Nat} {F : Option bz_V → bz_H → Prop} {bc bs : Nat} (hl : κ.2.1 = l) (x0 : Int32) (h : bz_H) (hP0 : w_X12_isMinute_0 G l d F x0 h) : bz_J G κ kX12_isMinute (d + 1) F bc bs 0 [some (.inl x0)] [] h := by
  subst hl
  unfold w_X12_isMinute_0 at hP0
  refine bz_iload_n (pc := 0) dX12_isMinute_0 rfl rfl ?_
  refine bz_iconst (pc := 1) dX12_isMinute_1 ci_0 ?_
  refine bz_sipush (pc := 2) dX12_isMinute_2 cs_1439 ?_
  refine bz_kIS (as := [.inl x0, .inl 0, .inl 1439]) (st := []) (n := 3) (mc := 0) (ms := 0) (bc := bc) (bs := bs) (yc := kX12_in) (pc := 5) dX12_isMinute_5 sc_X12_in ml_X12_65 ss_X12_in rfl (Nat.le_of_ble_eq_true rfl) hP0 (fun x_1 h_2 hP1 => ?_)
  clear hP0
  obtain ⟨hb, hP2⟩ := hP1
  exact bz_retI (pc := 8) dX12_isMinute_8 rfl (by rcases hb with hb | hb <;> rw [hb] <;> rfl) hP2
theorem m_X12_isMinute {G : bz_G} {l : Launch} {d mc ms : Nat} {F : Option bz_V → bz_H → Prop} (x0 : Int32) (h : bz_H) (hP : w_X12_isMinute_0 G l d F x0 h) : bz_Call G l (d + 1) kX12_isMinute [.inl x0] h mc ms F :=
  bz_body (by decide) (Nat.le_of_ble_eq_true rfl) (fun κ hl => g_X12_isMinute_0 hl x0 h hP)
def w_X12_isName_0 (G : bz_G) (l : Launch) (d : Nat) (F : Option bz_V → bz_H → Prop) (x0 : Int32) (h : bz_H) : Prop := F (some (.inl (if x0 = 100 then 1 else if x0 = 119 then 1 else if x0 = 104 then 1 else if x0 = 114 then 1 else if x0 = 108 then 1 else if x0 = 99 then 1 else if x0 = 110 then 1 else 0))) h
set_option maxRecDepth 20000 in
set_option maxHeartbeats 4000000 in
theorem g_X12_isName_0 {G : bz_G} {κ : bz_K} {l : Launch} {d : Nat} {F : Option bz_V → bz_H → Prop} {bc bs : Nat} (hl : κ.2.1 = l) (x0 : Int32) (h : bz_H) (hP0 : w_X12_isName_0 G l d F x0 h) : bz_J G κ kX12_isName (d + 1) F bc bs 0 [some (.inl x0)] [] h := by
  subst hl
  unfold w_X12_isName_0 at hP0
  refine bz_iload_n (pc := 0) dX12_isName_0 rfl rfl ?_
  refine bz_bipush (pc := 1) dX12_isName_1 cb_100 ?_
  have hJ : bz_J G κ kX12_isName (d + 1) F bc bs 47 [some (.inl x0)] [.inl (if x0 = 100 then 1 else if x0 = 119 then 1 else if x0 = 104 then 1 else if x0 = 114 then 1 else if x0 = 108 then 1 else if x0 = 99 then 1 else if x0 = 110 then 1 else 0)] h := by
    exact bz_retI (pc := 47) dX12_isName_47 rfl (by (repeat' split) <;> rfl) hP0
  refine bz_icmp_eq (tgt := 42) (pc := 3) dX12_isName_3 rfl (fun c => ?_) (fun c => ?_)
  · have e9 : ((if x0 = 100 then 1 else if x0 = 119 then 1 else if x0 = 104 then 1 else if x0 = 114 then 1 else if x0 = 108 then 1 else if x0 = 99 then 1 else if x0 = 110 then 1 else 0) : Int32) = (1) := if_pos c
    rw [e9] at hJ
    refine bz_iconst (pc := 42) dX12_isName_42 ci_1 ?_
    refine bz_goto (tgt := 47) (pc := 43) dX12_isName_43 rfl ?_
    exact hJ
  · have e9 : ((if x0 = 100 then 1 else if x0 = 119 then 1 else if x0 = 104 then 1 else if x0 = 114 then 1 else if x0 = 108 then 1 else if x0 = 99 then 1 else if x0 = 110 then 1 else 0) : Int32) = (if x0 = 119 then 1 else if x0 = 104 then 1 else if x0 = 114 then 1 else if x0 = 108 then 1 else if x0 = 99 then 1 else if x0 = 110 then 1 else 0) := if_neg c
    rw [e9] at hJ
    refine bz_iload_n (pc := 6) dX12_isName_6 rfl rfl ?_
    refine bz_bipush (pc := 7) dX12_isName_7 cb_119 ?_
    refine bz_icmp_eq (tgt := 42) (pc := 9) dX12_isName_9 rfl (fun c => ?_) (fun c => ?_)
    · have e9 : ((if x0 = 119 then 1 else if x0 = 104 then 1 else if x0 = 114 then 1 else if x0 = 108 then 1 else if x0 = 99 then 1 else if x0 = 110 then 1 else 0) : Int32) = (1) := if_pos c
      rw [e9] at hJ
      refine bz_iconst (pc := 42) dX12_isName_42 ci_1 ?_
      refine bz_goto (tgt := 47) (pc := 43) dX12_isName_43 rfl ?_
      exact hJ
    · have e9 : ((if x0 = 119 then 1 else if x0 = 104 then 1 else if x0 = 114 then 1 else if x0 = 108 then 1 else if x0 = 99 then 1 else if x0 = 110 then 1 else 0) : Int32) = (if x0 = 104 then 1 else if x0 = 114 then 1 else if x0 = 108 then 1 else if x0 = 99 then 1 else if x0 = 110 then 1 else 0) := if_neg c
      rw [e9] at hJ
      refine bz_iload_n (pc := 12) dX12_isName_12 rfl rfl ?_
      refine bz_bipush (pc := 13) dX12_isName_13 cb_104 ?_
      refine bz_icmp_eq (tgt := 42) (pc := 15) dX12_isName_15 rfl (fun c => ?_) (fun c => ?_)
      · have e9 : ((if x0 = 104 then 1 else if x0 = 114 then 1 else if x0 = 108 then 1 else if x0 = 99 then 1 else if x0 = 110 then 1 else 0) : Int32) = (1) := if_pos c
        rw [e9] at hJ
        refine bz_iconst (pc := 42) dX12_isName_42 ci_1 ?_
        refine bz_goto (tgt := 47) (pc := 43) dX12_isName_43 rfl ?_
        exact hJ
      · have e9 : ((if x0 = 104 then 1 else if x0 = 114 then 1 else if x0 = 108 then 1 else if x0 = 99 then 1 else if x0 = 110 then 1 else 0) : Int32) = (if x0 = 114 then 1 else if x0 = 108 then 1 else if x0 = 99 then 1 else if x0 = 110 then 1 else 0) := if_neg c
        rw [e9] at hJ
        refine bz_iload_n (pc := 18) dX12_isName_18 rfl rfl ?_
        refine bz_bipush (pc := 19) dX12_isName_19 cb_114 ?_
        refine bz_icmp_eq (tgt := 42) (pc := 21) dX12_isName_21 rfl (fun c => ?_) (fun c => ?_)
        · have e9 : ((if x0 = 114 then 1 else if x0 = 108 then 1 else if x0 = 99 then 1 else if x0 = 110 then 1 else 0) : Int32) = (1) := if_pos c
          rw [e9] at hJ
          refine bz_iconst (pc := 42) dX12_isName_42 ci_1 ?_
          refine bz_goto (tgt := 47) (pc := 43) dX12_isName_43 rfl ?_
          exact hJ
        · have e9 : ((if x0 = 114 then 1 else if x0 = 108 then 1 else if x0 = 99 then 1 else if x0 = 110 then 1 else 0) : Int32) = (if x0 = 108 then 1 else if x0 = 99 then 1 else if x0 = 110 then 1 else 0) := if_neg c
          rw [e9] at hJ
          refine bz_iload_n (pc := 24) dX12_isName_24 rfl rfl ?_
          refine bz_bipush (pc := 25) dX12_isName_25 cb_108 ?_
          refine bz_icmp_eq (tgt := 42) (pc := 27) dX12_isName_27 rfl (fun c => ?_) (fun c => ?_)
          · have e9 : ((if x0 = 108 then 1 else if x0 = 99 then 1 else if x0 = 110 then 1 else 0) : Int32) = (1) := if_pos c
            rw [e9] at hJ
            refine bz_iconst (pc := 42) dX12_isName_42 ci_1 ?_
            refine bz_goto (tgt := 47) (pc := 43) dX12_isName_43 rfl ?_
            exact hJ
          · have e9 : ((if x0 = 108 then 1 else if x0 = 99 then 1 else if x0 = 110 then 1 else 0) : Int32) = (if x0 = 99 then 1 else if x0 = 110 then 1 else 0) := if_neg c
            rw [e9] at hJ
            refine bz_iload_n (pc := 30) dX12_isName_30 rfl rfl ?_
            refine bz_bipush (pc := 31) dX12_isName_31 cb_99 ?_
            refine bz_icmp_eq (tgt := 42) (pc := 33) dX12_isName_33 rfl (fun c => ?_) (fun c => ?_)
            · have e9 : ((if x0 = 99 then 1 else if x0 = 110 then 1 else 0) : Int32) = (1) := if_pos c
              rw [e9] at hJ
              refine bz_iconst (pc := 42) dX12_isName_42 ci_1 ?_
              refine bz_goto (tgt := 47) (pc := 43) dX12_isName_43 rfl ?_
              exact hJ
            · have e9 : ((if x0 = 99 then 1 else if x0 = 110 then 1 else 0) : Int32) = (if x0 = 110 then 1 else 0) := if_neg c
              rw [e9] at hJ
              refine bz_iload_n (pc := 36) dX12_isName_36 rfl rfl ?_
              refine bz_bipush (pc := 37) dX12_isName_37 cb_110 ?_
              refine bz_icmp_ne (tgt := 46) (pc := 39) dX12_isName_39 rfl (fun c => ?_) (fun c => ?_)
              · have e9 : ((if x0 = 110 then 1 else 0) : Int32) = (0) := if_neg c
                rw [e9] at hJ
                refine bz_iconst (pc := 46) dX12_isName_46 ci_0 ?_
                exact hJ
              · have e9 : ((if x0 = 110 then 1 else 0) : Int32) = (1) := if_pos c
                rw [e9] at hJ
                refine bz_iconst (pc := 42) dX12_isName_42 ci_1 ?_
                refine bz_goto (tgt := 47) (pc := 43) dX12_isName_43 rfl ?_
                exact hJ
theorem m_X12_isName {G : bz_G} {l : Launch} {d mc ms : Nat} {F : Option bz_V → bz_H → Prop} (x0 : Int32) (h : bz_H) (hP : w_X12_isName_0 G l d F x0 h) : bz_Call G l (d + 1) kX12_isName [.inl x0] h mc ms F :=
  bz_body (by decide) (Nat.le_of_ble_eq_true rfl) (fun κ hl => g_X12_isName_0 hl x0 h hP)
def w_X12_isOf_0 (G : bz_G) (l : Launch) (d : Nat) (F : Option bz_V → bz_H → Prop) (x0 : Int32) (x1 : Int32) (h : bz_H) : Prop := F (some (.inl (if x1 = 0 then 1 else if x0 = x1 then 1 else if x1 = 1 then if x0 = 4 then 1 else if x0 = 5 then 1 else if x1 = 3 then if x0 = 6 then 1 else 0 else 0 else if x1 = 3 then if x0 = 6 then 1 else 0 else 0))) h
set_option maxRecDepth 20000 in
set_option maxHeartbeats 4000000 in
theorem g_X12_isOf_0 {G : bz_G} {κ : bz_K} {l : Launch} {d : Nat} {F : Option bz_V → bz_H → Prop} {bc bs : Nat} (hl : κ.2.1 = l) (x0 : Int32) (x1 : Int32) (h : bz_H) (hP0 : w_X12_isOf_0 G l d F x0 x1 h) : bz_J G κ kX12_isOf (d + 1) F bc bs 0 [some (.inl x0), some (.inl x1)] [] h := by
  subst hl
  unfold w_X12_isOf_0 at hP0
  refine bz_iload_n (pc := 0) dX12_isOf_0 rfl rfl ?_
  have hJ : bz_J G κ kX12_isOf (d + 1) F bc bs 40 [some (.inl x0), some (.inl x1)] [.inl (if x1 = 0 then 1 else if x0 = x1 then 1 else if x1 = 1 then if x0 = 4 then 1 else if x0 = 5 then 1 else if x1 = 3 then if x0 = 6 then 1 else 0 else 0 else if x1 = 3 then if x0 = 6 then 1 else 0 else 0)] h := by
    exact bz_retI (pc := 40) dX12_isOf_40 rfl (by (repeat' split) <;> rfl) hP0
  refine bz_if_eq (tgt := 35) (pc := 1) dX12_isOf_1 rfl (fun c => ?_) (fun c => ?_)
  · have e9 : ((if x1 = 0 then 1 else if x0 = x1 then 1 else if x1 = 1 then if x0 = 4 then 1 else if x0 = 5 then 1 else if x1 = 3 then if x0 = 6 then 1 else 0 else 0 else if x1 = 3 then if x0 = 6 then 1 else 0 else 0) : Int32) = (1) := if_pos c
    rw [e9] at hJ
    refine bz_iconst (pc := 35) dX12_isOf_35 ci_1 ?_
    refine bz_goto (tgt := 40) (pc := 36) dX12_isOf_36 rfl ?_
    exact hJ
  · have e9 : ((if x1 = 0 then 1 else if x0 = x1 then 1 else if x1 = 1 then if x0 = 4 then 1 else if x0 = 5 then 1 else if x1 = 3 then if x0 = 6 then 1 else 0 else 0 else if x1 = 3 then if x0 = 6 then 1 else 0 else 0) : Int32) = (if x0 = x1 then 1 else if x1 = 1 then if x0 = 4 then 1 else if x0 = 5 then 1 else if x1 = 3 then if x0 = 6 then 1 else 0 else 0 else if x1 = 3 then if x0 = 6 then 1 else 0 else 0) := if_neg c
    rw [e9] at hJ
    refine bz_iload_n (pc := 4) dX12_isOf_4 rfl rfl ?_
    refine bz_iload_n (pc := 5) dX12_isOf_5 rfl rfl ?_
    refine bz_icmp_eq (tgt := 35) (pc := 6) dX12_isOf_6 rfl (fun c => ?_) (fun c => ?_)
    · have e9 : ((if x0 = x1 then 1 else if x1 = 1 then if x0 = 4 then 1 else if x0 = 5 then 1 else if x1 = 3 then if x0 = 6 then 1 else 0 else 0 else if x1 = 3 then if x0 = 6 then 1 else 0 else 0) : Int32) = (1) := if_pos c
      rw [e9] at hJ
      refine bz_iconst (pc := 35) dX12_isOf_35 ci_1 ?_
      refine bz_goto (tgt := 40) (pc := 36) dX12_isOf_36 rfl ?_
      exact hJ
    · have e9 : ((if x0 = x1 then 1 else if x1 = 1 then if x0 = 4 then 1 else if x0 = 5 then 1 else if x1 = 3 then if x0 = 6 then 1 else 0 else 0 else if x1 = 3 then if x0 = 6 then 1 else 0 else 0) : Int32) = (if x1 = 1 then if x0 = 4 then 1 else if x0 = 5 then 1 else if x1 = 3 then if x0 = 6 then 1 else 0 else 0 else if x1 = 3 then if x0 = 6 then 1 else 0 else 0) := if_neg c
      rw [e9] at hJ
      refine bz_iload_n (pc := 9) dX12_isOf_9 rfl rfl ?_
      refine bz_iconst (pc := 10) dX12_isOf_10 ci_1 ?_
      refine bz_icmp_ne (tgt := 24) (pc := 11) dX12_isOf_11 rfl (fun c => ?_) (fun c => ?_)
      · have e9 : ((if x1 = 1 then if x0 = 4 then 1 else if x0 = 5 then 1 else if x1 = 3 then if x0 = 6 then 1 else 0 else 0 else if x1 = 3 then if x0 = 6 then 1 else 0 else 0) : Int32) = (if x1 = 3 then if x0 = 6 then 1 else 0 else 0) := if_neg c
        rw [e9] at hJ
        refine bz_iload_n (pc := 24) dX12_isOf_24 rfl rfl ?_
        refine bz_iconst (pc := 25) dX12_isOf_25 ci_3 ?_
        refine bz_icmp_ne (tgt := 39) (pc := 26) dX12_isOf_26 rfl (fun c => ?_) (fun c => ?_)
        · have e9 : ((if x1 = 3 then if x0 = 6 then 1 else 0 else 0) : Int32) = (0) := if_neg c
          rw [e9] at hJ
          refine bz_iconst (pc := 39) dX12_isOf_39 ci_0 ?_
          exact hJ
        · have e9 : ((if x1 = 3 then if x0 = 6 then 1 else 0 else 0) : Int32) = (if x0 = 6 then 1 else 0) := if_pos c
          rw [e9] at hJ
          refine bz_iload_n (pc := 29) dX12_isOf_29 rfl rfl ?_
          refine bz_bipush (pc := 30) dX12_isOf_30 cb_6 ?_
          refine bz_icmp_ne (tgt := 39) (pc := 32) dX12_isOf_32 rfl (fun c => ?_) (fun c => ?_)
          · have e9 : ((if x0 = 6 then 1 else 0) : Int32) = (0) := if_neg c
            rw [e9] at hJ
            refine bz_iconst (pc := 39) dX12_isOf_39 ci_0 ?_
            exact hJ
          · have e9 : ((if x0 = 6 then 1 else 0) : Int32) = (1) := if_pos c
            rw [e9] at hJ
            refine bz_iconst (pc := 35) dX12_isOf_35 ci_1 ?_
            refine bz_goto (tgt := 40) (pc := 36) dX12_isOf_36 rfl ?_
            exact hJ
      · have e9 : ((if x1 = 1 then if x0 = 4 then 1 else if x0 = 5 then 1 else if x1 = 3 then if x0 = 6 then 1 else 0 else 0 else if x1 = 3 then if x0 = 6 then 1 else 0 else 0) : Int32) = (if x0 = 4 then 1 else if x0 = 5 then 1 else if x1 = 3 then if x0 = 6 then 1 else 0 else 0) := if_pos c
        rw [e9] at hJ
        refine bz_iload_n (pc := 14) dX12_isOf_14 rfl rfl ?_
        refine bz_iconst (pc := 15) dX12_isOf_15 ci_4 ?_
        refine bz_icmp_eq (tgt := 35) (pc := 16) dX12_isOf_16 rfl (fun c => ?_) (fun c => ?_)
        · have e9 : ((if x0 = 4 then 1 else if x0 = 5 then 1 else if x1 = 3 then if x0 = 6 then 1 else 0 else 0) : Int32) = (1) := if_pos c
          rw [e9] at hJ
          refine bz_iconst (pc := 35) dX12_isOf_35 ci_1 ?_
          refine bz_goto (tgt := 40) (pc := 36) dX12_isOf_36 rfl ?_
          exact hJ
        · have e9 : ((if x0 = 4 then 1 else if x0 = 5 then 1 else if x1 = 3 then if x0 = 6 then 1 else 0 else 0) : Int32) = (if x0 = 5 then 1 else if x1 = 3 then if x0 = 6 then 1 else 0 else 0) := if_neg c
          rw [e9] at hJ
          refine bz_iload_n (pc := 19) dX12_isOf_19 rfl rfl ?_
          refine bz_iconst (pc := 20) dX12_isOf_20 ci_5 ?_
          refine bz_icmp_eq (tgt := 35) (pc := 21) dX12_isOf_21 rfl (fun c => ?_) (fun c => ?_)
          · have e9 : ((if x0 = 5 then 1 else if x1 = 3 then if x0 = 6 then 1 else 0 else 0) : Int32) = (1) := if_pos c
            rw [e9] at hJ
            refine bz_iconst (pc := 35) dX12_isOf_35 ci_1 ?_
            refine bz_goto (tgt := 40) (pc := 36) dX12_isOf_36 rfl ?_
            exact hJ
          · have e9 : ((if x0 = 5 then 1 else if x1 = 3 then if x0 = 6 then 1 else 0 else 0) : Int32) = (if x1 = 3 then if x0 = 6 then 1 else 0 else 0) := if_neg c
            rw [e9] at hJ
            refine bz_iload_n (pc := 24) dX12_isOf_24 rfl rfl ?_
            refine bz_iconst (pc := 25) dX12_isOf_25 ci_3 ?_
            refine bz_icmp_ne (tgt := 39) (pc := 26) dX12_isOf_26 rfl (fun c => ?_) (fun c => ?_)
            · have e9 : ((if x1 = 3 then if x0 = 6 then 1 else 0 else 0) : Int32) = (0) := if_neg c
              rw [e9] at hJ
              refine bz_iconst (pc := 39) dX12_isOf_39 ci_0 ?_
              exact hJ
            · have e9 : ((if x1 = 3 then if x0 = 6 then 1 else 0 else 0) : Int32) = (if x0 = 6 then 1 else 0) := if_pos c
              rw [e9] at hJ
              refine bz_iload_n (pc := 29) dX12_isOf_29 rfl rfl ?_
              refine bz_bipush (pc := 30) dX12_isOf_30 cb_6 ?_
              refine bz_icmp_ne (tgt := 39) (pc := 32) dX12_isOf_32 rfl (fun c => ?_) (fun c => ?_)
              · have e9 : ((if x0 = 6 then 1 else 0) : Int32) = (0) := if_neg c
                rw [e9] at hJ
                refine bz_iconst (pc := 39) dX12_isOf_39 ci_0 ?_
                exact hJ
              · have e9 : ((if x0 = 6 then 1 else 0) : Int32) = (1) := if_pos c
                rw [e9] at hJ
                refine bz_iconst (pc := 35) dX12_isOf_35 ci_1 ?_
                refine bz_goto (tgt := 40) (pc := 36) dX12_isOf_36 rfl ?_
                exact hJ
theorem m_X12_isOf {G : bz_G} {l : Launch} {d mc ms : Nat} {F : Option bz_V → bz_H → Prop} (x0 : Int32) (x1 : Int32) (h : bz_H) (hP : w_X12_isOf_0 G l d F x0 x1 h) : bz_Call G l (d + 1) kX12_isOf [.inl x0, .inl x1] h mc ms F :=
  bz_body (by decide) (Nat.le_of_ble_eq_true rfl) (fun κ hl => g_X12_isOf_0 hl x0 x1 h hP)
def w_X12_isOrder_0 (G : bz_G) (l : Launch) (d : Nat) (F : Option bz_V → bz_H → Prop) (a0 : Nat) (x1 : Int32) (h : bz_H) : Prop := bz_rR h a0 12 0 (fun r_1 => bz_nn r_1 (fun a_2 => bz_rA h a_2 2 (fun x_3 => bz_cI G l d kX12_in [.inl x1, .inl 0, .inl (x_3 - 1)] h 0 0 (fun x_4 h_5 => bz_b x_4 (F (some (.inl x_4)) h_5)))))
set_option maxRecDepth 20000 in
set_option maxHeartbeats 4000000 in
theorem g_X12_isOrder_0 {G : bz_G} {κ : bz_K} {l : Launch} {d : Nat} {F : Option bz_V → bz_H → Prop} {bc bs : Nat} (hl : κ.2.1 = l) (a0 : Nat) (x1 : Int32) (h : bz_H) (hP0 : w_X12_isOrder_0 G l d F a0 x1 h) : bz_J G κ kX12_isOrder (d + 1) F bc bs 0 [some (.inr (some a0)), some (.inl x1)] [] h := by
  subst hl
  unfold w_X12_isOrder_0 at hP0
  refine bz_iload_n (pc := 0) dX12_isOrder_0 rfl rfl ?_
  refine bz_iconst (pc := 1) dX12_isOrder_1 ci_0 ?_
  refine bz_aload_n (pc := 2) dX12_isOrder_2 rfl rfl ?_
  refine bz_rw_rR (pc := 3) dX12_isOrder_3 fl_X12_7 hP0 (fun r_1 hP1 => ?_)
  clear hP0
  refine bz_iconst (pc := 6) dX12_isOrder_6 ci_2 ?_
  obtain ⟨a_2, rfl, hP2⟩ := hP1
  refine bz_rw_rA (pc := 7) dX12_isOrder_7 hP2 (fun x_3 hP3 => ?_)
  clear hP2
  refine bz_iconst (pc := 8) dX12_isOrder_8 ci_1 ?_
  refine bz_isub (pc := 9) dX12_isOrder_9 ?_
  refine bz_kIS (as := [.inl x1, .inl 0, .inl (x_3 - 1)]) (st := []) (n := 3) (mc := 0) (ms := 0) (bc := bc) (bs := bs) (yc := kX12_in) (pc := 10) dX12_isOrder_10 sc_X12_in ml_X12_65 ss_X12_in rfl (Nat.le_of_ble_eq_true rfl) hP3 (fun x_4 h_5 hP4 => ?_)
  clear hP3
  obtain ⟨hb, hP5⟩ := hP4
  exact bz_retI (pc := 13) dX12_isOrder_13 rfl (by rcases hb with hb | hb <;> rw [hb] <;> rfl) hP5
theorem m_X12_isOrder {G : bz_G} {l : Launch} {d mc ms : Nat} {F : Option bz_V → bz_H → Prop} (a0 : Nat) (x1 : Int32) (h : bz_H) (hP : w_X12_isOrder_0 G l d F a0 x1 h) : bz_Call G l (d + 1) kX12_isOrder [.inr (some a0), .inl x1] h mc ms F :=
  bz_body (by decide) (Nat.le_of_ble_eq_true rfl) (fun κ hl => g_X12_isOrder_0 hl a0 x1 h hP)
def w_X12_isRider_0 (G : bz_G) (l : Launch) (d : Nat) (F : Option bz_V → bz_H → Prop) (a0 : Nat) (x1 : Int32) (h : bz_H) : Prop := bz_rR h a0 12 0 (fun r_1 => bz_nn r_1 (fun a_2 => bz_rA h a_2 3 (fun x_3 => bz_cI G l d kX12_in [.inl x1, .inl 0, .inl (x_3 - 1)] h 0 0 (fun x_4 h_5 => bz_b x_4 (F (some (.inl x_4)) h_5)))))
set_option maxRecDepth 20000 in
set_option maxHeartbeats 4000000 in
theorem g_X12_isRider_0 {G : bz_G} {κ : bz_K} {l : Launch} {d : Nat} {F : Option bz_V → bz_H → Prop} {bc bs : Nat} (hl : κ.2.1 = l) (a0 : Nat) (x1 : Int32) (h : bz_H) (hP0 : w_X12_isRider_0 G l d F a0 x1 h) : bz_J G κ kX12_isRider (d + 1) F bc bs 0 [some (.inr (some a0)), some (.inl x1)] [] h := by
  subst hl
  unfold w_X12_isRider_0 at hP0
  refine bz_iload_n (pc := 0) dX12_isRider_0 rfl rfl ?_
  refine bz_iconst (pc := 1) dX12_isRider_1 ci_0 ?_
  refine bz_aload_n (pc := 2) dX12_isRider_2 rfl rfl ?_
  refine bz_rw_rR (pc := 3) dX12_isRider_3 fl_X12_7 hP0 (fun r_1 hP1 => ?_)
  clear hP0
  refine bz_iconst (pc := 6) dX12_isRider_6 ci_3 ?_
  obtain ⟨a_2, rfl, hP2⟩ := hP1
  refine bz_rw_rA (pc := 7) dX12_isRider_7 hP2 (fun x_3 hP3 => ?_)
  clear hP2
  refine bz_iconst (pc := 8) dX12_isRider_8 ci_1 ?_
  refine bz_isub (pc := 9) dX12_isRider_9 ?_
  refine bz_kIS (as := [.inl x1, .inl 0, .inl (x_3 - 1)]) (st := []) (n := 3) (mc := 0) (ms := 0) (bc := bc) (bs := bs) (yc := kX12_in) (pc := 10) dX12_isRider_10 sc_X12_in ml_X12_65 ss_X12_in rfl (Nat.le_of_ble_eq_true rfl) hP3 (fun x_4 h_5 hP4 => ?_)
  clear hP3
  obtain ⟨hb, hP5⟩ := hP4
  exact bz_retI (pc := 13) dX12_isRider_13 rfl (by rcases hb with hb | hb <;> rw [hb] <;> rfl) hP5
theorem m_X12_isRider {G : bz_G} {l : Launch} {d mc ms : Nat} {F : Option bz_V → bz_H → Prop} (a0 : Nat) (x1 : Int32) (h : bz_H) (hP : w_X12_isRider_0 G l d F a0 x1 h) : bz_Call G l (d + 1) kX12_isRider [.inr (some a0), .inl x1] h mc ms F :=
  bz_body (by decide) (Nat.le_of_ble_eq_true rfl) (fun κ hl => g_X12_isRider_0 hl a0 x1 h hP)
def w_X12_isRoad_0 (G : bz_G) (l : Launch) (d : Nat) (F : Option bz_V → bz_H → Prop) (x0 : Int32) (x1 : Int32) (x2 : Int32) (h : bz_H) : Prop := bz_cI G l d kX12_isCrossing [.inl x0] h 0 0 (fun x_1 h_2 => (x_1 = 0 → F (some (.inl 0)) h_2) ∧ (¬ (x_1 = 0) → bz_cI G l d kX12_isCrossing [.inl x1] h_2 0 0 (fun x_3 h_4 => (x_3 = 0 → F (some (.inl 0)) h_4) ∧ (¬ (x_3 = 0) → (x0 = x1 → F (some (.inl 0)) h_4) ∧ (¬ (x0 = x1) → bz_cI G l d kX12_in [.inl x2, .inl 1, .inl 60] h_4 0 0 (fun x_5 h_6 => F (some (.inl (if x_5 = 0 then 0 else 1))) h_6))))))
set_option maxRecDepth 20000 in
set_option maxHeartbeats 4000000 in
theorem g_X12_isRoad_0 {G : bz_G} {κ : bz_K} {l : Launch} {d : Nat} {F : Option bz_V → bz_H → Prop} {bc bs : Nat} (hl : κ.2.1 = l) (x0 : Int32) (x1 : Int32) (x2 : Int32) (h : bz_H) (hP0 : w_X12_isRoad_0 G l d F x0 x1 x2 h) : bz_J G κ kX12_isRoad (d + 1) F bc bs 0 [some (.inl x0), some (.inl x1), some (.inl x2)] [] h := by
  subst hl
  unfold w_X12_isRoad_0 at hP0
  refine bz_iload_n (pc := 0) dX12_isRoad_0 rfl rfl ?_
  refine bz_kIS (as := [.inl x0]) (st := []) (n := 1) (mc := 0) (ms := 0) (bc := bc) (bs := bs) (yc := kX12_isCrossing) (pc := 1) dX12_isRoad_1 sc_X12_isCrossing ml_X12_69 ss_X12_isCrossing rfl (Nat.le_of_ble_eq_true rfl) hP0 (fun x_1 h_2 hP1 => ?_)
  clear hP0
  refine bz_if_eq (tgt := 33) (pc := 4) dX12_isRoad_4 rfl (fun c => ?_) (fun c => ?_)
  · have hP2 := hP1.1 c
    clear hP1
    refine bz_iconst (pc := 33) dX12_isRoad_33 ci_0 ?_
    exact bz_retI (pc := 34) dX12_isRoad_34 rfl rfl hP2
  · have hP3 := hP1.2 c
    clear hP1
    refine bz_iload_n (pc := 7) dX12_isRoad_7 rfl rfl ?_
    refine bz_kIS (as := [.inl x1]) (st := []) (n := 1) (mc := 0) (ms := 0) (bc := bc) (bs := bs) (yc := kX12_isCrossing) (pc := 8) dX12_isRoad_8 sc_X12_isCrossing ml_X12_69 ss_X12_isCrossing rfl (Nat.le_of_ble_eq_true rfl) hP3 (fun x_3 h_4 hP4 => ?_)
    clear hP3
    refine bz_if_eq (tgt := 33) (pc := 11) dX12_isRoad_11 rfl (fun c => ?_) (fun c => ?_)
    · have hP5 := hP4.1 c
      clear hP4
      refine bz_iconst (pc := 33) dX12_isRoad_33 ci_0 ?_
      exact bz_retI (pc := 34) dX12_isRoad_34 rfl rfl hP5
    · have hP6 := hP4.2 c
      clear hP4
      refine bz_iload_n (pc := 14) dX12_isRoad_14 rfl rfl ?_
      refine bz_iload_n (pc := 15) dX12_isRoad_15 rfl rfl ?_
      refine bz_icmp_eq (tgt := 33) (pc := 16) dX12_isRoad_16 rfl (fun c => ?_) (fun c => ?_)
      · have hP7 := hP6.1 c
        clear hP6
        refine bz_iconst (pc := 33) dX12_isRoad_33 ci_0 ?_
        exact bz_retI (pc := 34) dX12_isRoad_34 rfl rfl hP7
      · have hP8 := hP6.2 c
        clear hP6
        refine bz_iload_n (pc := 19) dX12_isRoad_19 rfl rfl ?_
        refine bz_iconst (pc := 20) dX12_isRoad_20 ci_1 ?_
        refine bz_bipush (pc := 21) dX12_isRoad_21 cb_60 ?_
        refine bz_kIS (as := [.inl x2, .inl 1, .inl 60]) (st := []) (n := 3) (mc := 0) (ms := 0) (bc := bc) (bs := bs) (yc := kX12_in) (pc := 23) dX12_isRoad_23 sc_X12_in ml_X12_65 ss_X12_in rfl (Nat.le_of_ble_eq_true rfl) hP8 (fun x_5 h_6 hP9 => ?_)
        clear hP8
        have hJ : bz_J G κ kX12_isRoad (d + 1) F bc bs 34 [some (.inl x0), some (.inl x1), some (.inl x2)] [.inl (if x_5 = 0 then 0 else 1)] h_6 := by
          exact bz_retI (pc := 34) dX12_isRoad_34 rfl (by (repeat' split) <;> rfl) hP9
        refine bz_if_eq (tgt := 33) (pc := 26) dX12_isRoad_26 rfl (fun c => ?_) (fun c => ?_)
        · have e9 : ((if x_5 = 0 then 0 else 1) : Int32) = (0) := if_pos c
          rw [e9] at hJ
          refine bz_iconst (pc := 33) dX12_isRoad_33 ci_0 ?_
          exact hJ
        · have e9 : ((if x_5 = 0 then 0 else 1) : Int32) = (1) := if_neg c
          rw [e9] at hJ
          refine bz_iconst (pc := 29) dX12_isRoad_29 ci_1 ?_
          refine bz_goto (tgt := 34) (pc := 30) dX12_isRoad_30 rfl ?_
          exact hJ
theorem m_X12_isRoad {G : bz_G} {l : Launch} {d mc ms : Nat} {F : Option bz_V → bz_H → Prop} (x0 : Int32) (x1 : Int32) (x2 : Int32) (h : bz_H) (hP : w_X12_isRoad_0 G l d F x0 x1 x2 h) : bz_Call G l (d + 1) kX12_isRoad [.inl x0, .inl x1, .inl x2] h mc ms F :=
  bz_body (by decide) (Nat.le_of_ble_eq_true rfl) (fun κ hl => g_X12_isRoad_0 hl x0 x1 x2 h hP)
def w_X12_isSheet_0 (G : bz_G) (l : Launch) (d : Nat) (F : Option bz_V → bz_H → Prop) (x0 : Int32) (h : bz_H) : Prop := bz_cI G l d kX12_in [.inl x0, .inl 0, .inl 3] h 0 0 (fun x_1 h_2 => bz_b x_1 (F (some (.inl x_1)) h_2))
set_option maxRecDepth 20000 in
set_option maxHeartbeats 4000000 in
theorem g_X12_isSheet_0 {G : bz_G} {κ : bz_K} {l : Launch} {d : Nat} {F : Option bz_V → bz_H → Prop} {bc bs : Nat} (hl : κ.2.1 = l) (x0 : Int32) (h : bz_H) (hP0 : w_X12_isSheet_0 G l d F x0 h) : bz_J G κ kX12_isSheet (d + 1) F bc bs 0 [some (.inl x0)] [] h := by
  subst hl
  unfold w_X12_isSheet_0 at hP0
  refine bz_iload_n (pc := 0) dX12_isSheet_0 rfl rfl ?_
  refine bz_iconst (pc := 1) dX12_isSheet_1 ci_0 ?_
  refine bz_iconst (pc := 2) dX12_isSheet_2 ci_3 ?_
  refine bz_kIS (as := [.inl x0, .inl 0, .inl 3]) (st := []) (n := 3) (mc := 0) (ms := 0) (bc := bc) (bs := bs) (yc := kX12_in) (pc := 3) dX12_isSheet_3 sc_X12_in ml_X12_65 ss_X12_in rfl (Nat.le_of_ble_eq_true rfl) hP0 (fun x_1 h_2 hP1 => ?_)
  clear hP0
  obtain ⟨hb, hP2⟩ := hP1
  exact bz_retI (pc := 6) dX12_isSheet_6 rfl (by rcases hb with hb | hb <;> rw [hb] <;> rfl) hP2
theorem m_X12_isSheet {G : bz_G} {l : Launch} {d mc ms : Nat} {F : Option bz_V → bz_H → Prop} (x0 : Int32) (h : bz_H) (hP : w_X12_isSheet_0 G l d F x0 h) : bz_Call G l (d + 1) kX12_isSheet [.inl x0] h mc ms F :=
  bz_body (by decide) (Nat.le_of_ble_eq_true rfl) (fun κ hl => g_X12_isSheet_0 hl x0 h hP)
def w_X12_isSignByte_0 (G : bz_G) (l : Launch) (d : Nat) (F : Option bz_V → bz_H → Prop) (x0 : Int32) (h : bz_H) : Prop := (x0 = 43 → F (some (.inl 1)) h) ∧ (¬ (x0 = 43) → F (some (.inl (if x0 = 45 then 1 else if x0 = 42 then 1 else if x0 = 47 then 1 else if x0 = 40 then 1 else if x0 = 41 then 1 else if x0 = 60 then 1 else if x0 = 61 then 1 else 0))) h)
set_option maxRecDepth 20000 in
set_option maxHeartbeats 4000000 in
theorem g_X12_isSignByte_0 {G : bz_G} {κ : bz_K} {l : Launch} {d : Nat} {F : Option bz_V → bz_H → Prop} {bc bs : Nat} (hl : κ.2.1 = l) (x0 : Int32) (h : bz_H) (hP0 : w_X12_isSignByte_0 G l d F x0 h) : bz_J G κ kX12_isSignByte (d + 1) F bc bs 0 [some (.inl x0)] [] h := by
  subst hl
  unfold w_X12_isSignByte_0 at hP0
  refine bz_iload_n (pc := 0) dX12_isSignByte_0 rfl rfl ?_
  refine bz_bipush (pc := 1) dX12_isSignByte_1 cb_43 ?_
  refine bz_icmp_eq (tgt := 48) (pc := 3) dX12_isSignByte_3 rfl (fun c => ?_) (fun c => ?_)
  · have hP1 := hP0.1 c
    clear hP0
    refine bz_iconst (pc := 48) dX12_isSignByte_48 ci_1 ?_
    refine bz_goto (tgt := 53) (pc := 49) dX12_isSignByte_49 rfl ?_
    exact bz_retI (pc := 53) dX12_isSignByte_53 rfl rfl hP1
  · have hP2 := hP0.2 c
    clear hP0
    refine bz_iload_n (pc := 6) dX12_isSignByte_6 rfl rfl ?_
    refine bz_bipush (pc := 7) dX12_isSignByte_7 cb_45 ?_
    have hJ : bz_J G κ kX12_isSignByte (d + 1) F bc bs 53 [some (.inl x0)] [.inl (if x0 = 45 then 1 else if x0 = 42 then 1 else if x0 = 47 then 1 else if x0 = 40 then 1 else if x0 = 41 then 1 else if x0 = 60 then 1 else if x0 = 61 then 1 else 0)] h := by
      exact bz_retI (pc := 53) dX12_isSignByte_53 rfl (by (repeat' split) <;> rfl) hP2
    refine bz_icmp_eq (tgt := 48) (pc := 9) dX12_isSignByte_9 rfl (fun c => ?_) (fun c => ?_)
    · have e9 : ((if x0 = 45 then 1 else if x0 = 42 then 1 else if x0 = 47 then 1 else if x0 = 40 then 1 else if x0 = 41 then 1 else if x0 = 60 then 1 else if x0 = 61 then 1 else 0) : Int32) = (1) := if_pos c
      rw [e9] at hJ
      refine bz_iconst (pc := 48) dX12_isSignByte_48 ci_1 ?_
      refine bz_goto (tgt := 53) (pc := 49) dX12_isSignByte_49 rfl ?_
      exact hJ
    · have e9 : ((if x0 = 45 then 1 else if x0 = 42 then 1 else if x0 = 47 then 1 else if x0 = 40 then 1 else if x0 = 41 then 1 else if x0 = 60 then 1 else if x0 = 61 then 1 else 0) : Int32) = (if x0 = 42 then 1 else if x0 = 47 then 1 else if x0 = 40 then 1 else if x0 = 41 then 1 else if x0 = 60 then 1 else if x0 = 61 then 1 else 0) := if_neg c
      rw [e9] at hJ
      refine bz_iload_n (pc := 12) dX12_isSignByte_12 rfl rfl ?_
      refine bz_bipush (pc := 13) dX12_isSignByte_13 cb_42 ?_
      refine bz_icmp_eq (tgt := 48) (pc := 15) dX12_isSignByte_15 rfl (fun c => ?_) (fun c => ?_)
      · have e9 : ((if x0 = 42 then 1 else if x0 = 47 then 1 else if x0 = 40 then 1 else if x0 = 41 then 1 else if x0 = 60 then 1 else if x0 = 61 then 1 else 0) : Int32) = (1) := if_pos c
        rw [e9] at hJ
        refine bz_iconst (pc := 48) dX12_isSignByte_48 ci_1 ?_
        refine bz_goto (tgt := 53) (pc := 49) dX12_isSignByte_49 rfl ?_
        exact hJ
      · have e9 : ((if x0 = 42 then 1 else if x0 = 47 then 1 else if x0 = 40 then 1 else if x0 = 41 then 1 else if x0 = 60 then 1 else if x0 = 61 then 1 else 0) : Int32) = (if x0 = 47 then 1 else if x0 = 40 then 1 else if x0 = 41 then 1 else if x0 = 60 then 1 else if x0 = 61 then 1 else 0) := if_neg c
        rw [e9] at hJ
        refine bz_iload_n (pc := 18) dX12_isSignByte_18 rfl rfl ?_
        refine bz_bipush (pc := 19) dX12_isSignByte_19 cb_47 ?_
        refine bz_icmp_eq (tgt := 48) (pc := 21) dX12_isSignByte_21 rfl (fun c => ?_) (fun c => ?_)
        · have e9 : ((if x0 = 47 then 1 else if x0 = 40 then 1 else if x0 = 41 then 1 else if x0 = 60 then 1 else if x0 = 61 then 1 else 0) : Int32) = (1) := if_pos c
          rw [e9] at hJ
          refine bz_iconst (pc := 48) dX12_isSignByte_48 ci_1 ?_
          refine bz_goto (tgt := 53) (pc := 49) dX12_isSignByte_49 rfl ?_
          exact hJ
        · have e9 : ((if x0 = 47 then 1 else if x0 = 40 then 1 else if x0 = 41 then 1 else if x0 = 60 then 1 else if x0 = 61 then 1 else 0) : Int32) = (if x0 = 40 then 1 else if x0 = 41 then 1 else if x0 = 60 then 1 else if x0 = 61 then 1 else 0) := if_neg c
          rw [e9] at hJ
          refine bz_iload_n (pc := 24) dX12_isSignByte_24 rfl rfl ?_
          refine bz_bipush (pc := 25) dX12_isSignByte_25 cb_40 ?_
          refine bz_icmp_eq (tgt := 48) (pc := 27) dX12_isSignByte_27 rfl (fun c => ?_) (fun c => ?_)
          · have e9 : ((if x0 = 40 then 1 else if x0 = 41 then 1 else if x0 = 60 then 1 else if x0 = 61 then 1 else 0) : Int32) = (1) := if_pos c
            rw [e9] at hJ
            refine bz_iconst (pc := 48) dX12_isSignByte_48 ci_1 ?_
            refine bz_goto (tgt := 53) (pc := 49) dX12_isSignByte_49 rfl ?_
            exact hJ
          · have e9 : ((if x0 = 40 then 1 else if x0 = 41 then 1 else if x0 = 60 then 1 else if x0 = 61 then 1 else 0) : Int32) = (if x0 = 41 then 1 else if x0 = 60 then 1 else if x0 = 61 then 1 else 0) := if_neg c
            rw [e9] at hJ
            refine bz_iload_n (pc := 30) dX12_isSignByte_30 rfl rfl ?_
            refine bz_bipush (pc := 31) dX12_isSignByte_31 cb_41 ?_
            refine bz_icmp_eq (tgt := 48) (pc := 33) dX12_isSignByte_33 rfl (fun c => ?_) (fun c => ?_)
            · have e9 : ((if x0 = 41 then 1 else if x0 = 60 then 1 else if x0 = 61 then 1 else 0) : Int32) = (1) := if_pos c
              rw [e9] at hJ
              refine bz_iconst (pc := 48) dX12_isSignByte_48 ci_1 ?_
              refine bz_goto (tgt := 53) (pc := 49) dX12_isSignByte_49 rfl ?_
              exact hJ
            · have e9 : ((if x0 = 41 then 1 else if x0 = 60 then 1 else if x0 = 61 then 1 else 0) : Int32) = (if x0 = 60 then 1 else if x0 = 61 then 1 else 0) := if_neg c
              rw [e9] at hJ
              refine bz_iload_n (pc := 36) dX12_isSignByte_36 rfl rfl ?_
              refine bz_bipush (pc := 37) dX12_isSignByte_37 cb_60 ?_
              refine bz_icmp_eq (tgt := 48) (pc := 39) dX12_isSignByte_39 rfl (fun c => ?_) (fun c => ?_)
              · have e9 : ((if x0 = 60 then 1 else if x0 = 61 then 1 else 0) : Int32) = (1) := if_pos c
                rw [e9] at hJ
                refine bz_iconst (pc := 48) dX12_isSignByte_48 ci_1 ?_
                refine bz_goto (tgt := 53) (pc := 49) dX12_isSignByte_49 rfl ?_
                exact hJ
              · have e9 : ((if x0 = 60 then 1 else if x0 = 61 then 1 else 0) : Int32) = (if x0 = 61 then 1 else 0) := if_neg c
                rw [e9] at hJ
                refine bz_iload_n (pc := 42) dX12_isSignByte_42 rfl rfl ?_
                refine bz_bipush (pc := 43) dX12_isSignByte_43 cb_61 ?_
                refine bz_icmp_ne (tgt := 52) (pc := 45) dX12_isSignByte_45 rfl (fun c => ?_) (fun c => ?_)
                · have e9 : ((if x0 = 61 then 1 else 0) : Int32) = (0) := if_neg c
                  rw [e9] at hJ
                  refine bz_iconst (pc := 52) dX12_isSignByte_52 ci_0 ?_
                  exact hJ
                · have e9 : ((if x0 = 61 then 1 else 0) : Int32) = (1) := if_pos c
                  rw [e9] at hJ
                  refine bz_iconst (pc := 48) dX12_isSignByte_48 ci_1 ?_
                  refine bz_goto (tgt := 53) (pc := 49) dX12_isSignByte_49 rfl ?_
                  exact hJ
theorem m_X12_isSignByte {G : bz_G} {l : Launch} {d mc ms : Nat} {F : Option bz_V → bz_H → Prop} (x0 : Int32) (h : bz_H) (hP : w_X12_isSignByte_0 G l d F x0 h) : bz_Call G l (d + 1) kX12_isSignByte [.inl x0] h mc ms F :=
  bz_body (by decide) (Nat.le_of_ble_eq_true rfl) (fun κ hl => g_X12_isSignByte_0 hl x0 h hP)
def w_X12_isSign_0 (G : bz_G) (l : Launch) (d : Nat) (F : Option bz_V → bz_H → Prop) (a0 : Nat) (x1 : Int32) (h : bz_H) : Prop := bz_rI h a0 12 15 (fun x_1 => (¬ x_1 = 3 → F (some (.inl 0)) h) ∧ (x_1 = 3 → bz_rI h a0 12 18 (fun x_2 => F (some (.inl (if x_2 = x1 then 1 else 0))) h)))
set_option maxRecDepth 20000 in
set_option maxHeartbeats 4000000 in
theorem g_X12_isSign_0 {G : bz_G} {κ : bz_K} {l : Launch} {d : Nat} {F : Option bz_V → bz_H → Prop} {bc bs : Nat} (hl : κ.2.1 = l) (a0 : Nat) (x1 : Int32) (h : bz_H) (hP0 : w_X12_isSign_0 G l d F a0 x1 h) : bz_J G κ kX12_isSign (d + 1) F bc bs 0 [some (.inr (some a0)), some (.inl x1)] [] h := by
  subst hl
  unfold w_X12_isSign_0 at hP0
  refine bz_aload_n (pc := 0) dX12_isSign_0 rfl rfl ?_
  refine bz_rw_rI (pc := 1) dX12_isSign_1 fl_X12_244 hP0 (fun x_1 hP1 => ?_)
  clear hP0
  refine bz_iconst (pc := 4) dX12_isSign_4 ci_3 ?_
  refine bz_icmp_ne (tgt := 20) (pc := 5) dX12_isSign_5 rfl (fun c => ?_) (fun c => ?_)
  · have hP2 := hP1.1 c
    clear hP1
    refine bz_iconst (pc := 20) dX12_isSign_20 ci_0 ?_
    exact bz_retI (pc := 21) dX12_isSign_21 rfl rfl hP2
  · have hP3 := hP1.2 c
    clear hP1
    refine bz_aload_n (pc := 8) dX12_isSign_8 rfl rfl ?_
    refine bz_rw_rI (pc := 9) dX12_isSign_9 fl_X12_247 hP3 (fun x_2 hP4 => ?_)
    clear hP3
    refine bz_iload_n (pc := 12) dX12_isSign_12 rfl rfl ?_
    have hJ : bz_J G κ kX12_isSign (d + 1) F bc bs 21 [some (.inr (some a0)), some (.inl x1)] [.inl (if x_2 = x1 then 1 else 0)] h := by
      exact bz_retI (pc := 21) dX12_isSign_21 rfl (by (repeat' split) <;> rfl) hP4
    refine bz_icmp_ne (tgt := 20) (pc := 13) dX12_isSign_13 rfl (fun c => ?_) (fun c => ?_)
    · have e9 : ((if x_2 = x1 then 1 else 0) : Int32) = (0) := if_neg c
      rw [e9] at hJ
      refine bz_iconst (pc := 20) dX12_isSign_20 ci_0 ?_
      exact hJ
    · have e9 : ((if x_2 = x1 then 1 else 0) : Int32) = (1) := if_pos c
      rw [e9] at hJ
      refine bz_iconst (pc := 16) dX12_isSign_16 ci_1 ?_
      refine bz_goto (tgt := 21) (pc := 17) dX12_isSign_17 rfl ?_
      exact hJ
theorem m_X12_isSign {G : bz_G} {l : Launch} {d mc ms : Nat} {F : Option bz_V → bz_H → Prop} (a0 : Nat) (x1 : Int32) (h : bz_H) (hP : w_X12_isSign_0 G l d F a0 x1 h) : bz_Call G l (d + 1) kX12_isSign [.inr (some a0), .inl x1] h mc ms F :=
  bz_body (by decide) (Nat.le_of_ble_eq_true rfl) (fun κ hl => g_X12_isSign_0 hl a0 x1 h hP)
def w_X12_isSpot_0 (G : bz_G) (l : Launch) (d : Nat) (F : Option bz_V → bz_H → Prop) (x0 : Int32) (h : bz_H) : Prop := bz_cI G l d kX12_in [.inl x0, .inl 0, .inl 9] h 0 0 (fun x_1 h_2 => bz_b x_1 (F (some (.inl x_1)) h_2))
set_option maxRecDepth 20000 in
set_option maxHeartbeats 4000000 in
theorem g_X12_isSpot_0 {G : bz_G} {κ : bz_K} {l : Launch} {d : Nat} {F : Option bz_V → bz_H → Prop} {bc bs : Nat} (hl : κ.2.1 = l) (x0 : Int32) (h : bz_H) (hP0 : w_X12_isSpot_0 G l d F x0 h) : bz_J G κ kX12_isSpot (d + 1) F bc bs 0 [some (.inl x0)] [] h := by
  subst hl
  unfold w_X12_isSpot_0 at hP0
  refine bz_iload_n (pc := 0) dX12_isSpot_0 rfl rfl ?_
  refine bz_iconst (pc := 1) dX12_isSpot_1 ci_0 ?_
  refine bz_bipush (pc := 2) dX12_isSpot_2 cb_9 ?_
  refine bz_kIS (as := [.inl x0, .inl 0, .inl 9]) (st := []) (n := 3) (mc := 0) (ms := 0) (bc := bc) (bs := bs) (yc := kX12_in) (pc := 4) dX12_isSpot_4 sc_X12_in ml_X12_65 ss_X12_in rfl (Nat.le_of_ble_eq_true rfl) hP0 (fun x_1 h_2 hP1 => ?_)
  clear hP0
  obtain ⟨hb, hP2⟩ := hP1
  exact bz_retI (pc := 7) dX12_isSpot_7 rfl (by rcases hb with hb | hb <;> rw [hb] <;> rfl) hP2
theorem m_X12_isSpot {G : bz_G} {l : Launch} {d mc ms : Nat} {F : Option bz_V → bz_H → Prop} (x0 : Int32) (h : bz_H) (hP : w_X12_isSpot_0 G l d F x0 h) : bz_Call G l (d + 1) kX12_isSpot [.inl x0] h mc ms F :=
  bz_body (by decide) (Nat.le_of_ble_eq_true rfl) (fun κ hl => g_X12_isSpot_0 hl x0 h hP)
def w_X12_isText_0 (G : bz_G) (l : Launch) (d : Nat) (F : Option bz_V → bz_H → Prop) (a0 : Nat) (x1 : Int32) (h : bz_H) : Prop := bz_rR h a0 12 0 (fun r_1 => bz_nn r_1 (fun a_2 => bz_rA h a_2 4 (fun x_3 => bz_cI G l d kX12_in [.inl x1, .inl 0, .inl (x_3 - 1)] h 0 0 (fun x_4 h_5 => bz_b x_4 (F (some (.inl x_4)) h_5)))))
set_option maxRecDepth 20000 in
set_option maxHeartbeats 4000000 in
theorem g_X12_isText_0 {G : bz_G} {κ : bz_K} {l : Launch} {d : Nat} {F : Option bz_V → bz_H → Prop} {bc bs : Nat} (hl : κ.2.1 = l) (a0 : Nat) (x1 : Int32) (h : bz_H) (hP0 : w_X12_isText_0 G l d F a0 x1 h) : bz_J G κ kX12_isText (d + 1) F bc bs 0 [some (.inr (some a0)), some (.inl x1)] [] h := by
  subst hl
  unfold w_X12_isText_0 at hP0
  refine bz_iload_n (pc := 0) dX12_isText_0 rfl rfl ?_
  refine bz_iconst (pc := 1) dX12_isText_1 ci_0 ?_
  refine bz_aload_n (pc := 2) dX12_isText_2 rfl rfl ?_
  refine bz_rw_rR (pc := 3) dX12_isText_3 fl_X12_7 hP0 (fun r_1 hP1 => ?_)
  clear hP0
  refine bz_iconst (pc := 6) dX12_isText_6 ci_4 ?_
  obtain ⟨a_2, rfl, hP2⟩ := hP1
  refine bz_rw_rA (pc := 7) dX12_isText_7 hP2 (fun x_3 hP3 => ?_)
  clear hP2
  refine bz_iconst (pc := 8) dX12_isText_8 ci_1 ?_
  refine bz_isub (pc := 9) dX12_isText_9 ?_
  refine bz_kIS (as := [.inl x1, .inl 0, .inl (x_3 - 1)]) (st := []) (n := 3) (mc := 0) (ms := 0) (bc := bc) (bs := bs) (yc := kX12_in) (pc := 10) dX12_isText_10 sc_X12_in ml_X12_65 ss_X12_in rfl (Nat.le_of_ble_eq_true rfl) hP3 (fun x_4 h_5 hP4 => ?_)
  clear hP3
  obtain ⟨hb, hP5⟩ := hP4
  exact bz_retI (pc := 13) dX12_isText_13 rfl (by rcases hb with hb | hb <;> rw [hb] <;> rfl) hP5
theorem m_X12_isText {G : bz_G} {l : Launch} {d mc ms : Nat} {F : Option bz_V → bz_H → Prop} (a0 : Nat) (x1 : Int32) (h : bz_H) (hP : w_X12_isText_0 G l d F a0 x1 h) : bz_Call G l (d + 1) kX12_isText [.inr (some a0), .inl x1] h mc ms F :=
  bz_body (by decide) (Nat.le_of_ble_eq_true rfl) (fun κ hl => g_X12_isText_0 hl a0 x1 h hP)
def w_X12_isWaiting_0 (G : bz_G) (l : Launch) (d : Nat) (F : Option bz_V → bz_H → Prop) (a0 : Nat) (x1 : Int32) (h : bz_H) : Prop := bz_rc h a0 12 (bz_cI G l d kX12_ofOrder [.inr (some a0), .inl x1, .inl 5] h 0 0 (fun x_1 h_2 => F (some (.inl (if x_1 = 0 then 1 else 0))) h_2))
set_option maxRecDepth 20000 in
set_option maxHeartbeats 4000000 in
theorem g_X12_isWaiting_0 {G : bz_G} {κ : bz_K} {l : Launch} {d : Nat} {F : Option bz_V → bz_H → Prop} {bc bs : Nat} (hl : κ.2.1 = l) (a0 : Nat) (x1 : Int32) (h : bz_H) (hP0 : w_X12_isWaiting_0 G l d F a0 x1 h) : bz_J G κ kX12_isWaiting (d + 1) F bc bs 0 [some (.inr (some a0)), some (.inl x1)] [] h := by
  subst hl
  unfold w_X12_isWaiting_0 at hP0
  refine bz_aload_n (pc := 0) dX12_isWaiting_0 rfl rfl ?_
  refine bz_iload_n (pc := 1) dX12_isWaiting_1 rfl rfl ?_
  refine bz_iconst (pc := 2) dX12_isWaiting_2 ci_5 ?_
  refine bz_kIV (as := [.inl x1, .inl 5]) (st := []) (ci := 12) (n := 2) (mc := 0) (ms := 0) (bc := bc) (bs := bs) (yc := kX12_ofOrder) (q := (RX12, TX12, 34)) (b := a0) (pc := 3) dX12_isWaiting_3 sc_X12_ofOrder ml_X12_99 im_X12_ofOrder se_X12_ofOrder rfl rfl rfl (Nat.le_of_ble_eq_true rfl) hP0 (fun x_1 h_2 hP1 => ?_)
  clear hP0
  have hJ : bz_J G κ kX12_isWaiting (d + 1) F bc bs 14 [some (.inr (some a0)), some (.inl x1)] [.inl (if x_1 = 0 then 1 else 0)] h_2 := by
    exact bz_retI (pc := 14) dX12_isWaiting_14 rfl (by (repeat' split) <;> rfl) hP1
  refine bz_if_ne (tgt := 13) (pc := 6) dX12_isWaiting_6 rfl (fun c => ?_) (fun c => ?_)
  · have e9 : ((if x_1 = 0 then 1 else 0) : Int32) = (0) := if_neg c
    rw [e9] at hJ
    refine bz_iconst (pc := 13) dX12_isWaiting_13 ci_0 ?_
    exact hJ
  · have e9 : ((if x_1 = 0 then 1 else 0) : Int32) = (1) := if_pos c
    rw [e9] at hJ
    refine bz_iconst (pc := 9) dX12_isWaiting_9 ci_1 ?_
    refine bz_goto (tgt := 14) (pc := 10) dX12_isWaiting_10 rfl ?_
    exact hJ
theorem m_X12_isWaiting {G : bz_G} {l : Launch} {d mc ms : Nat} {F : Option bz_V → bz_H → Prop} (a0 : Nat) (x1 : Int32) (h : bz_H) (hP : w_X12_isWaiting_0 G l d F a0 x1 h) : bz_Call G l (d + 1) kX12_isWaiting [.inr (some a0), .inl x1] h mc ms F :=
  bz_body (by decide) (Nat.le_of_ble_eq_true rfl) (fun κ hl => g_X12_isWaiting_0 hl a0 x1 h hP)
def w_X12_join_0 (G : bz_G) (κ : bz_K) (l : Launch) (d : Nat) (F : Option bz_V → bz_H → Prop) (bc bs : Nat) (a0 : Nat) (x1 : Int32) (x2 : Int32) (x3 : Int32) (x4 : Int32) (h : bz_H) : Prop := bz_cI G l d kX12_in [.inl x4, .inl 0, .inl 4] h 0 0 (fun x_1 h_2 => (x_1 = 0 → bz_J G κ kX12_join (d + 1) F bc bs 21 [some (.inr (some a0)), some (.inl x1), some (.inl x2), some (.inl x3), some (.inl x4), none] [.inl 0] h_2) ∧ (¬ (x_1 = 0) → bz_rc h_2 a0 12 (bz_cI G l d kX12_hinders [.inr (some a0), .inl x1, .inl x2, .inl x3] h_2 0 0 (fun x_3 h_4 => bz_J G κ kX12_join (d + 1) F bc bs 21 [some (.inr (some a0)), some (.inl x1), some (.inl x2), some (.inl x3), some (.inl x4), none] [.inl x_3] h_4))))
set_option maxRecDepth 20000 in
set_option maxHeartbeats 4000000 in
theorem g_X12_join_0 {G : bz_G} {κ : bz_K} {l : Launch} {d : Nat} {F : Option bz_V → bz_H → Prop} {bc bs : Nat} (hl : κ.2.1 = l) (a0 : Nat) (x1 : Int32) (x2 : Int32) (x3 : Int32) (x4 : Int32) (h : bz_H) (hP0 : w_X12_join_0 G κ l d F bc bs a0 x1 x2 x3 x4 h) : bz_J G κ kX12_join (d + 1) F bc bs 0 [some (.inr (some a0)), some (.inl x1), some (.inl x2), some (.inl x3), some (.inl x4), none] [] h := by
  subst hl
  unfold w_X12_join_0 at hP0
  refine bz_iload (pc := 0) dX12_join_0 rfl ?_
  refine bz_iconst (pc := 2) dX12_join_2 ci_0 ?_
  refine bz_iconst (pc := 3) dX12_join_3 ci_4 ?_
  refine bz_kIS (as := [.inl x4, .inl 0, .inl 4]) (st := []) (n := 3) (mc := 0) (ms := 0) (bc := bc) (bs := bs) (yc := kX12_in) (pc := 4) dX12_join_4 sc_X12_in ml_X12_65 ss_X12_in rfl (Nat.le_of_ble_eq_true rfl) hP0 (fun x_1 h_2 hP1 => ?_)
  clear hP0
  refine bz_if_eq (tgt := 20) (pc := 7) dX12_join_7 rfl (fun c => ?_) (fun c => ?_)
  · have hP2 := hP1.1 c
    clear hP1
    refine bz_iconst (pc := 20) dX12_join_20 ci_0 ?_
    exact hP2
  · have hP3 := hP1.2 c
    clear hP1
    refine bz_aload_n (pc := 10) dX12_join_10 rfl rfl ?_
    refine bz_iload_n (pc := 11) dX12_join_11 rfl rfl ?_
    refine bz_iload_n (pc := 12) dX12_join_12 rfl rfl ?_
    refine bz_iload_n (pc := 13) dX12_join_13 rfl rfl ?_
    refine bz_kIV (as := [.inl x1, .inl x2, .inl x3]) (st := []) (ci := 12) (n := 3) (mc := 0) (ms := 0) (bc := bc) (bs := bs) (yc := kX12_hinders) (q := (RX12, TX12, 34)) (b := a0) (pc := 14) dX12_join_14 sc_X12_hinders ml_X12_212 im_X12_hinders se_X12_hinders rfl rfl rfl (Nat.le_of_ble_eq_true rfl) hP3 (fun x_3 h_4 hP4 => ?_)
    clear hP3
    refine bz_goto (tgt := 21) (pc := 17) dX12_join_17 rfl ?_
    exact hP4
def w_X12_join_21 (G : bz_G) (l : Launch) (d : Nat) (F : Option bz_V → bz_H → Prop) (a0 : Nat) (x1 : Int32) (x2 : Int32) (x3 : Int32) (x4 : Int32) (u5 : Option bz_V) (y0 : Int32) (h : bz_H) : Prop := (y0 < 0 → (¬ x4 = 0 → (¬ x4 = 1 → (¬ x4 = 2 → bz_rR h a0 12 10 (fun r_5 => bz_nn r_5 (fun a_6 => bz_rA h a_6 (x4 - 3) (fun x_7 => F (some (.inl x_7)) h)))) ∧ (x4 = 2 → bz_rI h a0 12 7 (fun x_8 => F (some (.inl x_8)) h))) ∧ (x4 = 1 → bz_rI h a0 12 12 (fun x_9 => F (some (.inl x_9)) h))) ∧ (x4 = 0 → bz_rI h a0 12 11 (fun x_10 => F (some (.inl x_10)) h))) ∧ (¬ (y0 < 0) → bz_rc h a0 12 (bz_cI G l d kX12_finding [.inr (some a0), .inl y0] h 0 0 (fun x_11 h_12 => F (some (.inl x_11)) h_12)))
set_option maxRecDepth 20000 in
set_option maxHeartbeats 4000000 in
theorem g_X12_join_21 {G : bz_G} {κ : bz_K} {l : Launch} {d : Nat} {F : Option bz_V → bz_H → Prop} {bc bs : Nat} (hl : κ.2.1 = l) (a0 : Nat) (x1 : Int32) (x2 : Int32) (x3 : Int32) (x4 : Int32) (u5 : Option bz_V) (y0 : Int32) (h : bz_H) (hP0 : w_X12_join_21 G l d F a0 x1 x2 x3 x4 u5 y0 h) : bz_J G κ kX12_join (d + 1) F bc bs 21 [some (.inr (some a0)), some (.inl x1), some (.inl x2), some (.inl x3), some (.inl x4), u5] [.inl y0] h := by
  subst hl
  unfold w_X12_join_21 at hP0
  refine bz_s_istore (pc := 21) dX12_join_21 (Nat.le_of_ble_eq_true rfl) [some (.inr (some a0)), some (.inl x1), some (.inl x2), some (.inl x3), some (.inl x4), some (.inl y0)] rfl ?_
  refine bz_iload (pc := 23) dX12_join_23 rfl ?_
  refine bz_if_lt (tgt := 35) (pc := 25) dX12_join_25 rfl (fun c => ?_) (fun c => ?_)
  · have hP1 := hP0.1 c
    clear hP0
    refine bz_iload (pc := 35) dX12_join_35 rfl ?_
    refine bz_if_ne (tgt := 47) (pc := 37) dX12_join_37 rfl (fun c => ?_) (fun c => ?_)
    · have hP2 := hP1.1 c
      clear hP1
      refine bz_iload (pc := 47) dX12_join_47 rfl ?_
      refine bz_iconst (pc := 49) dX12_join_49 ci_1 ?_
      refine bz_icmp_ne (tgt := 60) (pc := 50) dX12_join_50 rfl (fun c => ?_) (fun c => ?_)
      · have hP3 := hP2.1 c
        clear hP2
        refine bz_iload (pc := 60) dX12_join_60 rfl ?_
        refine bz_iconst (pc := 62) dX12_join_62 ci_2 ?_
        refine bz_icmp_ne (tgt := 73) (pc := 63) dX12_join_63 rfl (fun c => ?_) (fun c => ?_)
        · have hP4 := hP3.1 c
          clear hP3
          refine bz_aload_n (pc := 73) dX12_join_73 rfl rfl ?_
          refine bz_rw_rR (pc := 74) dX12_join_74 fl_X12_25 hP4 (fun r_5 hP5 => ?_)
          clear hP4
          refine bz_iload (pc := 77) dX12_join_77 rfl ?_
          refine bz_iconst (pc := 79) dX12_join_79 ci_3 ?_
          refine bz_isub (pc := 80) dX12_join_80 ?_
          obtain ⟨a_6, rfl, hP6⟩ := hP5
          refine bz_rw_rA (pc := 81) dX12_join_81 hP6 (fun x_7 hP7 => ?_)
          clear hP6
          exact bz_retI (pc := 82) dX12_join_82 rfl rfl hP7
        · have hP8 := hP3.2 c
          clear hP3
          refine bz_aload_n (pc := 66) dX12_join_66 rfl rfl ?_
          refine bz_rw_rI (pc := 67) dX12_join_67 fl_X12_167 hP8 (fun x_8 hP9 => ?_)
          clear hP8
          refine bz_goto (tgt := 82) (pc := 70) dX12_join_70 rfl ?_
          exact bz_retI (pc := 82) dX12_join_82 rfl rfl hP9
      · have hP10 := hP2.2 c
        clear hP2
        refine bz_aload_n (pc := 53) dX12_join_53 rfl rfl ?_
        refine bz_rw_rI (pc := 54) dX12_join_54 fl_X12_206 hP10 (fun x_9 hP11 => ?_)
        clear hP10
        refine bz_goto (tgt := 82) (pc := 57) dX12_join_57 rfl ?_
        exact bz_retI (pc := 82) dX12_join_82 rfl rfl hP11
    · have hP12 := hP1.2 c
      clear hP1
      refine bz_aload_n (pc := 40) dX12_join_40 rfl rfl ?_
      refine bz_rw_rI (pc := 41) dX12_join_41 fl_X12_200 hP12 (fun x_10 hP13 => ?_)
      clear hP12
      refine bz_goto (tgt := 82) (pc := 44) dX12_join_44 rfl ?_
      exact bz_retI (pc := 82) dX12_join_82 rfl rfl hP13
  · have hP14 := hP0.2 c
    clear hP0
    refine bz_aload_n (pc := 28) dX12_join_28 rfl rfl ?_
    refine bz_iload (pc := 29) dX12_join_29 rfl ?_
    refine bz_kIV (as := [.inl y0]) (st := []) (ci := 12) (n := 1) (mc := 0) (ms := 0) (bc := bc) (bs := bs) (yc := kX12_finding) (q := (RX12, TX12, 34)) (b := a0) (pc := 31) dX12_join_31 sc_X12_finding ml_X12_73 im_X12_finding se_X12_finding rfl rfl rfl (Nat.le_of_ble_eq_true rfl) hP14 (fun x_11 h_12 hP15 => ?_)
    clear hP14
    exact bz_retI (pc := 34) dX12_join_34 rfl rfl hP15
theorem m_X12_join {G : bz_G} {l : Launch} {d mc ms : Nat} {F : Option bz_V → bz_H → Prop} (a0 : Nat) (x1 : Int32) (x2 : Int32) (x3 : Int32) (x4 : Int32) (h : bz_H) (hP : ∀ (κ : bz_K) (bc bs : Nat), κ.2.1 = l → w_X12_join_0 G κ l d F bc bs a0 x1 x2 x3 x4 h) : bz_Call G l (d + 1) kX12_join [.inr (some a0), .inl x1, .inl x2, .inl x3, .inl x4] h mc ms F :=
  bz_body (by decide) (Nat.le_of_ble_eq_true rfl) (fun κ hl => g_X12_join_0 hl a0 x1 x2 x3 x4 h (hP κ mc ms hl))
def w_X12_joined_0 (G : bz_G) (l : Launch) (d : Nat) (F : Option bz_V → bz_H → Prop) (x0 : Int32) (x1 : Int32) (x2 : Int32) (h : bz_H) : Prop := (x0 = 42 → F (some (.inl (x1 * x2))) h) ∧ (¬ x0 = 42 → (x0 = 43 → F (some (.inl (x1 + x2))) h) ∧ (¬ x0 = 43 → (x0 = 45 → F (some (.inl (x1 - x2))) h) ∧ (¬ x0 = 45 → (x0 = 47 → (¬ x2 = 0 → (¬ x2 = (-1) → (¬ x2 = 0) ∧ (F (some (.inl (x1 / x2))) h)) ∧ (x2 = (-1) → F (some (.inl (-x1))) h)) ∧ (x2 = 0 → F (some (.inl 0)) h)) ∧ (¬ x0 = 47 → (x0 = 60 → F (some (.inl (if x2 ≤ x1 then 0 else 1))) h) ∧ (¬ x0 = 60 → F (some (.inl (if x1 = x2 then 1 else 0))) h)))))
set_option maxRecDepth 20000 in
set_option maxHeartbeats 4000000 in
theorem g_X12_joined_0 {G : bz_G} {κ : bz_K} {l : Launch} {d : Nat} {F : Option bz_V → bz_H → Prop} {bc bs : Nat} (hl : κ.2.1 = l) (x0 : Int32) (x1 : Int32) (x2 : Int32) (h : bz_H) (hP0 : w_X12_joined_0 G l d F x0 x1 x2 h) : bz_J G κ kX12_joined (d + 1) F bc bs 0 [some (.inl x0), some (.inl x1), some (.inl x2)] [] h := by
  subst hl
  unfold w_X12_joined_0 at hP0
  refine bz_iload_n (pc := 0) dX12_joined_0 rfl rfl ?_
  refine bz_lookup (pc := 1) [(42, 59), (43, 51), (45, 55), (47, 63), (60, 85)] dX12_joined_1 (by decide) (by decide) (by decide) (by decide) ?_
  refine ⟨fun c => ?_, fun c => ?_⟩
  · have hP1 := hP0.1 c
    clear hP0
    show bz_J G κ kX12_joined (d + 1) F bc bs 60 [some (.inl x0), some (.inl x1), some (.inl x2)] [] h
    refine bz_iload_n (pc := 60) dX12_joined_60 rfl rfl ?_
    refine bz_iload_n (pc := 61) dX12_joined_61 rfl rfl ?_
    refine bz_imul (pc := 62) dX12_joined_62 ?_
    exact bz_retI (pc := 63) dX12_joined_63 rfl rfl hP1
  · have hP2 := hP0.2 c
    clear hP0
    refine ⟨fun c => ?_, fun c => ?_⟩
    · have hP3 := hP2.1 c
      clear hP2
      show bz_J G κ kX12_joined (d + 1) F bc bs 52 [some (.inl x0), some (.inl x1), some (.inl x2)] [] h
      refine bz_iload_n (pc := 52) dX12_joined_52 rfl rfl ?_
      refine bz_iload_n (pc := 53) dX12_joined_53 rfl rfl ?_
      refine bz_iadd (pc := 54) dX12_joined_54 ?_
      exact bz_retI (pc := 55) dX12_joined_55 rfl rfl hP3
    · have hP4 := hP2.2 c
      clear hP2
      refine ⟨fun c => ?_, fun c => ?_⟩
      · have hP5 := hP4.1 c
        clear hP4
        show bz_J G κ kX12_joined (d + 1) F bc bs 56 [some (.inl x0), some (.inl x1), some (.inl x2)] [] h
        refine bz_iload_n (pc := 56) dX12_joined_56 rfl rfl ?_
        refine bz_iload_n (pc := 57) dX12_joined_57 rfl rfl ?_
        refine bz_isub (pc := 58) dX12_joined_58 ?_
        exact bz_retI (pc := 59) dX12_joined_59 rfl rfl hP5
      · have hP6 := hP4.2 c
        clear hP4
        refine ⟨fun c => ?_, fun c => ?_⟩
        · have hP7 := hP6.1 c
          clear hP6
          show bz_J G κ kX12_joined (d + 1) F bc bs 64 [some (.inl x0), some (.inl x1), some (.inl x2)] [] h
          refine bz_iload_n (pc := 64) dX12_joined_64 rfl rfl ?_
          refine bz_if_ne (tgt := 72) (pc := 65) dX12_joined_65 rfl (fun c => ?_) (fun c => ?_)
          · have hP8 := hP7.1 c
            clear hP7
            refine bz_iload_n (pc := 72) dX12_joined_72 rfl rfl ?_
            refine bz_iconst (pc := 73) dX12_joined_73 ci_m1 ?_
            refine bz_icmp_ne (tgt := 82) (pc := 74) dX12_joined_74 rfl (fun c => ?_) (fun c => ?_)
            · have hP9 := hP8.1 c
              clear hP8
              refine bz_iload_n (pc := 82) dX12_joined_82 rfl rfl ?_
              refine bz_iload_n (pc := 83) dX12_joined_83 rfl rfl ?_
              obtain ⟨hz, hP10⟩ := hP9
              refine bz_idiv (pc := 84) dX12_joined_84 hz ?_
              exact bz_retI (pc := 85) dX12_joined_85 rfl rfl hP10
            · have hP11 := hP8.2 c
              clear hP8
              refine bz_iload_n (pc := 77) dX12_joined_77 rfl rfl ?_
              refine bz_ineg (pc := 78) dX12_joined_78 ?_
              refine bz_goto (tgt := 85) (pc := 79) dX12_joined_79 rfl ?_
              exact bz_retI (pc := 85) dX12_joined_85 rfl rfl hP11
          · have hP12 := hP7.2 c
            clear hP7
            refine bz_iconst (pc := 68) dX12_joined_68 ci_0 ?_
            refine bz_goto (tgt := 85) (pc := 69) dX12_joined_69 rfl ?_
            exact bz_retI (pc := 85) dX12_joined_85 rfl rfl hP12
        · have hP13 := hP6.2 c
          clear hP6
          refine ⟨fun c => ?_, fun c => ?_⟩
          · have hP14 := hP13.1 c
            clear hP13
            show bz_J G κ kX12_joined (d + 1) F bc bs 86 [some (.inl x0), some (.inl x1), some (.inl x2)] [] h
            refine bz_iload_n (pc := 86) dX12_joined_86 rfl rfl ?_
            refine bz_iload_n (pc := 87) dX12_joined_87 rfl rfl ?_
            have hJ : bz_J G κ kX12_joined (d + 1) F bc bs 96 [some (.inl x0), some (.inl x1), some (.inl x2)] [.inl (if x2 ≤ x1 then 0 else 1)] h := by
              exact bz_retI (pc := 96) dX12_joined_96 rfl rfl hP14
            refine bz_icmp_ge (tgt := 95) (pc := 88) dX12_joined_88 rfl (fun c => ?_) (fun c => ?_)
            · have e9 : ((if x2 ≤ x1 then 0 else 1) : Int32) = (0) := if_pos c
              rw [e9] at hJ
              refine bz_iconst (pc := 95) dX12_joined_95 ci_0 ?_
              exact hJ
            · have e9 : ((if x2 ≤ x1 then 0 else 1) : Int32) = (1) := if_neg c
              rw [e9] at hJ
              refine bz_iconst (pc := 91) dX12_joined_91 ci_1 ?_
              refine bz_goto (tgt := 96) (pc := 92) dX12_joined_92 rfl ?_
              exact hJ
          · have hP15 := hP13.2 c
            clear hP13
            show bz_J G κ kX12_joined (d + 1) F bc bs 97 [some (.inl x0), some (.inl x1), some (.inl x2)] [] h
            refine bz_iload_n (pc := 97) dX12_joined_97 rfl rfl ?_
            refine bz_iload_n (pc := 98) dX12_joined_98 rfl rfl ?_
            have hJ : bz_J G κ kX12_joined (d + 1) F bc bs 107 [some (.inl x0), some (.inl x1), some (.inl x2)] [.inl (if x1 = x2 then 1 else 0)] h := by
              exact bz_retI (pc := 107) dX12_joined_107 rfl rfl hP15
            refine bz_icmp_ne (tgt := 106) (pc := 99) dX12_joined_99 rfl (fun c => ?_) (fun c => ?_)
            · have e9 : ((if x1 = x2 then 1 else 0) : Int32) = (0) := if_neg c
              rw [e9] at hJ
              refine bz_iconst (pc := 106) dX12_joined_106 ci_0 ?_
              exact hJ
            · have e9 : ((if x1 = x2 then 1 else 0) : Int32) = (1) := if_pos c
              rw [e9] at hJ
              refine bz_iconst (pc := 102) dX12_joined_102 ci_1 ?_
              refine bz_goto (tgt := 107) (pc := 103) dX12_joined_103 rfl ?_
              exact hJ
theorem m_X12_joined {G : bz_G} {l : Launch} {d mc ms : Nat} {F : Option bz_V → bz_H → Prop} (x0 : Int32) (x1 : Int32) (x2 : Int32) (h : bz_H) (hP : w_X12_joined_0 G l d F x0 x1 x2 h) : bz_Call G l (d + 1) kX12_joined [.inl x0, .inl x1, .inl x2] h mc ms F :=
  bz_body (by decide) (Nat.le_of_ble_eq_true rfl) (fun κ hl => g_X12_joined_0 hl x0 x1 x2 h hP)
def w_X12_joins_0 (G : bz_G) (κ : bz_K) (l : Launch) (d : Nat) (F : Option bz_V → bz_H → Prop) (bc bs : Nat) (a0 : Nat) (x1 : Int32) (x2 : Int32) (x3 : Int32) (h : bz_H) : Prop := bz_wI h a0 12 11 (-1) (fun h_1 => bz_J G κ kX12_joins (d + 1) F bc bs 11 [some (.inr (some a0)), some (.inl x1), some (.inl x2), some (.inl x3), some (.inl 0), some (.inl 0), none] [] h_1)
set_option maxRecDepth 20000 in
set_option maxHeartbeats 4000000 in
theorem g_X12_joins_0 {G : bz_G} {κ : bz_K} {l : Launch} {d : Nat} {F : Option bz_V → bz_H → Prop} {bc bs : Nat} (hl : κ.2.1 = l) (a0 : Nat) (x1 : Int32) (x2 : Int32) (x3 : Int32) (h : bz_H) (hP0 : w_X12_joins_0 G κ l d F bc bs a0 x1 x2 x3 h) : bz_J G κ kX12_joins (d + 1) F bc bs 0 [some (.inr (some a0)), some (.inl x1), some (.inl x2), some (.inl x3), none, none, none] [] h := by
  subst hl
  unfold w_X12_joins_0 at hP0
  refine bz_aload_n (pc := 0) dX12_joins_0 rfl rfl ?_
  refine bz_iconst (pc := 1) dX12_joins_1 ci_m1 ?_
  refine bz_rw_wI (pc := 2) dX12_joins_2 fl_X12_200 (fun q h9 => by cases h9; rfl) rfl hP0 (fun h_1 hP1 => ?_)
  clear hP0
  refine bz_iconst (pc := 5) dX12_joins_5 ci_0 ?_
  refine bz_s_istore (pc := 6) dX12_joins_6 (Nat.le_of_ble_eq_true rfl) [some (.inr (some a0)), some (.inl x1), some (.inl x2), some (.inl x3), some (.inl 0), none, none] rfl ?_
  refine bz_iconst (pc := 8) dX12_joins_8 ci_0 ?_
  refine bz_s_istore (pc := 9) dX12_joins_9 (Nat.le_of_ble_eq_true rfl) [some (.inr (some a0)), some (.inl x1), some (.inl x2), some (.inl x3), some (.inl 0), some (.inl 0), none] rfl ?_
  exact hP1
def w_X12_joins_11 (G : bz_G) (κ : bz_K) (l : Launch) (d : Nat) (F : Option bz_V → bz_H → Prop) (bc bs : Nat) (a0 : Nat) (x1 : Int32) (x2 : Int32) (x3 : Int32) (x4 : Int32) (x5 : Int32) (u6 : Option bz_V) (h : bz_H) : Prop := (6 ≤ x5 → bz_rI h a0 12 11 (fun x_2 => (x_2 < 0 → F (some (.inl 0)) h) ∧ (¬ (x_2 < 0) → bz_rI h a0 12 11 (fun x_3 => bz_rc h a0 12 (bz_cI G l d kX12_goesWay [.inr (some a0), .inl x1, .inl x2, .inl x3, .inl x_3] h 0 0 (fun x_4 h_5 => F (some (.inl (if x_4 = 0 then 0 else 1))) h_5)))))) ∧ (¬ (6 ≤ x5) → bz_rc h a0 12 (bz_cI G l d kX12_goesWay [.inr (some a0), .inl x1, .inl x2, .inl x3, .inl x5] h 0 0 (fun x_6 h_7 => (x_6 = 0 → bz_J G κ kX12_joins (d + 1) F bc bs 11 [some (.inr (some a0)), some (.inl x1), some (.inl x2), some (.inl x3), some (.inl x4), some (.inl (x5 + 1)), u6] [] h_7) ∧ (¬ (x_6 = 0) → bz_rR h_7 a0 12 10 (fun r_8 => bz_nn r_8 (fun a_9 => bz_rA h_7 a_9 0 (fun x_10 => bz_rc h_7 a0 12 (bz_cI G l d kX12_lateBy [.inr (some a0), .inl x2, .inl x_10] h_7 0 0 (fun x_11 h_12 => bz_rR h_12 a0 12 10 (fun r_13 => bz_nn r_13 (fun a_14 => bz_rA h_12 a_14 1 (fun x_15 => bz_rc h_12 a0 12 (bz_cI G l d kX12_lateBy [.inr (some a0), .inl x3, .inl x_15] h_12 0 0 (fun x_16 h_17 => bz_rI h_17 a0 12 11 (fun x_18 => (x_18 < 0 → bz_wI h_17 a0 12 11 x5 (fun h_19 => bz_wI h_19 a0 12 12 (x_11 + x_16) (fun h_20 => bz_rI h_20 a0 12 7 (fun x_21 => bz_J G κ kX12_joins (d + 1) F bc bs 11 [some (.inr (some a0)), some (.inl x1), some (.inl x2), some (.inl x3), some (.inl x_21), some (.inl (x5 + 1)), some (.inl (x_11 + x_16))] [] h_20)))) ∧ (¬ (x_18 < 0) → bz_rI h_17 a0 12 12 (fun x_22 => ((x_11 + x_16) < x_22 → bz_wI h_17 a0 12 11 x5 (fun h_23 => bz_wI h_23 a0 12 12 (x_11 + x_16) (fun h_24 => bz_rI h_24 a0 12 7 (fun x_25 => bz_J G κ kX12_joins (d + 1) F bc bs 11 [some (.inr (some a0)), some (.inl x1), some (.inl x2), some (.inl x3), some (.inl x_25), some (.inl (x5 + 1)), some (.inl (x_11 + x_16))] [] h_24)))) ∧ (¬ ((x_11 + x_16) < x_22) → bz_rI h_17 a0 12 12 (fun x_26 => (¬ (x_11 + x_16) = x_26 → bz_J G κ kX12_joins (d + 1) F bc bs 11 [some (.inr (some a0)), some (.inl x1), some (.inl x2), some (.inl x3), some (.inl x4), some (.inl (x5 + 1)), some (.inl (x_11 + x_16))] [] h_17) ∧ ((x_11 + x_16) = x_26 → bz_rI h_17 a0 12 7 (fun x_27 => (x4 ≤ x_27 → bz_J G κ kX12_joins (d + 1) F bc bs 11 [some (.inr (some a0)), some (.inl x1), some (.inl x2), some (.inl x3), some (.inl x4), some (.inl (x5 + 1)), some (.inl (x_11 + x_16))] [] h_17) ∧ (¬ (x4 ≤ x_27) → bz_wI h_17 a0 12 11 x5 (fun h_28 => bz_wI h_28 a0 12 12 (x_11 + x_16) (fun h_29 => bz_rI h_29 a0 12 7 (fun x_30 => bz_J G κ kX12_joins (d + 1) F bc bs 11 [some (.inr (some a0)), some (.inl x1), some (.inl x2), some (.inl x3), some (.inl x_30), some (.inl (x5 + 1)), some (.inl (x_11 + x_16))] [] h_29)))))))))))))))))))))))))
set_option maxRecDepth 20000 in
set_option maxHeartbeats 4000000 in
theorem g_X12_joins_11 {G : bz_G} {κ : bz_K} {l : Launch} {d : Nat} {F : Option bz_V → bz_H → Prop} {bc bs : Nat} (hl : κ.2.1 = l) (a0 : Nat) (x1 : Int32) (x2 : Int32) (x3 : Int32) (x4 : Int32) (x5 : Int32) (u6 : Option bz_V) (h : bz_H) (hP0 : w_X12_joins_11 G κ l d F bc bs a0 x1 x2 x3 x4 x5 u6 h) : bz_J G κ kX12_joins (d + 1) F bc bs 11 [some (.inr (some a0)), some (.inl x1), some (.inl x2), some (.inl x3), some (.inl x4), some (.inl x5), u6] [] h := by
  subst hl
  unfold w_X12_joins_11 at hP0
  refine bz_iload (pc := 11) dX12_joins_11 rfl ?_
  refine bz_bipush (pc := 13) dX12_joins_13 cb_6 ?_
  refine bz_icmp_ge (tgt := 113) (pc := 15) dX12_joins_15 rfl (fun c => ?_) (fun c => ?_)
  · have hP1 := hP0.1 c
    clear hP0
    refine bz_aload_n (pc := 113) dX12_joins_113 rfl rfl ?_
    refine bz_rw_rI (pc := 114) dX12_joins_114 fl_X12_200 hP1 (fun x_2 hP2 => ?_)
    clear hP1
    refine bz_if_lt (tgt := 138) (pc := 117) dX12_joins_117 rfl (fun c => ?_) (fun c => ?_)
    · have hP3 := hP2.1 c
      clear hP2
      refine bz_iconst (pc := 138) dX12_joins_138 ci_0 ?_
      exact bz_retI (pc := 139) dX12_joins_139 rfl rfl hP3
    · have hP4 := hP2.2 c
      clear hP2
      refine bz_aload_n (pc := 120) dX12_joins_120 rfl rfl ?_
      refine bz_iload_n (pc := 121) dX12_joins_121 rfl rfl ?_
      refine bz_iload_n (pc := 122) dX12_joins_122 rfl rfl ?_
      refine bz_iload_n (pc := 123) dX12_joins_123 rfl rfl ?_
      refine bz_aload_n (pc := 124) dX12_joins_124 rfl rfl ?_
      refine bz_rw_rI (pc := 125) dX12_joins_125 fl_X12_200 hP4 (fun x_3 hP5 => ?_)
      clear hP4
      refine bz_kIV (as := [.inl x1, .inl x2, .inl x3, .inl x_3]) (st := []) (ci := 12) (n := 4) (mc := 0) (ms := 0) (bc := bc) (bs := bs) (yc := kX12_goesWay) (q := (RX12, TX12, 34)) (b := a0) (pc := 128) dX12_joins_128 sc_X12_goesWay ml_X12_203 im_X12_goesWay se_X12_goesWay rfl rfl rfl (Nat.le_of_ble_eq_true rfl) hP5 (fun x_4 h_5 hP6 => ?_)
      clear hP5
      have hJ : bz_J G κ kX12_joins (d + 1) F bc bs 139 [some (.inr (some a0)), some (.inl x1), some (.inl x2), some (.inl x3), some (.inl x4), some (.inl x5), u6] [.inl (if x_4 = 0 then 0 else 1)] h_5 := by
        exact bz_retI (pc := 139) dX12_joins_139 rfl (by (repeat' split) <;> rfl) hP6
      refine bz_if_eq (tgt := 138) (pc := 131) dX12_joins_131 rfl (fun c => ?_) (fun c => ?_)
      · have e9 : ((if x_4 = 0 then 0 else 1) : Int32) = (0) := if_pos c
        rw [e9] at hJ
        refine bz_iconst (pc := 138) dX12_joins_138 ci_0 ?_
        exact hJ
      · have e9 : ((if x_4 = 0 then 0 else 1) : Int32) = (1) := if_neg c
        rw [e9] at hJ
        refine bz_iconst (pc := 134) dX12_joins_134 ci_1 ?_
        refine bz_goto (tgt := 139) (pc := 135) dX12_joins_135 rfl ?_
        exact hJ
  · have hP7 := hP0.2 c
    clear hP0
    refine bz_aload_n (pc := 18) dX12_joins_18 rfl rfl ?_
    refine bz_iload_n (pc := 19) dX12_joins_19 rfl rfl ?_
    refine bz_iload_n (pc := 20) dX12_joins_20 rfl rfl ?_
    refine bz_iload_n (pc := 21) dX12_joins_21 rfl rfl ?_
    refine bz_iload (pc := 22) dX12_joins_22 rfl ?_
    refine bz_kIV (as := [.inl x1, .inl x2, .inl x3, .inl x5]) (st := []) (ci := 12) (n := 4) (mc := 0) (ms := 0) (bc := bc) (bs := bs) (yc := kX12_goesWay) (q := (RX12, TX12, 34)) (b := a0) (pc := 24) dX12_joins_24 sc_X12_goesWay ml_X12_203 im_X12_goesWay se_X12_goesWay rfl rfl rfl (Nat.le_of_ble_eq_true rfl) hP7 (fun x_6 h_7 hP8 => ?_)
    clear hP7
    refine bz_if_eq (tgt := 107) (pc := 27) dX12_joins_27 rfl (fun c => ?_) (fun c => ?_)
    · have hP9 := hP8.1 c
      clear hP8
      refine bz_s_iinc (pc := 107) dX12_joins_107 (Nat.le_of_ble_eq_true rfl) rfl rfl [some (.inr (some a0)), some (.inl x1), some (.inl x2), some (.inl x3), some (.inl x4), some (.inl (x5 + 1)), u6] rfl ?_
      refine bz_goto (tgt := 11) (pc := 110) dX12_joins_110 rfl ?_
      exact hP9
    · have hP10 := hP8.2 c
      clear hP8
      refine bz_aload_n (pc := 30) dX12_joins_30 rfl rfl ?_
      refine bz_iload_n (pc := 31) dX12_joins_31 rfl rfl ?_
      refine bz_aload_n (pc := 32) dX12_joins_32 rfl rfl ?_
      refine bz_rw_rR (pc := 33) dX12_joins_33 fl_X12_25 hP10 (fun r_8 hP11 => ?_)
      clear hP10
      refine bz_iconst (pc := 36) dX12_joins_36 ci_0 ?_
      obtain ⟨a_9, rfl, hP12⟩ := hP11
      refine bz_rw_rA (pc := 37) dX12_joins_37 hP12 (fun x_10 hP13 => ?_)
      clear hP12
      refine bz_kIV (as := [.inl x2, .inl x_10]) (st := []) (ci := 12) (n := 2) (mc := 0) (ms := 0) (bc := bc) (bs := bs) (yc := kX12_lateBy) (q := (RX12, TX12, 34)) (b := a0) (pc := 38) dX12_joins_38 sc_X12_lateBy ml_X12_102 im_X12_lateBy se_X12_lateBy rfl rfl rfl (Nat.le_of_ble_eq_true rfl) hP13 (fun x_11 h_12 hP14 => ?_)
      clear hP13
      refine bz_aload_n (pc := 41) dX12_joins_41 rfl rfl ?_
      refine bz_iload_n (pc := 42) dX12_joins_42 rfl rfl ?_
      refine bz_aload_n (pc := 43) dX12_joins_43 rfl rfl ?_
      refine bz_rw_rR (pc := 44) dX12_joins_44 fl_X12_25 hP14 (fun r_13 hP15 => ?_)
      clear hP14
      refine bz_iconst (pc := 47) dX12_joins_47 ci_1 ?_
      obtain ⟨a_14, rfl, hP16⟩ := hP15
      refine bz_rw_rA (pc := 48) dX12_joins_48 hP16 (fun x_15 hP17 => ?_)
      clear hP16
      refine bz_kIV (as := [.inl x3, .inl x_15]) (st := [.inl x_11]) (ci := 12) (n := 2) (mc := 0) (ms := 0) (bc := bc) (bs := bs) (yc := kX12_lateBy) (q := (RX12, TX12, 34)) (b := a0) (pc := 49) dX12_joins_49 sc_X12_lateBy ml_X12_102 im_X12_lateBy se_X12_lateBy rfl rfl rfl (Nat.le_of_ble_eq_true rfl) hP17 (fun x_16 h_17 hP18 => ?_)
      clear hP17
      refine bz_iadd (pc := 52) dX12_joins_52 ?_
      refine bz_s_istore (pc := 53) dX12_joins_53 (Nat.le_of_ble_eq_true rfl) [some (.inr (some a0)), some (.inl x1), some (.inl x2), some (.inl x3), some (.inl x4), some (.inl x5), some (.inl (x_11 + x_16))] rfl ?_
      refine bz_aload_n (pc := 55) dX12_joins_55 rfl rfl ?_
      refine bz_rw_rI (pc := 56) dX12_joins_56 fl_X12_200 hP18 (fun x_18 hP19 => ?_)
      clear hP18
      refine bz_if_lt (tgt := 89) (pc := 59) dX12_joins_59 rfl (fun c => ?_) (fun c => ?_)
      · have hP20 := hP19.1 c
        clear hP19
        refine bz_aload_n (pc := 89) dX12_joins_89 rfl rfl ?_
        refine bz_iload (pc := 90) dX12_joins_90 rfl ?_
        refine bz_rw_wI (pc := 92) dX12_joins_92 fl_X12_200 (fun q h9 => by cases h9; rfl) rfl hP20 (fun h_19 hP21 => ?_)
        clear hP20
        refine bz_aload_n (pc := 95) dX12_joins_95 rfl rfl ?_
        refine bz_iload (pc := 96) dX12_joins_96 rfl ?_
        refine bz_rw_wI (pc := 98) dX12_joins_98 fl_X12_206 (fun q h9 => by cases h9; rfl) rfl hP21 (fun h_20 hP22 => ?_)
        clear hP21
        refine bz_aload_n (pc := 101) dX12_joins_101 rfl rfl ?_
        refine bz_rw_rI (pc := 102) dX12_joins_102 fl_X12_167 hP22 (fun x_21 hP23 => ?_)
        clear hP22
        refine bz_s_istore (pc := 105) dX12_joins_105 (Nat.le_of_ble_eq_true rfl) [some (.inr (some a0)), some (.inl x1), some (.inl x2), some (.inl x3), some (.inl x_21), some (.inl x5), some (.inl (x_11 + x_16))] rfl ?_
        refine bz_s_iinc (pc := 107) dX12_joins_107 (Nat.le_of_ble_eq_true rfl) rfl rfl [some (.inr (some a0)), some (.inl x1), some (.inl x2), some (.inl x3), some (.inl x_21), some (.inl (x5 + 1)), some (.inl (x_11 + x_16))] rfl ?_
        refine bz_goto (tgt := 11) (pc := 110) dX12_joins_110 rfl ?_
        exact hP23
      · have hP24 := hP19.2 c
        clear hP19
        refine bz_iload (pc := 62) dX12_joins_62 rfl ?_
        refine bz_aload_n (pc := 64) dX12_joins_64 rfl rfl ?_
        refine bz_rw_rI (pc := 65) dX12_joins_65 fl_X12_206 hP24 (fun x_22 hP25 => ?_)
        clear hP24
        refine bz_icmp_lt (tgt := 89) (pc := 68) dX12_joins_68 rfl (fun c => ?_) (fun c => ?_)
        · have hP26 := hP25.1 c
          clear hP25
          refine bz_aload_n (pc := 89) dX12_joins_89 rfl rfl ?_
          refine bz_iload (pc := 90) dX12_joins_90 rfl ?_
          refine bz_rw_wI (pc := 92) dX12_joins_92 fl_X12_200 (fun q h9 => by cases h9; rfl) rfl hP26 (fun h_23 hP27 => ?_)
          clear hP26
          refine bz_aload_n (pc := 95) dX12_joins_95 rfl rfl ?_
          refine bz_iload (pc := 96) dX12_joins_96 rfl ?_
          refine bz_rw_wI (pc := 98) dX12_joins_98 fl_X12_206 (fun q h9 => by cases h9; rfl) rfl hP27 (fun h_24 hP28 => ?_)
          clear hP27
          refine bz_aload_n (pc := 101) dX12_joins_101 rfl rfl ?_
          refine bz_rw_rI (pc := 102) dX12_joins_102 fl_X12_167 hP28 (fun x_25 hP29 => ?_)
          clear hP28
          refine bz_s_istore (pc := 105) dX12_joins_105 (Nat.le_of_ble_eq_true rfl) [some (.inr (some a0)), some (.inl x1), some (.inl x2), some (.inl x3), some (.inl x_25), some (.inl x5), some (.inl (x_11 + x_16))] rfl ?_
          refine bz_s_iinc (pc := 107) dX12_joins_107 (Nat.le_of_ble_eq_true rfl) rfl rfl [some (.inr (some a0)), some (.inl x1), some (.inl x2), some (.inl x3), some (.inl x_25), some (.inl (x5 + 1)), some (.inl (x_11 + x_16))] rfl ?_
          refine bz_goto (tgt := 11) (pc := 110) dX12_joins_110 rfl ?_
          exact hP29
        · have hP30 := hP25.2 c
          clear hP25
          refine bz_iload (pc := 71) dX12_joins_71 rfl ?_
          refine bz_aload_n (pc := 73) dX12_joins_73 rfl rfl ?_
          refine bz_rw_rI (pc := 74) dX12_joins_74 fl_X12_206 hP30 (fun x_26 hP31 => ?_)
          clear hP30
          refine bz_icmp_ne (tgt := 107) (pc := 77) dX12_joins_77 rfl (fun c => ?_) (fun c => ?_)
          · have hP32 := hP31.1 c
            clear hP31
            refine bz_s_iinc (pc := 107) dX12_joins_107 (Nat.le_of_ble_eq_true rfl) rfl rfl [some (.inr (some a0)), some (.inl x1), some (.inl x2), some (.inl x3), some (.inl x4), some (.inl (x5 + 1)), some (.inl (x_11 + x_16))] rfl ?_
            refine bz_goto (tgt := 11) (pc := 110) dX12_joins_110 rfl ?_
            exact hP32
          · have hP33 := hP31.2 c
            clear hP31
            refine bz_aload_n (pc := 80) dX12_joins_80 rfl rfl ?_
            refine bz_rw_rI (pc := 81) dX12_joins_81 fl_X12_167 hP33 (fun x_27 hP34 => ?_)
            clear hP33
            refine bz_iload (pc := 84) dX12_joins_84 rfl ?_
            refine bz_icmp_ge (tgt := 107) (pc := 86) dX12_joins_86 rfl (fun c => ?_) (fun c => ?_)
            · have hP35 := hP34.1 c
              clear hP34
              refine bz_s_iinc (pc := 107) dX12_joins_107 (Nat.le_of_ble_eq_true rfl) rfl rfl [some (.inr (some a0)), some (.inl x1), some (.inl x2), some (.inl x3), some (.inl x4), some (.inl (x5 + 1)), some (.inl (x_11 + x_16))] rfl ?_
              refine bz_goto (tgt := 11) (pc := 110) dX12_joins_110 rfl ?_
              exact hP35
            · have hP36 := hP34.2 c
              clear hP34
              refine bz_aload_n (pc := 89) dX12_joins_89 rfl rfl ?_
              refine bz_iload (pc := 90) dX12_joins_90 rfl ?_
              refine bz_rw_wI (pc := 92) dX12_joins_92 fl_X12_200 (fun q h9 => by cases h9; rfl) rfl hP36 (fun h_28 hP37 => ?_)
              clear hP36
              refine bz_aload_n (pc := 95) dX12_joins_95 rfl rfl ?_
              refine bz_iload (pc := 96) dX12_joins_96 rfl ?_
              refine bz_rw_wI (pc := 98) dX12_joins_98 fl_X12_206 (fun q h9 => by cases h9; rfl) rfl hP37 (fun h_29 hP38 => ?_)
              clear hP37
              refine bz_aload_n (pc := 101) dX12_joins_101 rfl rfl ?_
              refine bz_rw_rI (pc := 102) dX12_joins_102 fl_X12_167 hP38 (fun x_30 hP39 => ?_)
              clear hP38
              refine bz_s_istore (pc := 105) dX12_joins_105 (Nat.le_of_ble_eq_true rfl) [some (.inr (some a0)), some (.inl x1), some (.inl x2), some (.inl x3), some (.inl x_30), some (.inl x5), some (.inl (x_11 + x_16))] rfl ?_
              refine bz_s_iinc (pc := 107) dX12_joins_107 (Nat.le_of_ble_eq_true rfl) rfl rfl [some (.inr (some a0)), some (.inl x1), some (.inl x2), some (.inl x3), some (.inl x_30), some (.inl (x5 + 1)), some (.inl (x_11 + x_16))] rfl ?_
              refine bz_goto (tgt := 11) (pc := 110) dX12_joins_110 rfl ?_
              exact hP39
theorem m_X12_joins {G : bz_G} {l : Launch} {d mc ms : Nat} {F : Option bz_V → bz_H → Prop} (a0 : Nat) (x1 : Int32) (x2 : Int32) (x3 : Int32) (h : bz_H) (hP : ∀ (κ : bz_K) (bc bs : Nat), κ.2.1 = l → w_X12_joins_0 G κ l d F bc bs a0 x1 x2 x3 h) : bz_Call G l (d + 1) kX12_joins [.inr (some a0), .inl x1, .inl x2, .inl x3] h mc ms F :=
  bz_body (by decide) (Nat.le_of_ble_eq_true rfl) (fun κ hl => g_X12_joins_0 hl a0 x1 x2 x3 h (hP κ mc ms hl))
def w_X12_judge_0 (G : bz_G) (κ : bz_K) (l : Launch) (d : Nat) (F : Option bz_V → bz_H → Prop) (bc bs : Nat) (a0 : Nat) (x1 : Int32) (x2 : Int32) (h : bz_H) : Prop := bz_cI G l d kX12_isSheet [.inl x1] h 0 0 (fun x_1 h_2 => (¬ x_1 = 0 → bz_rR h_2 a0 12 30 (fun r_3 => bz_nn r_3 (fun a_4 => bz_rA h_2 a_4 x1 (fun x_5 => (¬ x_5 = 0 → bz_rc h_2 a0 12 (bz_cI G l d kX12_isText [.inr (some a0), .inl x2] h_2 0 0 (fun x_6 h_7 => (¬ x_6 = 0 → bz_rc h_7 a0 12 (bz_cV G l d kX12_goesNight [.inr (some a0), .inl x2] h_7 0 0 (fun h_9 => bz_J G κ kX12_judge (d + 1) F bc bs 49 [some (.inr (some a0)), some (.inl x1), some (.inl x2), some (.inl 0)] [] h_9))) ∧ (x_6 = 0 → bz_rc h_7 a0 12 (bz_cI G l d kX12_finding [.inr (some a0), .inl 0] h_7 0 0 (fun x_10 h_11 => F (some (.inl x_10)) h_11)))))) ∧ (x_5 = 0 → bz_rc h_2 a0 12 (bz_cI G l d kX12_finding [.inr (some a0), .inl 5] h_2 0 0 (fun x_12 h_13 => F (some (.inl x_12)) h_13))))))) ∧ (x_1 = 0 → bz_rc h_2 a0 12 (bz_cI G l d kX12_finding [.inr (some a0), .inl 0] h_2 0 0 (fun x_14 h_15 => F (some (.inl x_14)) h_15))))
set_option maxRecDepth 20000 in
set_option maxHeartbeats 4000000 in
theorem g_X12_judge_0 {G : bz_G} {κ : bz_K} {l : Launch} {d : Nat} {F : Option bz_V → bz_H → Prop} {bc bs : Nat} (hl : κ.2.1 = l) (a0 : Nat) (x1 : Int32) (x2 : Int32) (h : bz_H) (hP0 : w_X12_judge_0 G κ l d F bc bs a0 x1 x2 h) : bz_J G κ kX12_judge (d + 1) F bc bs 0 [some (.inr (some a0)), some (.inl x1), some (.inl x2), none] [] h := by
  subst hl
  unfold w_X12_judge_0 at hP0
  refine bz_iload_n (pc := 0) dX12_judge_0 rfl rfl ?_
  refine bz_kIS (as := [.inl x1]) (st := []) (n := 1) (mc := 0) (ms := 0) (bc := bc) (bs := bs) (yc := kX12_isSheet) (pc := 1) dX12_judge_1 sc_X12_isSheet ml_X12_341 ss_X12_isSheet rfl (Nat.le_of_ble_eq_true rfl) hP0 (fun x_1 h_2 hP1 => ?_)
  clear hP0
  refine bz_if_ne (tgt := 13) (pc := 4) dX12_judge_4 rfl (fun c => ?_) (fun c => ?_)
  · have hP2 := hP1.1 c
    clear hP1
    refine bz_aload_n (pc := 13) dX12_judge_13 rfl rfl ?_
    refine bz_rw_rR (pc := 14) dX12_judge_14 fl_X12_52 hP2 (fun r_3 hP3 => ?_)
    clear hP2
    refine bz_iload_n (pc := 17) dX12_judge_17 rfl rfl ?_
    obtain ⟨a_4, rfl, hP4⟩ := hP3
    refine bz_rw_rA (pc := 18) dX12_judge_18 hP4 (fun x_5 hP5 => ?_)
    clear hP4
    refine bz_if_ne (tgt := 28) (pc := 19) dX12_judge_19 rfl (fun c => ?_) (fun c => ?_)
    · have hP6 := hP5.1 c
      clear hP5
      refine bz_aload_n (pc := 28) dX12_judge_28 rfl rfl ?_
      refine bz_iload_n (pc := 29) dX12_judge_29 rfl rfl ?_
      refine bz_kIV (as := [.inl x2]) (st := []) (ci := 12) (n := 1) (mc := 0) (ms := 0) (bc := bc) (bs := bs) (yc := kX12_isText) (q := (RX12, TX12, 34)) (b := a0) (pc := 30) dX12_judge_30 sc_X12_isText ml_X12_296 im_X12_isText se_X12_isText rfl rfl rfl (Nat.le_of_ble_eq_true rfl) hP6 (fun x_6 h_7 hP7 => ?_)
      clear hP6
      refine bz_if_ne (tgt := 42) (pc := 33) dX12_judge_33 rfl (fun c => ?_) (fun c => ?_)
      · have hP8 := hP7.1 c
        clear hP7
        refine bz_aload_n (pc := 42) dX12_judge_42 rfl rfl ?_
        refine bz_iload_n (pc := 43) dX12_judge_43 rfl rfl ?_
        refine bz_kVV (as := [.inl x2]) (st := []) (ci := 12) (n := 1) (mc := 0) (ms := 0) (bc := bc) (bs := bs) (yc := kX12_goesNight) (q := (RX12, TX12, 34)) (b := a0) (pc := 44) dX12_judge_44 sc_X12_goesNight ml_X12_332 im_X12_goesNight se_X12_goesNight rfl rfl rfl (Nat.le_of_ble_eq_true rfl) hP8 (fun h_9 hP9 => ?_)
        clear hP8
        refine bz_iconst (pc := 47) dX12_judge_47 ci_0 ?_
        refine bz_s_istore_n (pc := 48) dX12_judge_48 rfl (Nat.le_of_ble_eq_true rfl) [some (.inr (some a0)), some (.inl x1), some (.inl x2), some (.inl 0)] rfl ?_
        exact hP9
      · have hP10 := hP7.2 c
        clear hP7
        refine bz_aload_n (pc := 36) dX12_judge_36 rfl rfl ?_
        refine bz_iconst (pc := 37) dX12_judge_37 ci_0 ?_
        refine bz_kIV (as := [.inl 0]) (st := []) (ci := 12) (n := 1) (mc := 0) (ms := 0) (bc := bc) (bs := bs) (yc := kX12_finding) (q := (RX12, TX12, 34)) (b := a0) (pc := 38) dX12_judge_38 sc_X12_finding ml_X12_73 im_X12_finding se_X12_finding rfl rfl rfl (Nat.le_of_ble_eq_true rfl) hP10 (fun x_10 h_11 hP11 => ?_)
        clear hP10
        exact bz_retI (pc := 41) dX12_judge_41 rfl rfl hP11
    · have hP12 := hP5.2 c
      clear hP5
      refine bz_aload_n (pc := 22) dX12_judge_22 rfl rfl ?_
      refine bz_iconst (pc := 23) dX12_judge_23 ci_5 ?_
      refine bz_kIV (as := [.inl 5]) (st := []) (ci := 12) (n := 1) (mc := 0) (ms := 0) (bc := bc) (bs := bs) (yc := kX12_finding) (q := (RX12, TX12, 34)) (b := a0) (pc := 24) dX12_judge_24 sc_X12_finding ml_X12_73 im_X12_finding se_X12_finding rfl rfl rfl (Nat.le_of_ble_eq_true rfl) hP12 (fun x_12 h_13 hP13 => ?_)
      clear hP12
      exact bz_retI (pc := 27) dX12_judge_27 rfl rfl hP13
  · have hP14 := hP1.2 c
    clear hP1
    refine bz_aload_n (pc := 7) dX12_judge_7 rfl rfl ?_
    refine bz_iconst (pc := 8) dX12_judge_8 ci_0 ?_
    refine bz_kIV (as := [.inl 0]) (st := []) (ci := 12) (n := 1) (mc := 0) (ms := 0) (bc := bc) (bs := bs) (yc := kX12_finding) (q := (RX12, TX12, 34)) (b := a0) (pc := 9) dX12_judge_9 sc_X12_finding ml_X12_73 im_X12_finding se_X12_finding rfl rfl rfl (Nat.le_of_ble_eq_true rfl) hP14 (fun x_14 h_15 hP15 => ?_)
    clear hP14
    exact bz_retI (pc := 12) dX12_judge_12 rfl rfl hP15
def w_X12_judge_49 (G : bz_G) (κ : bz_K) (l : Launch) (d : Nat) (F : Option bz_V → bz_H → Prop) (bc bs : Nat) (a0 : Nat) (x1 : Int32) (x2 : Int32) (x3 : Int32) (h : bz_H) : Prop := bz_rR h a0 12 31 (fun r_16 => bz_nn r_16 (fun a_17 => bz_rA h a_17 x1 (fun x_18 => (x_18 ≤ x3 → bz_rR h a0 12 31 (fun r_19 => bz_nn r_19 (fun a_20 => bz_rA h a_20 x1 (fun x_21 => (¬ x3 = x_21 → F (some (.inl (1 + x3))) h) ∧ (x3 = x_21 → bz_rR h a0 12 0 (fun r_22 => bz_nn r_22 (fun a_23 => bz_rA h a_23 2 (fun x_24 => F (some (.inl (if x3 = x_24 then 0 else 1 + x3))) h)))))))) ∧ (¬ (x_18 ≤ x3) → bz_rR h a0 12 0 (fun r_25 => bz_nn r_25 (fun a_26 => bz_rA h a_26 2 (fun x_27 => (x_27 ≤ x3 → bz_rR h a0 12 31 (fun r_28 => bz_nn r_28 (fun a_29 => bz_rA h a_29 x1 (fun x_30 => (¬ x3 = x_30 → F (some (.inl (1 + x3))) h) ∧ (x3 = x_30 → bz_rR h a0 12 0 (fun r_31 => bz_nn r_31 (fun a_32 => bz_rA h a_32 2 (fun x_33 => F (some (.inl (if x3 = x_33 then 0 else 1 + x3))) h)))))))) ∧ (¬ (x_27 ≤ x3) → bz_rR h a0 12 32 (fun r_34 => bz_nn r_34 (fun a_35 => bz_rA h a_35 ((60 * x1) + x3) (fun x_36 => bz_rR h a0 12 27 (fun r_37 => bz_nn r_37 (fun a_38 => bz_rA h a_38 x3 (fun x_39 => (¬ x_36 = x_39 → bz_rR h a0 12 31 (fun r_40 => bz_nn r_40 (fun a_41 => bz_rA h a_41 x1 (fun x_42 => (¬ x3 = x_42 → F (some (.inl (1 + x3))) h) ∧ (x3 = x_42 → bz_rR h a0 12 0 (fun r_43 => bz_nn r_43 (fun a_44 => bz_rA h a_44 2 (fun x_45 => F (some (.inl (if x3 = x_45 then 0 else 1 + x3))) h)))))))) ∧ (x_36 = x_39 → bz_J G κ kX12_judge (d + 1) F bc bs 49 [some (.inr (some a0)), some (.inl x1), some (.inl x2), some (.inl (x3 + 1))] [] h)))))))))))))))
set_option maxRecDepth 20000 in
set_option maxHeartbeats 4000000 in
theorem g_X12_judge_49 {G : bz_G} {κ : bz_K} {l : Launch} {d : Nat} {F : Option bz_V → bz_H → Prop} {bc bs : Nat} (hl : κ.2.1 = l) (a0 : Nat) (x1 : Int32) (x2 : Int32) (x3 : Int32) (h : bz_H) (hP0 : w_X12_judge_49 G κ l d F bc bs a0 x1 x2 x3 h) : bz_J G κ kX12_judge (d + 1) F bc bs 49 [some (.inr (some a0)), some (.inl x1), some (.inl x2), some (.inl x3)] [] h := by
  subst hl
  unfold w_X12_judge_49 at hP0
  refine bz_iload_n (pc := 49) dX12_judge_49 rfl rfl ?_
  refine bz_aload_n (pc := 50) dX12_judge_50 rfl rfl ?_
  refine bz_rw_rR (pc := 51) dX12_judge_51 fl_X12_55 hP0 (fun r_16 hP1 => ?_)
  clear hP0
  refine bz_iload_n (pc := 54) dX12_judge_54 rfl rfl ?_
  obtain ⟨a_17, rfl, hP2⟩ := hP1
  refine bz_rw_rA (pc := 55) dX12_judge_55 hP2 (fun x_18 hP3 => ?_)
  clear hP2
  refine bz_icmp_ge (tgt := 95) (pc := 56) dX12_judge_56 rfl (fun c => ?_) (fun c => ?_)
  · have hP4 := hP3.1 c
    clear hP3
    refine bz_iload_n (pc := 95) dX12_judge_95 rfl rfl ?_
    refine bz_aload_n (pc := 96) dX12_judge_96 rfl rfl ?_
    refine bz_rw_rR (pc := 97) dX12_judge_97 fl_X12_55 hP4 (fun r_19 hP5 => ?_)
    clear hP4
    refine bz_iload_n (pc := 100) dX12_judge_100 rfl rfl ?_
    obtain ⟨a_20, rfl, hP6⟩ := hP5
    refine bz_rw_rA (pc := 101) dX12_judge_101 hP6 (fun x_21 hP7 => ?_)
    clear hP6
    refine bz_icmp_ne (tgt := 119) (pc := 102) dX12_judge_102 rfl (fun c => ?_) (fun c => ?_)
    · have hP8 := hP7.1 c
      clear hP7
      refine bz_iconst (pc := 119) dX12_judge_119 ci_1 ?_
      refine bz_iload_n (pc := 120) dX12_judge_120 rfl rfl ?_
      refine bz_iadd (pc := 121) dX12_judge_121 ?_
      exact bz_retI (pc := 122) dX12_judge_122 rfl rfl hP8
    · have hP9 := hP7.2 c
      clear hP7
      refine bz_iload_n (pc := 105) dX12_judge_105 rfl rfl ?_
      refine bz_aload_n (pc := 106) dX12_judge_106 rfl rfl ?_
      refine bz_rw_rR (pc := 107) dX12_judge_107 fl_X12_7 hP9 (fun r_22 hP10 => ?_)
      clear hP9
      refine bz_iconst (pc := 110) dX12_judge_110 ci_2 ?_
      obtain ⟨a_23, rfl, hP11⟩ := hP10
      refine bz_rw_rA (pc := 111) dX12_judge_111 hP11 (fun x_24 hP12 => ?_)
      clear hP11
      have hJ : bz_J G κ kX12_judge (d + 1) F bc bs 122 [some (.inr (some a0)), some (.inl x1), some (.inl x2), some (.inl x3)] [.inl (if x3 = x_24 then 0 else 1 + x3)] h := by
        exact bz_retI (pc := 122) dX12_judge_122 rfl rfl hP12
      refine bz_icmp_ne (tgt := 119) (pc := 112) dX12_judge_112 rfl (fun c => ?_) (fun c => ?_)
      · have e9 : ((if x3 = x_24 then 0 else 1 + x3) : Int32) = (1 + x3) := if_neg c
        rw [e9] at hJ
        refine bz_iconst (pc := 119) dX12_judge_119 ci_1 ?_
        refine bz_iload_n (pc := 120) dX12_judge_120 rfl rfl ?_
        refine bz_iadd (pc := 121) dX12_judge_121 ?_
        exact hJ
      · have e9 : ((if x3 = x_24 then 0 else 1 + x3) : Int32) = (0) := if_pos c
        rw [e9] at hJ
        refine bz_iconst (pc := 115) dX12_judge_115 ci_0 ?_
        refine bz_goto (tgt := 122) (pc := 116) dX12_judge_116 rfl ?_
        exact hJ
  · have hP13 := hP3.2 c
    clear hP3
    refine bz_iload_n (pc := 59) dX12_judge_59 rfl rfl ?_
    refine bz_aload_n (pc := 60) dX12_judge_60 rfl rfl ?_
    refine bz_rw_rR (pc := 61) dX12_judge_61 fl_X12_7 hP13 (fun r_25 hP14 => ?_)
    clear hP13
    refine bz_iconst (pc := 64) dX12_judge_64 ci_2 ?_
    obtain ⟨a_26, rfl, hP15⟩ := hP14
    refine bz_rw_rA (pc := 65) dX12_judge_65 hP15 (fun x_27 hP16 => ?_)
    clear hP15
    refine bz_icmp_ge (tgt := 95) (pc := 66) dX12_judge_66 rfl (fun c => ?_) (fun c => ?_)
    · have hP17 := hP16.1 c
      clear hP16
      refine bz_iload_n (pc := 95) dX12_judge_95 rfl rfl ?_
      refine bz_aload_n (pc := 96) dX12_judge_96 rfl rfl ?_
      refine bz_rw_rR (pc := 97) dX12_judge_97 fl_X12_55 hP17 (fun r_28 hP18 => ?_)
      clear hP17
      refine bz_iload_n (pc := 100) dX12_judge_100 rfl rfl ?_
      obtain ⟨a_29, rfl, hP19⟩ := hP18
      refine bz_rw_rA (pc := 101) dX12_judge_101 hP19 (fun x_30 hP20 => ?_)
      clear hP19
      refine bz_icmp_ne (tgt := 119) (pc := 102) dX12_judge_102 rfl (fun c => ?_) (fun c => ?_)
      · have hP21 := hP20.1 c
        clear hP20
        refine bz_iconst (pc := 119) dX12_judge_119 ci_1 ?_
        refine bz_iload_n (pc := 120) dX12_judge_120 rfl rfl ?_
        refine bz_iadd (pc := 121) dX12_judge_121 ?_
        exact bz_retI (pc := 122) dX12_judge_122 rfl rfl hP21
      · have hP22 := hP20.2 c
        clear hP20
        refine bz_iload_n (pc := 105) dX12_judge_105 rfl rfl ?_
        refine bz_aload_n (pc := 106) dX12_judge_106 rfl rfl ?_
        refine bz_rw_rR (pc := 107) dX12_judge_107 fl_X12_7 hP22 (fun r_31 hP23 => ?_)
        clear hP22
        refine bz_iconst (pc := 110) dX12_judge_110 ci_2 ?_
        obtain ⟨a_32, rfl, hP24⟩ := hP23
        refine bz_rw_rA (pc := 111) dX12_judge_111 hP24 (fun x_33 hP25 => ?_)
        clear hP24
        have hJ : bz_J G κ kX12_judge (d + 1) F bc bs 122 [some (.inr (some a0)), some (.inl x1), some (.inl x2), some (.inl x3)] [.inl (if x3 = x_33 then 0 else 1 + x3)] h := by
          exact bz_retI (pc := 122) dX12_judge_122 rfl rfl hP25
        refine bz_icmp_ne (tgt := 119) (pc := 112) dX12_judge_112 rfl (fun c => ?_) (fun c => ?_)
        · have e9 : ((if x3 = x_33 then 0 else 1 + x3) : Int32) = (1 + x3) := if_neg c
          rw [e9] at hJ
          refine bz_iconst (pc := 119) dX12_judge_119 ci_1 ?_
          refine bz_iload_n (pc := 120) dX12_judge_120 rfl rfl ?_
          refine bz_iadd (pc := 121) dX12_judge_121 ?_
          exact hJ
        · have e9 : ((if x3 = x_33 then 0 else 1 + x3) : Int32) = (0) := if_pos c
          rw [e9] at hJ
          refine bz_iconst (pc := 115) dX12_judge_115 ci_0 ?_
          refine bz_goto (tgt := 122) (pc := 116) dX12_judge_116 rfl ?_
          exact hJ
    · have hP26 := hP16.2 c
      clear hP16
      refine bz_aload_n (pc := 69) dX12_judge_69 rfl rfl ?_
      refine bz_rw_rR (pc := 70) dX12_judge_70 fl_X12_58 hP26 (fun r_34 hP27 => ?_)
      clear hP26
      refine bz_bipush (pc := 73) dX12_judge_73 cb_60 ?_
      refine bz_iload_n (pc := 75) dX12_judge_75 rfl rfl ?_
      refine bz_imul (pc := 76) dX12_judge_76 ?_
      refine bz_iload_n (pc := 77) dX12_judge_77 rfl rfl ?_
      refine bz_iadd (pc := 78) dX12_judge_78 ?_
      obtain ⟨a_35, rfl, hP28⟩ := hP27
      refine bz_rw_rA (pc := 79) dX12_judge_79 hP28 (fun x_36 hP29 => ?_)
      clear hP28
      refine bz_aload_n (pc := 80) dX12_judge_80 rfl rfl ?_
      refine bz_rw_rR (pc := 81) dX12_judge_81 fl_X12_49 hP29 (fun r_37 hP30 => ?_)
      clear hP29
      refine bz_iload_n (pc := 84) dX12_judge_84 rfl rfl ?_
      obtain ⟨a_38, rfl, hP31⟩ := hP30
      refine bz_rw_rA (pc := 85) dX12_judge_85 hP31 (fun x_39 hP32 => ?_)
      clear hP31
      refine bz_icmp_ne (tgt := 95) (pc := 86) dX12_judge_86 rfl (fun c => ?_) (fun c => ?_)
      · have hP33 := hP32.1 c
        clear hP32
        refine bz_iload_n (pc := 95) dX12_judge_95 rfl rfl ?_
        refine bz_aload_n (pc := 96) dX12_judge_96 rfl rfl ?_
        refine bz_rw_rR (pc := 97) dX12_judge_97 fl_X12_55 hP33 (fun r_40 hP34 => ?_)
        clear hP33
        refine bz_iload_n (pc := 100) dX12_judge_100 rfl rfl ?_
        obtain ⟨a_41, rfl, hP35⟩ := hP34
        refine bz_rw_rA (pc := 101) dX12_judge_101 hP35 (fun x_42 hP36 => ?_)
        clear hP35
        refine bz_icmp_ne (tgt := 119) (pc := 102) dX12_judge_102 rfl (fun c => ?_) (fun c => ?_)
        · have hP37 := hP36.1 c
          clear hP36
          refine bz_iconst (pc := 119) dX12_judge_119 ci_1 ?_
          refine bz_iload_n (pc := 120) dX12_judge_120 rfl rfl ?_
          refine bz_iadd (pc := 121) dX12_judge_121 ?_
          exact bz_retI (pc := 122) dX12_judge_122 rfl rfl hP37
        · have hP38 := hP36.2 c
          clear hP36
          refine bz_iload_n (pc := 105) dX12_judge_105 rfl rfl ?_
          refine bz_aload_n (pc := 106) dX12_judge_106 rfl rfl ?_
          refine bz_rw_rR (pc := 107) dX12_judge_107 fl_X12_7 hP38 (fun r_43 hP39 => ?_)
          clear hP38
          refine bz_iconst (pc := 110) dX12_judge_110 ci_2 ?_
          obtain ⟨a_44, rfl, hP40⟩ := hP39
          refine bz_rw_rA (pc := 111) dX12_judge_111 hP40 (fun x_45 hP41 => ?_)
          clear hP40
          have hJ : bz_J G κ kX12_judge (d + 1) F bc bs 122 [some (.inr (some a0)), some (.inl x1), some (.inl x2), some (.inl x3)] [.inl (if x3 = x_45 then 0 else 1 + x3)] h := by
            exact bz_retI (pc := 122) dX12_judge_122 rfl rfl hP41
          refine bz_icmp_ne (tgt := 119) (pc := 112) dX12_judge_112 rfl (fun c => ?_) (fun c => ?_)
          · have e9 : ((if x3 = x_45 then 0 else 1 + x3) : Int32) = (1 + x3) := if_neg c
            rw [e9] at hJ
            refine bz_iconst (pc := 119) dX12_judge_119 ci_1 ?_
            refine bz_iload_n (pc := 120) dX12_judge_120 rfl rfl ?_
            refine bz_iadd (pc := 121) dX12_judge_121 ?_
            exact hJ
          · have e9 : ((if x3 = x_45 then 0 else 1 + x3) : Int32) = (0) := if_pos c
            rw [e9] at hJ
            refine bz_iconst (pc := 115) dX12_judge_115 ci_0 ?_
            refine bz_goto (tgt := 122) (pc := 116) dX12_judge_116 rfl ?_
            exact hJ
      · have hP42 := hP32.2 c
        clear hP32
        refine bz_s_iinc (pc := 89) dX12_judge_89 (Nat.le_of_ble_eq_true rfl) rfl rfl [some (.inr (some a0)), some (.inl x1), some (.inl x2), some (.inl (x3 + 1))] rfl ?_
        refine bz_goto (tgt := 49) (pc := 92) dX12_judge_92 rfl ?_
        exact hP42
theorem m_X12_judge {G : bz_G} {l : Launch} {d mc ms : Nat} {F : Option bz_V → bz_H → Prop} (a0 : Nat) (x1 : Int32) (x2 : Int32) (h : bz_H) (hP : ∀ (κ : bz_K) (bc bs : Nat), κ.2.1 = l → w_X12_judge_0 G κ l d F bc bs a0 x1 x2 h) : bz_Call G l (d + 1) kX12_judge [.inr (some a0), .inl x1, .inl x2] h mc ms F :=
  bz_body (by decide) (Nat.le_of_ble_eq_true rfl) (fun κ hl => g_X12_judge_0 hl a0 x1 x2 h (hP κ mc ms hl))
def w_X12_kitchenAt_0 (G : bz_G) (l : Launch) (d : Nat) (F : Option bz_V → bz_H → Prop) (a0 : Nat) (x1 : Int32) (h : bz_H) : Prop := bz_rR h a0 12 0 (fun r_1 => bz_rc h a0 12 (bz_cI G l d kX12_ofOrder [.inr (some a0), .inl x1, .inl 0] h 0 0 (fun x_2 h_3 => bz_nn r_1 (fun a_4 => bz_rA h_3 a_4 (300 + (2 * x_2)) (fun x_5 => F (some (.inl x_5)) h_3)))))
set_option maxRecDepth 20000 in
set_option maxHeartbeats 4000000 in
theorem g_X12_kitchenAt_0 {G : bz_G} {κ : bz_K} {l : Launch} {d : Nat} {F : Option bz_V → bz_H → Prop} {bc bs : Nat} (hl : κ.2.1 = l) (a0 : Nat) (x1 : Int32) (h : bz_H) (hP0 : w_X12_kitchenAt_0 G l d F a0 x1 h) : bz_J G κ kX12_kitchenAt (d + 1) F bc bs 0 [some (.inr (some a0)), some (.inl x1)] [] h := by
  subst hl
  unfold w_X12_kitchenAt_0 at hP0
  refine bz_aload_n (pc := 0) dX12_kitchenAt_0 rfl rfl ?_
  refine bz_rw_rR (pc := 1) dX12_kitchenAt_1 fl_X12_7 hP0 (fun r_1 hP1 => ?_)
  clear hP0
  refine bz_sipush (pc := 4) dX12_kitchenAt_4 cs_300 ?_
  refine bz_iconst (pc := 7) dX12_kitchenAt_7 ci_2 ?_
  refine bz_aload_n (pc := 8) dX12_kitchenAt_8 rfl rfl ?_
  refine bz_iload_n (pc := 9) dX12_kitchenAt_9 rfl rfl ?_
  refine bz_iconst (pc := 10) dX12_kitchenAt_10 ci_0 ?_
  refine bz_kIV (as := [.inl x1, .inl 0]) (st := [.inl 2, .inl 300, .inr r_1]) (ci := 12) (n := 2) (mc := 0) (ms := 0) (bc := bc) (bs := bs) (yc := kX12_ofOrder) (q := (RX12, TX12, 34)) (b := a0) (pc := 11) dX12_kitchenAt_11 sc_X12_ofOrder ml_X12_99 im_X12_ofOrder se_X12_ofOrder rfl rfl rfl (Nat.le_of_ble_eq_true rfl) hP1 (fun x_2 h_3 hP2 => ?_)
  clear hP1
  refine bz_imul (pc := 14) dX12_kitchenAt_14 ?_
  refine bz_iadd (pc := 15) dX12_kitchenAt_15 ?_
  obtain ⟨a_4, rfl, hP3⟩ := hP2
  refine bz_rw_rA (pc := 16) dX12_kitchenAt_16 hP3 (fun x_5 hP4 => ?_)
  clear hP3
  exact bz_retI (pc := 17) dX12_kitchenAt_17 rfl rfl hP4
theorem m_X12_kitchenAt {G : bz_G} {l : Launch} {d mc ms : Nat} {F : Option bz_V → bz_H → Prop} (a0 : Nat) (x1 : Int32) (h : bz_H) (hP : w_X12_kitchenAt_0 G l d F a0 x1 h) : bz_Call G l (d + 1) kX12_kitchenAt [.inr (some a0), .inl x1] h mc ms F :=
  bz_body (by decide) (Nat.le_of_ble_eq_true rfl) (fun κ hl => g_X12_kitchenAt_0 hl a0 x1 h hP)
def w_X12_kitchen_0 (G : bz_G) (l : Launch) (d : Nat) (F : Option bz_V → bz_H → Prop) (a0 : Nat) (x1 : Int32) (x2 : Int32) (h : bz_H) : Prop := bz_cI G l d kX12_isCrossing [.inl x1] h 0 0 (fun x_1 h_2 => (x_1 = 0 → bz_rc h_2 a0 12 (bz_cI G l d kX12_finding [.inr (some a0), .inl 0] h_2 0 0 (fun x_3 h_4 => F (some (.inl x_3)) h_4))) ∧ (¬ (x_1 = 0) → bz_cI G l d kX12_in [.inl x2, .inl 1, .inl 60] h_2 0 0 (fun x_5 h_6 => (¬ x_5 = 0 → bz_rR h_6 a0 12 0 (fun r_7 => bz_nn r_7 (fun a_8 => bz_rA h_6 a_8 1 (fun x_9 => (¬ x_9 = 6 → bz_rR h_6 a0 12 0 (fun r_10 => bz_rR h_6 a0 12 0 (fun r_11 => bz_nn r_11 (fun a_12 => bz_rA h_6 a_12 1 (fun x_13 => bz_nn r_10 (fun a_14 => bz_wA h_6 a_14 (300 + (2 * x_13)) x1 (fun h_15 => bz_rR h_15 a0 12 0 (fun r_16 => bz_rR h_15 a0 12 0 (fun r_17 => bz_nn r_17 (fun a_18 => bz_rA h_15 a_18 1 (fun x_19 => bz_nn r_16 (fun a_20 => bz_wA h_15 a_20 ((300 + (2 * x_19)) + 1) x2 (fun h_21 => bz_rR h_21 a0 12 0 (fun r_22 => bz_nn r_22 (fun a_23 => bz_rA h_21 a_23 1 (fun x_24 => bz_wA h_21 a_23 1 (x_24 + 1) (fun h_25 => bz_rR h_25 a0 12 0 (fun r_26 => bz_nn r_26 (fun a_27 => bz_rA h_25 a_27 1 (fun x_28 => F (some (.inl (x_28 - 1))) h_25)))))))))))))))))))) ∧ (x_9 = 6 → bz_rc h_6 a0 12 (bz_cI G l d kX12_finding [.inr (some a0), .inl 1] h_6 0 0 (fun x_29 h_30 => F (some (.inl x_29)) h_30))))))) ∧ (x_5 = 0 → bz_rc h_6 a0 12 (bz_cI G l d kX12_finding [.inr (some a0), .inl 0] h_6 0 0 (fun x_31 h_32 => F (some (.inl x_31)) h_32))))))
set_option maxRecDepth 20000 in
set_option maxHeartbeats 4000000 in
theorem g_X12_kitchen_0 {G : bz_G} {κ : bz_K} {l : Launch} {d : Nat} {F : Option bz_V → bz_H → Prop} {bc bs : Nat} (hl : κ.2.1 = l) (a0 : Nat) (x1 : Int32) (x2 : Int32) (h : bz_H) (hP0 : w_X12_kitchen_0 G l d F a0 x1 x2 h) : bz_J G κ kX12_kitchen (d + 1) F bc bs 0 [some (.inr (some a0)), some (.inl x1), some (.inl x2)] [] h := by
  subst hl
  unfold w_X12_kitchen_0 at hP0
  refine bz_iload_n (pc := 0) dX12_kitchen_0 rfl rfl ?_
  refine bz_kIS (as := [.inl x1]) (st := []) (n := 1) (mc := 0) (ms := 0) (bc := bc) (bs := bs) (yc := kX12_isCrossing) (pc := 1) dX12_kitchen_1 sc_X12_isCrossing ml_X12_69 ss_X12_isCrossing rfl (Nat.le_of_ble_eq_true rfl) hP0 (fun x_1 h_2 hP1 => ?_)
  clear hP0
  refine bz_if_eq (tgt := 17) (pc := 4) dX12_kitchen_4 rfl (fun c => ?_) (fun c => ?_)
  · have hP2 := hP1.1 c
    clear hP1
    refine bz_aload_n (pc := 17) dX12_kitchen_17 rfl rfl ?_
    refine bz_iconst (pc := 18) dX12_kitchen_18 ci_0 ?_
    refine bz_kIV (as := [.inl 0]) (st := []) (ci := 12) (n := 1) (mc := 0) (ms := 0) (bc := bc) (bs := bs) (yc := kX12_finding) (q := (RX12, TX12, 34)) (b := a0) (pc := 19) dX12_kitchen_19 sc_X12_finding ml_X12_73 im_X12_finding se_X12_finding rfl rfl rfl (Nat.le_of_ble_eq_true rfl) hP2 (fun x_3 h_4 hP3 => ?_)
    clear hP2
    exact bz_retI (pc := 22) dX12_kitchen_22 rfl rfl hP3
  · have hP4 := hP1.2 c
    clear hP1
    refine bz_iload_n (pc := 7) dX12_kitchen_7 rfl rfl ?_
    refine bz_iconst (pc := 8) dX12_kitchen_8 ci_1 ?_
    refine bz_bipush (pc := 9) dX12_kitchen_9 cb_60 ?_
    refine bz_kIS (as := [.inl x2, .inl 1, .inl 60]) (st := []) (n := 3) (mc := 0) (ms := 0) (bc := bc) (bs := bs) (yc := kX12_in) (pc := 11) dX12_kitchen_11 sc_X12_in ml_X12_65 ss_X12_in rfl (Nat.le_of_ble_eq_true rfl) hP4 (fun x_5 h_6 hP5 => ?_)
    clear hP4
    refine bz_if_ne (tgt := 23) (pc := 14) dX12_kitchen_14 rfl (fun c => ?_) (fun c => ?_)
    · have hP6 := hP5.1 c
      clear hP5
      refine bz_aload_n (pc := 23) dX12_kitchen_23 rfl rfl ?_
      refine bz_rw_rR (pc := 24) dX12_kitchen_24 fl_X12_7 hP6 (fun r_7 hP7 => ?_)
      clear hP6
      refine bz_iconst (pc := 27) dX12_kitchen_27 ci_1 ?_
      obtain ⟨a_8, rfl, hP8⟩ := hP7
      refine bz_rw_rA (pc := 28) dX12_kitchen_28 hP8 (fun x_9 hP9 => ?_)
      clear hP8
      refine bz_bipush (pc := 29) dX12_kitchen_29 cb_6 ?_
      refine bz_icmp_ne (tgt := 40) (pc := 31) dX12_kitchen_31 rfl (fun c => ?_) (fun c => ?_)
      · have hP10 := hP9.1 c
        clear hP9
        refine bz_aload_n (pc := 40) dX12_kitchen_40 rfl rfl ?_
        refine bz_rw_rR (pc := 41) dX12_kitchen_41 fl_X12_7 hP10 (fun r_10 hP11 => ?_)
        clear hP10
        refine bz_sipush (pc := 44) dX12_kitchen_44 cs_300 ?_
        refine bz_iconst (pc := 47) dX12_kitchen_47 ci_2 ?_
        refine bz_aload_n (pc := 48) dX12_kitchen_48 rfl rfl ?_
        refine bz_rw_rR (pc := 49) dX12_kitchen_49 fl_X12_7 hP11 (fun r_11 hP12 => ?_)
        clear hP11
        refine bz_iconst (pc := 52) dX12_kitchen_52 ci_1 ?_
        obtain ⟨a_12, rfl, hP13⟩ := hP12
        refine bz_rw_rA (pc := 53) dX12_kitchen_53 hP13 (fun x_13 hP14 => ?_)
        clear hP13
        refine bz_imul (pc := 54) dX12_kitchen_54 ?_
        refine bz_iadd (pc := 55) dX12_kitchen_55 ?_
        refine bz_iload_n (pc := 56) dX12_kitchen_56 rfl rfl ?_
        obtain ⟨a_14, rfl, hP15⟩ := hP14
        refine bz_rw_wA (pc := 57) dX12_kitchen_57 hP15 (fun h_15 hP16 => ?_)
        clear hP15
        refine bz_aload_n (pc := 58) dX12_kitchen_58 rfl rfl ?_
        refine bz_rw_rR (pc := 59) dX12_kitchen_59 fl_X12_7 hP16 (fun r_16 hP17 => ?_)
        clear hP16
        refine bz_sipush (pc := 62) dX12_kitchen_62 cs_300 ?_
        refine bz_iconst (pc := 65) dX12_kitchen_65 ci_2 ?_
        refine bz_aload_n (pc := 66) dX12_kitchen_66 rfl rfl ?_
        refine bz_rw_rR (pc := 67) dX12_kitchen_67 fl_X12_7 hP17 (fun r_17 hP18 => ?_)
        clear hP17
        refine bz_iconst (pc := 70) dX12_kitchen_70 ci_1 ?_
        obtain ⟨a_18, rfl, hP19⟩ := hP18
        refine bz_rw_rA (pc := 71) dX12_kitchen_71 hP19 (fun x_19 hP20 => ?_)
        clear hP19
        refine bz_imul (pc := 72) dX12_kitchen_72 ?_
        refine bz_iadd (pc := 73) dX12_kitchen_73 ?_
        refine bz_iconst (pc := 74) dX12_kitchen_74 ci_1 ?_
        refine bz_iadd (pc := 75) dX12_kitchen_75 ?_
        refine bz_iload_n (pc := 76) dX12_kitchen_76 rfl rfl ?_
        obtain ⟨a_20, rfl, hP21⟩ := hP20
        refine bz_rw_wA (pc := 77) dX12_kitchen_77 hP21 (fun h_21 hP22 => ?_)
        clear hP21
        refine bz_aload_n (pc := 78) dX12_kitchen_78 rfl rfl ?_
        refine bz_rw_rR (pc := 79) dX12_kitchen_79 fl_X12_7 hP22 (fun r_22 hP23 => ?_)
        clear hP22
        refine bz_iconst (pc := 82) dX12_kitchen_82 ci_1 ?_
        refine bz_dup2 (pc := 83) dX12_kitchen_83 ?_
        obtain ⟨a_23, rfl, hP24⟩ := hP23
        refine bz_rw_rA (pc := 84) dX12_kitchen_84 hP24 (fun x_24 hP25 => ?_)
        clear hP24
        refine bz_iconst (pc := 85) dX12_kitchen_85 ci_1 ?_
        refine bz_iadd (pc := 86) dX12_kitchen_86 ?_
        refine bz_rw_wA (pc := 87) dX12_kitchen_87 hP25 (fun h_25 hP26 => ?_)
        clear hP25
        refine bz_aload_n (pc := 88) dX12_kitchen_88 rfl rfl ?_
        refine bz_rw_rR (pc := 89) dX12_kitchen_89 fl_X12_7 hP26 (fun r_26 hP27 => ?_)
        clear hP26
        refine bz_iconst (pc := 92) dX12_kitchen_92 ci_1 ?_
        obtain ⟨a_27, rfl, hP28⟩ := hP27
        refine bz_rw_rA (pc := 93) dX12_kitchen_93 hP28 (fun x_28 hP29 => ?_)
        clear hP28
        refine bz_iconst (pc := 94) dX12_kitchen_94 ci_1 ?_
        refine bz_isub (pc := 95) dX12_kitchen_95 ?_
        exact bz_retI (pc := 96) dX12_kitchen_96 rfl rfl hP29
      · have hP30 := hP9.2 c
        clear hP9
        refine bz_aload_n (pc := 34) dX12_kitchen_34 rfl rfl ?_
        refine bz_iconst (pc := 35) dX12_kitchen_35 ci_1 ?_
        refine bz_kIV (as := [.inl 1]) (st := []) (ci := 12) (n := 1) (mc := 0) (ms := 0) (bc := bc) (bs := bs) (yc := kX12_finding) (q := (RX12, TX12, 34)) (b := a0) (pc := 36) dX12_kitchen_36 sc_X12_finding ml_X12_73 im_X12_finding se_X12_finding rfl rfl rfl (Nat.le_of_ble_eq_true rfl) hP30 (fun x_29 h_30 hP31 => ?_)
        clear hP30
        exact bz_retI (pc := 39) dX12_kitchen_39 rfl rfl hP31
    · have hP32 := hP5.2 c
      clear hP5
      refine bz_aload_n (pc := 17) dX12_kitchen_17 rfl rfl ?_
      refine bz_iconst (pc := 18) dX12_kitchen_18 ci_0 ?_
      refine bz_kIV (as := [.inl 0]) (st := []) (ci := 12) (n := 1) (mc := 0) (ms := 0) (bc := bc) (bs := bs) (yc := kX12_finding) (q := (RX12, TX12, 34)) (b := a0) (pc := 19) dX12_kitchen_19 sc_X12_finding ml_X12_73 im_X12_finding se_X12_finding rfl rfl rfl (Nat.le_of_ble_eq_true rfl) hP32 (fun x_31 h_32 hP33 => ?_)
      clear hP32
      exact bz_retI (pc := 22) dX12_kitchen_22 rfl rfl hP33
theorem m_X12_kitchen {G : bz_G} {l : Launch} {d mc ms : Nat} {F : Option bz_V → bz_H → Prop} (a0 : Nat) (x1 : Int32) (x2 : Int32) (h : bz_H) (hP : w_X12_kitchen_0 G l d F a0 x1 x2 h) : bz_Call G l (d + 1) kX12_kitchen [.inr (some a0), .inl x1, .inl x2] h mc ms F :=
  bz_body (by decide) (Nat.le_of_ble_eq_true rfl) (fun κ hl => g_X12_kitchen_0 hl a0 x1 x2 h hP)
def w_X12_lack_0 (G : bz_G) (l : Launch) (d : Nat) (F : Option bz_V → bz_H → Prop) (a0 : Nat) (x1 : Int32) (x2 : Int32) (h : bz_H) : Prop := bz_rc h a0 12 (bz_cI G l d kX12_ofOrder [.inr (some a0), .inl x1, .inl 4] h 0 0 (fun x_1 h_2 => bz_rc h_2 a0 12 (bz_cI G l d kX12_lateOf [.inr (some a0), .inl x1] h_2 0 0 (fun x_3 h_4 => (¬ x2 = 0 → (¬ x2 = 1 → bz_rc h_4 a0 12 (bz_cI G l d kX12_ofOrder [.inr (some a0), .inl x1, .inl 7] h_4 0 0 (fun x_5 h_6 => bz_rc h_6 a0 12 (bz_cI G l d kX12_ready [.inr (some a0), .inl x1] h_6 0 0 (fun x_7 h_8 => F (some (.inl ((x_5 - x_7) / 4))) h_8))))) ∧ (x2 = 1 → F (some (.inl (if ((x_3 / 5) - (x_1 / 5)) ≤ 0 then 0 else (x_3 / 5) - (x_1 / 5)))) h_4)) ∧ (x2 = 0 → F (some (.inl (x_1 / 5))) h_4)))))
set_option maxRecDepth 20000 in
set_option maxHeartbeats 4000000 in
theorem g_X12_lack_0 {G : bz_G} {κ : bz_K} {l : Launch} {d : Nat} {F : Option bz_V → bz_H → Prop} {bc bs : Nat} (hl : κ.2.1 = l) (a0 : Nat) (x1 : Int32) (x2 : Int32) (h : bz_H) (hP0 : w_X12_lack_0 G l d F a0 x1 x2 h) : bz_J G κ kX12_lack (d + 1) F bc bs 0 [some (.inr (some a0)), some (.inl x1), some (.inl x2), none, none] [] h := by
  subst hl
  unfold w_X12_lack_0 at hP0
  refine bz_aload_n (pc := 0) dX12_lack_0 rfl rfl ?_
  refine bz_iload_n (pc := 1) dX12_lack_1 rfl rfl ?_
  refine bz_iconst (pc := 2) dX12_lack_2 ci_4 ?_
  refine bz_kIV (as := [.inl x1, .inl 4]) (st := []) (ci := 12) (n := 2) (mc := 0) (ms := 0) (bc := bc) (bs := bs) (yc := kX12_ofOrder) (q := (RX12, TX12, 34)) (b := a0) (pc := 3) dX12_lack_3 sc_X12_ofOrder ml_X12_99 im_X12_ofOrder se_X12_ofOrder rfl rfl rfl (Nat.le_of_ble_eq_true rfl) hP0 (fun x_1 h_2 hP1 => ?_)
  clear hP0
  refine bz_iconst (pc := 6) dX12_lack_6 ci_5 ?_
  refine bz_idiv (pc := 7) dX12_lack_7 (by decide) ?_
  refine bz_s_istore_n (pc := 8) dX12_lack_8 rfl (Nat.le_of_ble_eq_true rfl) [some (.inr (some a0)), some (.inl x1), some (.inl x2), some (.inl (x_1 / 5)), none] rfl ?_
  refine bz_aload_n (pc := 9) dX12_lack_9 rfl rfl ?_
  refine bz_iload_n (pc := 10) dX12_lack_10 rfl rfl ?_
  refine bz_kIV (as := [.inl x1]) (st := []) (ci := 12) (n := 1) (mc := 0) (ms := 0) (bc := bc) (bs := bs) (yc := kX12_lateOf) (q := (RX12, TX12, 34)) (b := a0) (pc := 11) dX12_lack_11 sc_X12_lateOf ml_X12_105 im_X12_lateOf se_X12_lateOf rfl rfl rfl (Nat.le_of_ble_eq_true rfl) hP1 (fun x_3 h_4 hP2 => ?_)
  clear hP1
  refine bz_iconst (pc := 14) dX12_lack_14 ci_5 ?_
  refine bz_idiv (pc := 15) dX12_lack_15 (by decide) ?_
  refine bz_iload_n (pc := 16) dX12_lack_16 rfl rfl ?_
  refine bz_isub (pc := 17) dX12_lack_17 ?_
  refine bz_s_istore (pc := 18) dX12_lack_18 (Nat.le_of_ble_eq_true rfl) [some (.inr (some a0)), some (.inl x1), some (.inl x2), some (.inl (x_1 / 5)), some (.inl ((x_3 / 5) - (x_1 / 5)))] rfl ?_
  refine bz_iload_n (pc := 20) dX12_lack_20 rfl rfl ?_
  refine bz_if_ne (tgt := 28) (pc := 21) dX12_lack_21 rfl (fun c => ?_) (fun c => ?_)
  · have hP3 := hP2.1 c
    clear hP2
    refine bz_iload_n (pc := 28) dX12_lack_28 rfl rfl ?_
    refine bz_iconst (pc := 29) dX12_lack_29 ci_1 ?_
    refine bz_icmp_ne (tgt := 47) (pc := 30) dX12_lack_30 rfl (fun c => ?_) (fun c => ?_)
    · have hP4 := hP3.1 c
      clear hP3
      refine bz_aload_n (pc := 47) dX12_lack_47 rfl rfl ?_
      refine bz_iload_n (pc := 48) dX12_lack_48 rfl rfl ?_
      refine bz_bipush (pc := 49) dX12_lack_49 cb_7 ?_
      refine bz_kIV (as := [.inl x1, .inl 7]) (st := []) (ci := 12) (n := 2) (mc := 0) (ms := 0) (bc := bc) (bs := bs) (yc := kX12_ofOrder) (q := (RX12, TX12, 34)) (b := a0) (pc := 51) dX12_lack_51 sc_X12_ofOrder ml_X12_99 im_X12_ofOrder se_X12_ofOrder rfl rfl rfl (Nat.le_of_ble_eq_true rfl) hP4 (fun x_5 h_6 hP5 => ?_)
      clear hP4
      refine bz_aload_n (pc := 54) dX12_lack_54 rfl rfl ?_
      refine bz_iload_n (pc := 55) dX12_lack_55 rfl rfl ?_
      refine bz_kIV (as := [.inl x1]) (st := [.inl x_5]) (ci := 12) (n := 1) (mc := 0) (ms := 0) (bc := bc) (bs := bs) (yc := kX12_ready) (q := (RX12, TX12, 34)) (b := a0) (pc := 56) dX12_lack_56 sc_X12_ready ml_X12_108 im_X12_ready se_X12_ready rfl rfl rfl (Nat.le_of_ble_eq_true rfl) hP5 (fun x_7 h_8 hP6 => ?_)
      clear hP5
      refine bz_isub (pc := 59) dX12_lack_59 ?_
      refine bz_iconst (pc := 60) dX12_lack_60 ci_4 ?_
      refine bz_idiv (pc := 61) dX12_lack_61 (by decide) ?_
      exact bz_retI (pc := 62) dX12_lack_62 rfl rfl hP6
    · have hP7 := hP3.2 c
      clear hP3
      refine bz_iload (pc := 33) dX12_lack_33 rfl ?_
      have hJ : bz_J G κ kX12_lack (d + 1) F bc bs 62 [some (.inr (some a0)), some (.inl x1), some (.inl x2), some (.inl (x_1 / 5)), some (.inl ((x_3 / 5) - (x_1 / 5)))] [.inl (if ((x_3 / 5) - (x_1 / 5)) ≤ 0 then 0 else (x_3 / 5) - (x_1 / 5))] h_4 := by
        exact bz_retI (pc := 62) dX12_lack_62 rfl rfl hP7
      refine bz_if_le (tgt := 43) (pc := 35) dX12_lack_35 rfl (fun c => ?_) (fun c => ?_)
      · have e9 : ((if ((x_3 / 5) - (x_1 / 5)) ≤ 0 then 0 else (x_3 / 5) - (x_1 / 5)) : Int32) = (0) := if_pos c
        rw [e9] at hJ
        refine bz_iconst (pc := 43) dX12_lack_43 ci_0 ?_
        refine bz_goto (tgt := 62) (pc := 44) dX12_lack_44 rfl ?_
        exact hJ
      · have e9 : ((if ((x_3 / 5) - (x_1 / 5)) ≤ 0 then 0 else (x_3 / 5) - (x_1 / 5)) : Int32) = ((x_3 / 5) - (x_1 / 5)) := if_neg c
        rw [e9] at hJ
        refine bz_iload (pc := 38) dX12_lack_38 rfl ?_
        refine bz_goto (tgt := 62) (pc := 40) dX12_lack_40 rfl ?_
        exact hJ
  · have hP8 := hP2.2 c
    clear hP2
    refine bz_iload_n (pc := 24) dX12_lack_24 rfl rfl ?_
    refine bz_goto (tgt := 62) (pc := 25) dX12_lack_25 rfl ?_
    exact bz_retI (pc := 62) dX12_lack_62 rfl rfl hP8
theorem m_X12_lack {G : bz_G} {l : Launch} {d mc ms : Nat} {F : Option bz_V → bz_H → Prop} (a0 : Nat) (x1 : Int32) (x2 : Int32) (h : bz_H) (hP : w_X12_lack_0 G l d F a0 x1 x2 h) : bz_Call G l (d + 1) kX12_lack [.inr (some a0), .inl x1, .inl x2] h mc ms F :=
  bz_body (by decide) (Nat.le_of_ble_eq_true rfl) (fun κ hl => g_X12_lack_0 hl a0 x1 x2 h hP)
def w_X12_lacks_0 (G : bz_G) (l : Launch) (d : Nat) (F : Option bz_V → bz_H → Prop) (a0 : Nat) (x1 : Int32) (x2 : Int32) (h : bz_H) : Prop := bz_rc h a0 12 (bz_cI G l d kX12_isOrder [.inr (some a0), .inl x1] h 0 0 (fun x_1 h_2 => (x_1 = 0 → bz_rc h_2 a0 12 (bz_cI G l d kX12_finding [.inr (some a0), .inl 0] h_2 0 0 (fun x_3 h_4 => F (some (.inl x_3)) h_4))) ∧ (¬ (x_1 = 0) → bz_cI G l d kX12_in [.inl x2, .inl 0, .inl 2] h_2 0 0 (fun x_5 h_6 => (¬ x_5 = 0 → bz_rc h_6 a0 12 (bz_cI G l d kX12_isGiven [.inr (some a0), .inl x1] h_6 0 0 (fun x_7 h_8 => (x_7 = 0 → bz_rc h_8 a0 12 (bz_cI G l d kX12_finding [.inr (some a0), .inl 3] h_8 0 0 (fun x_9 h_10 => F (some (.inl x_9)) h_10))) ∧ (¬ (x_7 = 0) → bz_rc h_8 a0 12 (bz_cI G l d kX12_lack [.inr (some a0), .inl x1, .inl x2] h_8 0 0 (fun x_11 h_12 => F (some (.inl x_11)) h_12)))))) ∧ (x_5 = 0 → bz_rc h_6 a0 12 (bz_cI G l d kX12_finding [.inr (some a0), .inl 0] h_6 0 0 (fun x_13 h_14 => F (some (.inl x_13)) h_14)))))))
set_option maxRecDepth 20000 in
set_option maxHeartbeats 4000000 in
theorem g_X12_lacks_0 {G : bz_G} {κ : bz_K} {l : Launch} {d : Nat} {F : Option bz_V → bz_H → Prop} {bc bs : Nat} (hl : κ.2.1 = l) (a0 : Nat) (x1 : Int32) (x2 : Int32) (h : bz_H) (hP0 : w_X12_lacks_0 G l d F a0 x1 x2 h) : bz_J G κ kX12_lacks (d + 1) F bc bs 0 [some (.inr (some a0)), some (.inl x1), some (.inl x2)] [] h := by
  subst hl
  unfold w_X12_lacks_0 at hP0
  refine bz_aload_n (pc := 0) dX12_lacks_0 rfl rfl ?_
  refine bz_iload_n (pc := 1) dX12_lacks_1 rfl rfl ?_
  refine bz_kIV (as := [.inl x1]) (st := []) (ci := 12) (n := 1) (mc := 0) (ms := 0) (bc := bc) (bs := bs) (yc := kX12_isOrder) (q := (RX12, TX12, 34)) (b := a0) (pc := 2) dX12_lacks_2 sc_X12_isOrder ml_X12_117 im_X12_isOrder se_X12_isOrder rfl rfl rfl (Nat.le_of_ble_eq_true rfl) hP0 (fun x_1 h_2 hP1 => ?_)
  clear hP0
  refine bz_if_eq (tgt := 17) (pc := 5) dX12_lacks_5 rfl (fun c => ?_) (fun c => ?_)
  · have hP2 := hP1.1 c
    clear hP1
    refine bz_aload_n (pc := 17) dX12_lacks_17 rfl rfl ?_
    refine bz_iconst (pc := 18) dX12_lacks_18 ci_0 ?_
    refine bz_kIV (as := [.inl 0]) (st := []) (ci := 12) (n := 1) (mc := 0) (ms := 0) (bc := bc) (bs := bs) (yc := kX12_finding) (q := (RX12, TX12, 34)) (b := a0) (pc := 19) dX12_lacks_19 sc_X12_finding ml_X12_73 im_X12_finding se_X12_finding rfl rfl rfl (Nat.le_of_ble_eq_true rfl) hP2 (fun x_3 h_4 hP3 => ?_)
    clear hP2
    exact bz_retI (pc := 22) dX12_lacks_22 rfl rfl hP3
  · have hP4 := hP1.2 c
    clear hP1
    refine bz_iload_n (pc := 8) dX12_lacks_8 rfl rfl ?_
    refine bz_iconst (pc := 9) dX12_lacks_9 ci_0 ?_
    refine bz_iconst (pc := 10) dX12_lacks_10 ci_2 ?_
    refine bz_kIS (as := [.inl x2, .inl 0, .inl 2]) (st := []) (n := 3) (mc := 0) (ms := 0) (bc := bc) (bs := bs) (yc := kX12_in) (pc := 11) dX12_lacks_11 sc_X12_in ml_X12_65 ss_X12_in rfl (Nat.le_of_ble_eq_true rfl) hP4 (fun x_5 h_6 hP5 => ?_)
    clear hP4
    refine bz_if_ne (tgt := 23) (pc := 14) dX12_lacks_14 rfl (fun c => ?_) (fun c => ?_)
    · have hP6 := hP5.1 c
      clear hP5
      refine bz_aload_n (pc := 23) dX12_lacks_23 rfl rfl ?_
      refine bz_iload_n (pc := 24) dX12_lacks_24 rfl rfl ?_
      refine bz_kIV (as := [.inl x1]) (st := []) (ci := 12) (n := 1) (mc := 0) (ms := 0) (bc := bc) (bs := bs) (yc := kX12_isGiven) (q := (RX12, TX12, 34)) (b := a0) (pc := 25) dX12_lacks_25 sc_X12_isGiven ml_X12_120 im_X12_isGiven se_X12_isGiven rfl rfl rfl (Nat.le_of_ble_eq_true rfl) hP6 (fun x_7 h_8 hP7 => ?_)
      clear hP6
      refine bz_if_eq (tgt := 40) (pc := 28) dX12_lacks_28 rfl (fun c => ?_) (fun c => ?_)
      · have hP8 := hP7.1 c
        clear hP7
        refine bz_aload_n (pc := 40) dX12_lacks_40 rfl rfl ?_
        refine bz_iconst (pc := 41) dX12_lacks_41 ci_3 ?_
        refine bz_kIV (as := [.inl 3]) (st := []) (ci := 12) (n := 1) (mc := 0) (ms := 0) (bc := bc) (bs := bs) (yc := kX12_finding) (q := (RX12, TX12, 34)) (b := a0) (pc := 42) dX12_lacks_42 sc_X12_finding ml_X12_73 im_X12_finding se_X12_finding rfl rfl rfl (Nat.le_of_ble_eq_true rfl) hP8 (fun x_9 h_10 hP9 => ?_)
        clear hP8
        exact bz_retI (pc := 45) dX12_lacks_45 rfl rfl hP9
      · have hP10 := hP7.2 c
        clear hP7
        refine bz_aload_n (pc := 31) dX12_lacks_31 rfl rfl ?_
        refine bz_iload_n (pc := 32) dX12_lacks_32 rfl rfl ?_
        refine bz_iload_n (pc := 33) dX12_lacks_33 rfl rfl ?_
        refine bz_kIV (as := [.inl x1, .inl x2]) (st := []) (ci := 12) (n := 2) (mc := 0) (ms := 0) (bc := bc) (bs := bs) (yc := kX12_lack) (q := (RX12, TX12, 34)) (b := a0) (pc := 34) dX12_lacks_34 sc_X12_lack ml_X12_111 im_X12_lack se_X12_lack rfl rfl rfl (Nat.le_of_ble_eq_true rfl) hP10 (fun x_11 h_12 hP11 => ?_)
        clear hP10
        refine bz_goto (tgt := 45) (pc := 37) dX12_lacks_37 rfl ?_
        exact bz_retI (pc := 45) dX12_lacks_45 rfl rfl hP11
    · have hP12 := hP5.2 c
      clear hP5
      refine bz_aload_n (pc := 17) dX12_lacks_17 rfl rfl ?_
      refine bz_iconst (pc := 18) dX12_lacks_18 ci_0 ?_
      refine bz_kIV (as := [.inl 0]) (st := []) (ci := 12) (n := 1) (mc := 0) (ms := 0) (bc := bc) (bs := bs) (yc := kX12_finding) (q := (RX12, TX12, 34)) (b := a0) (pc := 19) dX12_lacks_19 sc_X12_finding ml_X12_73 im_X12_finding se_X12_finding rfl rfl rfl (Nat.le_of_ble_eq_true rfl) hP12 (fun x_13 h_14 hP13 => ?_)
      clear hP12
      exact bz_retI (pc := 22) dX12_lacks_22 rfl rfl hP13
theorem m_X12_lacks {G : bz_G} {l : Launch} {d mc ms : Nat} {F : Option bz_V → bz_H → Prop} (a0 : Nat) (x1 : Int32) (x2 : Int32) (h : bz_H) (hP : w_X12_lacks_0 G l d F a0 x1 x2 h) : bz_Call G l (d + 1) kX12_lacks [.inr (some a0), .inl x1, .inl x2] h mc ms F :=
  bz_body (by decide) (Nat.le_of_ble_eq_true rfl) (fun κ hl => g_X12_lacks_0 hl a0 x1 x2 h hP)
def w_X12_lateBy_0 (G : bz_G) (l : Launch) (d : Nat) (F : Option bz_V → bz_H → Prop) (a0 : Nat) (x1 : Int32) (x2 : Int32) (h : bz_H) : Prop := bz_rc h a0 12 (bz_cI G l d kX12_ofOrder [.inr (some a0), .inl x1, .inl 2] h 0 0 (fun x_1 h_2 => bz_rc h_2 a0 12 (bz_cI G l d kX12_ofOrder [.inr (some a0), .inl x1, .inl 3] h_2 0 0 (fun x_3 h_4 => F (some (.inl (if ((x2 - x_1) - x_3) ≤ 0 then 0 else (x2 - x_1) - x_3))) h_4))))
set_option maxRecDepth 20000 in
set_option maxHeartbeats 4000000 in
theorem g_X12_lateBy_0 {G : bz_G} {κ : bz_K} {l : Launch} {d : Nat} {F : Option bz_V → bz_H → Prop} {bc bs : Nat} (hl : κ.2.1 = l) (a0 : Nat) (x1 : Int32) (x2 : Int32) (h : bz_H) (hP0 : w_X12_lateBy_0 G l d F a0 x1 x2 h) : bz_J G κ kX12_lateBy (d + 1) F bc bs 0 [some (.inr (some a0)), some (.inl x1), some (.inl x2), none] [] h := by
  subst hl
  unfold w_X12_lateBy_0 at hP0
  refine bz_iload_n (pc := 0) dX12_lateBy_0 rfl rfl ?_
  refine bz_aload_n (pc := 1) dX12_lateBy_1 rfl rfl ?_
  refine bz_iload_n (pc := 2) dX12_lateBy_2 rfl rfl ?_
  refine bz_iconst (pc := 3) dX12_lateBy_3 ci_2 ?_
  refine bz_kIV (as := [.inl x1, .inl 2]) (st := [.inl x2]) (ci := 12) (n := 2) (mc := 0) (ms := 0) (bc := bc) (bs := bs) (yc := kX12_ofOrder) (q := (RX12, TX12, 34)) (b := a0) (pc := 4) dX12_lateBy_4 sc_X12_ofOrder ml_X12_99 im_X12_ofOrder se_X12_ofOrder rfl rfl rfl (Nat.le_of_ble_eq_true rfl) hP0 (fun x_1 h_2 hP1 => ?_)
  clear hP0
  refine bz_isub (pc := 7) dX12_lateBy_7 ?_
  refine bz_aload_n (pc := 8) dX12_lateBy_8 rfl rfl ?_
  refine bz_iload_n (pc := 9) dX12_lateBy_9 rfl rfl ?_
  refine bz_iconst (pc := 10) dX12_lateBy_10 ci_3 ?_
  refine bz_kIV (as := [.inl x1, .inl 3]) (st := [.inl (x2 - x_1)]) (ci := 12) (n := 2) (mc := 0) (ms := 0) (bc := bc) (bs := bs) (yc := kX12_ofOrder) (q := (RX12, TX12, 34)) (b := a0) (pc := 11) dX12_lateBy_11 sc_X12_ofOrder ml_X12_99 im_X12_ofOrder se_X12_ofOrder rfl rfl rfl (Nat.le_of_ble_eq_true rfl) hP1 (fun x_3 h_4 hP2 => ?_)
  clear hP1
  refine bz_isub (pc := 14) dX12_lateBy_14 ?_
  refine bz_s_istore_n (pc := 15) dX12_lateBy_15 rfl (Nat.le_of_ble_eq_true rfl) [some (.inr (some a0)), some (.inl x1), some (.inl x2), some (.inl ((x2 - x_1) - x_3))] rfl ?_
  refine bz_iload_n (pc := 16) dX12_lateBy_16 rfl rfl ?_
  have hJ : bz_J G κ kX12_lateBy (d + 1) F bc bs 25 [some (.inr (some a0)), some (.inl x1), some (.inl x2), some (.inl ((x2 - x_1) - x_3))] [.inl (if ((x2 - x_1) - x_3) ≤ 0 then 0 else (x2 - x_1) - x_3)] h_4 := by
    exact bz_retI (pc := 25) dX12_lateBy_25 rfl rfl hP2
  refine bz_if_le (tgt := 24) (pc := 17) dX12_lateBy_17 rfl (fun c => ?_) (fun c => ?_)
  · have e9 : ((if ((x2 - x_1) - x_3) ≤ 0 then 0 else (x2 - x_1) - x_3) : Int32) = (0) := if_pos c
    rw [e9] at hJ
    refine bz_iconst (pc := 24) dX12_lateBy_24 ci_0 ?_
    exact hJ
  · have e9 : ((if ((x2 - x_1) - x_3) ≤ 0 then 0 else (x2 - x_1) - x_3) : Int32) = ((x2 - x_1) - x_3) := if_neg c
    rw [e9] at hJ
    refine bz_iload_n (pc := 20) dX12_lateBy_20 rfl rfl ?_
    refine bz_goto (tgt := 25) (pc := 21) dX12_lateBy_21 rfl ?_
    exact hJ
theorem m_X12_lateBy {G : bz_G} {l : Launch} {d mc ms : Nat} {F : Option bz_V → bz_H → Prop} (a0 : Nat) (x1 : Int32) (x2 : Int32) (h : bz_H) (hP : w_X12_lateBy_0 G l d F a0 x1 x2 h) : bz_Call G l (d + 1) kX12_lateBy [.inr (some a0), .inl x1, .inl x2] h mc ms F :=
  bz_body (by decide) (Nat.le_of_ble_eq_true rfl) (fun κ hl => g_X12_lateBy_0 hl a0 x1 x2 h hP)
def w_X12_lateOf_0 (G : bz_G) (l : Launch) (d : Nat) (F : Option bz_V → bz_H → Prop) (a0 : Nat) (x1 : Int32) (h : bz_H) : Prop := bz_rc h a0 12 (bz_cI G l d kX12_ofOrder [.inr (some a0), .inl x1, .inl 8] h 0 0 (fun x_1 h_2 => bz_rc h_2 a0 12 (bz_cI G l d kX12_lateBy [.inr (some a0), .inl x1, .inl x_1] h_2 0 0 (fun x_3 h_4 => F (some (.inl x_3)) h_4))))
set_option maxRecDepth 20000 in
set_option maxHeartbeats 4000000 in
theorem g_X12_lateOf_0 {G : bz_G} {κ : bz_K} {l : Launch} {d : Nat} {F : Option bz_V → bz_H → Prop} {bc bs : Nat} (hl : κ.2.1 = l) (a0 : Nat) (x1 : Int32) (h : bz_H) (hP0 : w_X12_lateOf_0 G l d F a0 x1 h) : bz_J G κ kX12_lateOf (d + 1) F bc bs 0 [some (.inr (some a0)), some (.inl x1)] [] h := by
  subst hl
  unfold w_X12_lateOf_0 at hP0
  refine bz_aload_n (pc := 0) dX12_lateOf_0 rfl rfl ?_
  refine bz_iload_n (pc := 1) dX12_lateOf_1 rfl rfl ?_
  refine bz_aload_n (pc := 2) dX12_lateOf_2 rfl rfl ?_
  refine bz_iload_n (pc := 3) dX12_lateOf_3 rfl rfl ?_
  refine bz_bipush (pc := 4) dX12_lateOf_4 cb_8 ?_
  refine bz_kIV (as := [.inl x1, .inl 8]) (st := [.inl x1, .inr (some a0)]) (ci := 12) (n := 2) (mc := 0) (ms := 0) (bc := bc) (bs := bs) (yc := kX12_ofOrder) (q := (RX12, TX12, 34)) (b := a0) (pc := 6) dX12_lateOf_6 sc_X12_ofOrder ml_X12_99 im_X12_ofOrder se_X12_ofOrder rfl rfl rfl (Nat.le_of_ble_eq_true rfl) hP0 (fun x_1 h_2 hP1 => ?_)
  clear hP0
  refine bz_kIV (as := [.inl x1, .inl x_1]) (st := []) (ci := 12) (n := 2) (mc := 0) (ms := 0) (bc := bc) (bs := bs) (yc := kX12_lateBy) (q := (RX12, TX12, 34)) (b := a0) (pc := 9) dX12_lateOf_9 sc_X12_lateBy ml_X12_102 im_X12_lateBy se_X12_lateBy rfl rfl rfl (Nat.le_of_ble_eq_true rfl) hP1 (fun x_3 h_4 hP2 => ?_)
  clear hP1
  exact bz_retI (pc := 12) dX12_lateOf_12 rfl rfl hP2
theorem m_X12_lateOf {G : bz_G} {l : Launch} {d mc ms : Nat} {F : Option bz_V → bz_H → Prop} (a0 : Nat) (x1 : Int32) (h : bz_H) (hP : w_X12_lateOf_0 G l d F a0 x1 h) : bz_Call G l (d + 1) kX12_lateOf [.inr (some a0), .inl x1] h mc ms F :=
  bz_body (by decide) (Nat.le_of_ble_eq_true rfl) (fun κ hl => g_X12_lateOf_0 hl a0 x1 h hP)
def w_X12_law_0 (G : bz_G) (l : Launch) (d : Nat) (F : Option bz_V → bz_H → Prop) (a0 : Nat) (x1 : Int32) (h : bz_H) : Prop := bz_cI G l d kX12_in [.inl x1, .inl 0, .inl 999] h 0 0 (fun x_1 h_2 => (x_1 = 0 → bz_rc h_2 a0 12 (bz_cI G l d kX12_finding [.inr (some a0), .inl 0] h_2 0 0 (fun x_3 h_4 => F (some (.inl x_3)) h_4))) ∧ (¬ (x_1 = 0) → bz_rc h_2 a0 12 (bz_cI G l d kX12_become [.inr (some a0), .inl 8, .inl x1] h_2 0 0 (fun x_5 h_6 => F (some (.inl x_5)) h_6))))
set_option maxRecDepth 20000 in
set_option maxHeartbeats 4000000 in
theorem g_X12_law_0 {G : bz_G} {κ : bz_K} {l : Launch} {d : Nat} {F : Option bz_V → bz_H → Prop} {bc bs : Nat} (hl : κ.2.1 = l) (a0 : Nat) (x1 : Int32) (h : bz_H) (hP0 : w_X12_law_0 G l d F a0 x1 h) : bz_J G κ kX12_law (d + 1) F bc bs 0 [some (.inr (some a0)), some (.inl x1)] [] h := by
  subst hl
  unfold w_X12_law_0 at hP0
  refine bz_iload_n (pc := 0) dX12_law_0 rfl rfl ?_
  refine bz_iconst (pc := 1) dX12_law_1 ci_0 ?_
  refine bz_sipush (pc := 2) dX12_law_2 cs_999 ?_
  refine bz_kIS (as := [.inl x1, .inl 0, .inl 999]) (st := []) (n := 3) (mc := 0) (ms := 0) (bc := bc) (bs := bs) (yc := kX12_in) (pc := 5) dX12_law_5 sc_X12_in ml_X12_65 ss_X12_in rfl (Nat.le_of_ble_eq_true rfl) hP0 (fun x_1 h_2 hP1 => ?_)
  clear hP0
  refine bz_if_eq (tgt := 21) (pc := 8) dX12_law_8 rfl (fun c => ?_) (fun c => ?_)
  · have hP2 := hP1.1 c
    clear hP1
    refine bz_aload_n (pc := 21) dX12_law_21 rfl rfl ?_
    refine bz_iconst (pc := 22) dX12_law_22 ci_0 ?_
    refine bz_kIV (as := [.inl 0]) (st := []) (ci := 12) (n := 1) (mc := 0) (ms := 0) (bc := bc) (bs := bs) (yc := kX12_finding) (q := (RX12, TX12, 34)) (b := a0) (pc := 23) dX12_law_23 sc_X12_finding ml_X12_73 im_X12_finding se_X12_finding rfl rfl rfl (Nat.le_of_ble_eq_true rfl) hP2 (fun x_3 h_4 hP3 => ?_)
    clear hP2
    exact bz_retI (pc := 26) dX12_law_26 rfl rfl hP3
  · have hP4 := hP1.2 c
    clear hP1
    refine bz_aload_n (pc := 11) dX12_law_11 rfl rfl ?_
    refine bz_bipush (pc := 12) dX12_law_12 cb_8 ?_
    refine bz_iload_n (pc := 14) dX12_law_14 rfl rfl ?_
    refine bz_kIV (as := [.inl 8, .inl x1]) (st := []) (ci := 12) (n := 2) (mc := 0) (ms := 0) (bc := bc) (bs := bs) (yc := kX12_become) (q := (RX12, TX12, 34)) (b := a0) (pc := 15) dX12_law_15 sc_X12_become ml_X12_81 im_X12_become se_X12_become rfl rfl rfl (Nat.le_of_ble_eq_true rfl) hP4 (fun x_5 h_6 hP5 => ?_)
    clear hP4
    refine bz_goto (tgt := 26) (pc := 18) dX12_law_18 rfl ?_
    exact bz_retI (pc := 26) dX12_law_26 rfl rfl hP5
theorem m_X12_law {G : bz_G} {l : Launch} {d mc ms : Nat} {F : Option bz_V → bz_H → Prop} (a0 : Nat) (x1 : Int32) (h : bz_H) (hP : w_X12_law_0 G l d F a0 x1 h) : bz_Call G l (d + 1) kX12_law [.inr (some a0), .inl x1] h mc ms F :=
  bz_body (by decide) (Nat.le_of_ble_eq_true rfl) (fun κ hl => g_X12_law_0 hl a0 x1 h hP)
def w_X12_lay_0 (G : bz_G) (l : Launch) (d : Nat) (F : Option bz_V → bz_H → Prop) (a0 : Nat) (x1 : Int32) (x2 : Int32) (x3 : Int32) (h : bz_H) : Prop := bz_rR h a0 12 0 (fun r_1 => bz_nn r_1 (fun a_2 => bz_rA h a_2 ((44 + (16 * x1)) + x2) (fun x_3 => bz_rR h a0 12 0 (fun r_4 => bz_nn r_4 (fun a_5 => bz_wA h a_5 ((44 + (16 * x1)) + x2) (if x_3 ≤ 0 then x3 else if x3 ≤ x_3 then x3 else x_3) (fun h_6 => bz_rR h_6 a0 12 0 (fun r_7 => bz_nn r_7 (fun a_8 => bz_wA h_6 a_8 ((44 + (16 * x2)) + x1) (if x_3 ≤ 0 then x3 else if x3 ≤ x_3 then x3 else x_3) (fun h_9 => bz_b 0 (bz_wI h_9 a0 12 5 0 (fun h_10 => F (some (.inl (if x_3 ≤ 0 then x3 else if x3 ≤ x_3 then x3 else x_3))) h_10)))))))))))
set_option maxRecDepth 20000 in
set_option maxHeartbeats 4000000 in
theorem g_X12_lay_0 {G : bz_G} {κ : bz_K} {l : Launch} {d : Nat} {F : Option bz_V → bz_H → Prop} {bc bs : Nat} (hl : κ.2.1 = l) (a0 : Nat) (x1 : Int32) (x2 : Int32) (x3 : Int32) (h : bz_H) (hP0 : w_X12_lay_0 G l d F a0 x1 x2 x3 h) : bz_J G κ kX12_lay (d + 1) F bc bs 0 [some (.inr (some a0)), some (.inl x1), some (.inl x2), some (.inl x3), none, none] [] h := by
  subst hl
  unfold w_X12_lay_0 at hP0
  refine bz_aload_n (pc := 0) dX12_lay_0 rfl rfl ?_
  refine bz_rw_rR (pc := 1) dX12_lay_1 fl_X12_7 hP0 (fun r_1 hP1 => ?_)
  clear hP0
  refine bz_bipush (pc := 4) dX12_lay_4 cb_44 ?_
  refine bz_bipush (pc := 6) dX12_lay_6 cb_16 ?_
  refine bz_iload_n (pc := 8) dX12_lay_8 rfl rfl ?_
  refine bz_imul (pc := 9) dX12_lay_9 ?_
  refine bz_iadd (pc := 10) dX12_lay_10 ?_
  refine bz_iload_n (pc := 11) dX12_lay_11 rfl rfl ?_
  refine bz_iadd (pc := 12) dX12_lay_12 ?_
  obtain ⟨a_2, rfl, hP2⟩ := hP1
  refine bz_rw_rA (pc := 13) dX12_lay_13 hP2 (fun x_3 hP3 => ?_)
  clear hP2
  refine bz_s_istore (pc := 14) dX12_lay_14 (Nat.le_of_ble_eq_true rfl) [some (.inr (some a0)), some (.inl x1), some (.inl x2), some (.inl x3), some (.inl x_3), none] rfl ?_
  refine bz_iload (pc := 16) dX12_lay_16 rfl ?_
  have hJ : bz_J G κ kX12_lay (d + 1) F bc bs 33 [some (.inr (some a0)), some (.inl x1), some (.inl x2), some (.inl x3), some (.inl x_3), none] [.inl (if x_3 ≤ 0 then x3 else if x3 ≤ x_3 then x3 else x_3)] h := by
    refine bz_s_istore (pc := 33) dX12_lay_33 (Nat.le_of_ble_eq_true rfl) [some (.inr (some a0)), some (.inl x1), some (.inl x2), some (.inl x3), some (.inl x_3), some (.inl (if x_3 ≤ 0 then x3 else if x3 ≤ x_3 then x3 else x_3))] rfl ?_
    refine bz_aload_n (pc := 35) dX12_lay_35 rfl rfl ?_
    refine bz_rw_rR (pc := 36) dX12_lay_36 fl_X12_7 hP3 (fun r_4 hP4 => ?_)
    clear hP3
    refine bz_bipush (pc := 39) dX12_lay_39 cb_44 ?_
    refine bz_bipush (pc := 41) dX12_lay_41 cb_16 ?_
    refine bz_iload_n (pc := 43) dX12_lay_43 rfl rfl ?_
    refine bz_imul (pc := 44) dX12_lay_44 ?_
    refine bz_iadd (pc := 45) dX12_lay_45 ?_
    refine bz_iload_n (pc := 46) dX12_lay_46 rfl rfl ?_
    refine bz_iadd (pc := 47) dX12_lay_47 ?_
    refine bz_iload (pc := 48) dX12_lay_48 rfl ?_
    obtain ⟨a_5, rfl, hP5⟩ := hP4
    refine bz_rw_wA (pc := 50) dX12_lay_50 hP5 (fun h_6 hP6 => ?_)
    clear hP5
    refine bz_aload_n (pc := 51) dX12_lay_51 rfl rfl ?_
    refine bz_rw_rR (pc := 52) dX12_lay_52 fl_X12_7 hP6 (fun r_7 hP7 => ?_)
    clear hP6
    refine bz_bipush (pc := 55) dX12_lay_55 cb_44 ?_
    refine bz_bipush (pc := 57) dX12_lay_57 cb_16 ?_
    refine bz_iload_n (pc := 59) dX12_lay_59 rfl rfl ?_
    refine bz_imul (pc := 60) dX12_lay_60 ?_
    refine bz_iadd (pc := 61) dX12_lay_61 ?_
    refine bz_iload_n (pc := 62) dX12_lay_62 rfl rfl ?_
    refine bz_iadd (pc := 63) dX12_lay_63 ?_
    refine bz_iload (pc := 64) dX12_lay_64 rfl ?_
    obtain ⟨a_8, rfl, hP8⟩ := hP7
    refine bz_rw_wA (pc := 66) dX12_lay_66 hP8 (fun h_9 hP9 => ?_)
    clear hP8
    refine bz_aload_n (pc := 67) dX12_lay_67 rfl rfl ?_
    refine bz_iconst (pc := 68) dX12_lay_68 ci_0 ?_
    refine bz_rw_wZ (pc := 69) dX12_lay_69 fl_X12_77 (fun q h9 => by cases h9; rfl) rfl hP9 (fun h_10 hP10 => ?_)
    clear hP9
    refine bz_iload (pc := 72) dX12_lay_72 rfl ?_
    exact bz_retI (pc := 74) dX12_lay_74 rfl rfl hP10
  refine bz_if_le (tgt := 32) (pc := 18) dX12_lay_18 rfl (fun c => ?_) (fun c => ?_)
  · have e9 : ((if x_3 ≤ 0 then x3 else if x3 ≤ x_3 then x3 else x_3) : Int32) = (x3) := if_pos c
    rw [e9] at hJ
    refine bz_iload_n (pc := 32) dX12_lay_32 rfl rfl ?_
    exact hJ
  · have e9 : ((if x_3 ≤ 0 then x3 else if x3 ≤ x_3 then x3 else x_3) : Int32) = (if x3 ≤ x_3 then x3 else x_3) := if_neg c
    rw [e9] at hJ
    refine bz_iload (pc := 21) dX12_lay_21 rfl ?_
    refine bz_iload_n (pc := 23) dX12_lay_23 rfl rfl ?_
    refine bz_icmp_ge (tgt := 32) (pc := 24) dX12_lay_24 rfl (fun c => ?_) (fun c => ?_)
    · have e9 : ((if x3 ≤ x_3 then x3 else x_3) : Int32) = (x3) := if_pos c
      rw [e9] at hJ
      refine bz_iload_n (pc := 32) dX12_lay_32 rfl rfl ?_
      exact hJ
    · have e9 : ((if x3 ≤ x_3 then x3 else x_3) : Int32) = (x_3) := if_neg c
      rw [e9] at hJ
      refine bz_iload (pc := 27) dX12_lay_27 rfl ?_
      refine bz_goto (tgt := 33) (pc := 29) dX12_lay_29 rfl ?_
      exact hJ
theorem m_X12_lay {G : bz_G} {l : Launch} {d mc ms : Nat} {F : Option bz_V → bz_H → Prop} (a0 : Nat) (x1 : Int32) (x2 : Int32) (x3 : Int32) (h : bz_H) (hP : w_X12_lay_0 G l d F a0 x1 x2 x3 h) : bz_Call G l (d + 1) kX12_lay [.inr (some a0), .inl x1, .inl x2, .inl x3] h mc ms F :=
  bz_body (by decide) (Nat.le_of_ble_eq_true rfl) (fun κ hl => g_X12_lay_0 hl a0 x1 x2 x3 h hP)
def w_X12_lays_0 (G : bz_G) (l : Launch) (d : Nat) (F : Option bz_V → bz_H → Prop) (a0 : Nat) (x1 : Int32) (x2 : Int32) (h : bz_H) : Prop := bz_rR h a0 12 21 (fun r_1 => bz_rI h a0 12 20 (fun x_2 => bz_nn r_1 (fun a_3 => bz_wA h a_3 (2 * x_2) x1 (fun h_4 => bz_rR h_4 a0 12 21 (fun r_5 => bz_rI h_4 a0 12 20 (fun x_6 => bz_nn r_5 (fun a_7 => bz_wA h_4 a_7 ((2 * x_6) + 1) x2 (fun h_8 => bz_rI h_8 a0 12 20 (fun x_9 => bz_wI h_8 a0 12 20 (x_9 + 1) (fun h_10 => F none h_10))))))))))
set_option maxRecDepth 20000 in
set_option maxHeartbeats 4000000 in
theorem g_X12_lays_0 {G : bz_G} {κ : bz_K} {l : Launch} {d : Nat} {F : Option bz_V → bz_H → Prop} {bc bs : Nat} (hl : κ.2.1 = l) (a0 : Nat) (x1 : Int32) (x2 : Int32) (h : bz_H) (hP0 : w_X12_lays_0 G l d F a0 x1 x2 h) : bz_J G κ kX12_lays (d + 1) F bc bs 0 [some (.inr (some a0)), some (.inl x1), some (.inl x2)] [] h := by
  subst hl
  unfold w_X12_lays_0 at hP0
  refine bz_aload_n (pc := 0) dX12_lays_0 rfl rfl ?_
  refine bz_rw_rR (pc := 1) dX12_lays_1 fl_X12_31 hP0 (fun r_1 hP1 => ?_)
  clear hP0
  refine bz_iconst (pc := 4) dX12_lays_4 ci_2 ?_
  refine bz_aload_n (pc := 5) dX12_lays_5 rfl rfl ?_
  refine bz_rw_rI (pc := 6) dX12_lays_6 fl_X12_259 hP1 (fun x_2 hP2 => ?_)
  clear hP1
  refine bz_imul (pc := 9) dX12_lays_9 ?_
  refine bz_iload_n (pc := 10) dX12_lays_10 rfl rfl ?_
  obtain ⟨a_3, rfl, hP3⟩ := hP2
  refine bz_rw_wA (pc := 11) dX12_lays_11 hP3 (fun h_4 hP4 => ?_)
  clear hP3
  refine bz_aload_n (pc := 12) dX12_lays_12 rfl rfl ?_
  refine bz_rw_rR (pc := 13) dX12_lays_13 fl_X12_31 hP4 (fun r_5 hP5 => ?_)
  clear hP4
  refine bz_iconst (pc := 16) dX12_lays_16 ci_2 ?_
  refine bz_aload_n (pc := 17) dX12_lays_17 rfl rfl ?_
  refine bz_rw_rI (pc := 18) dX12_lays_18 fl_X12_259 hP5 (fun x_6 hP6 => ?_)
  clear hP5
  refine bz_imul (pc := 21) dX12_lays_21 ?_
  refine bz_iconst (pc := 22) dX12_lays_22 ci_1 ?_
  refine bz_iadd (pc := 23) dX12_lays_23 ?_
  refine bz_iload_n (pc := 24) dX12_lays_24 rfl rfl ?_
  obtain ⟨a_7, rfl, hP7⟩ := hP6
  refine bz_rw_wA (pc := 25) dX12_lays_25 hP7 (fun h_8 hP8 => ?_)
  clear hP7
  refine bz_aload_n (pc := 26) dX12_lays_26 rfl rfl ?_
  refine bz_dup (pc := 27) dX12_lays_27 ?_
  refine bz_rw_rI (pc := 28) dX12_lays_28 fl_X12_259 hP8 (fun x_9 hP9 => ?_)
  clear hP8
  refine bz_iconst (pc := 31) dX12_lays_31 ci_1 ?_
  refine bz_iadd (pc := 32) dX12_lays_32 ?_
  refine bz_rw_wI (pc := 33) dX12_lays_33 fl_X12_259 (fun q h9 => by cases h9; rfl) rfl hP9 (fun h_10 hP10 => ?_)
  clear hP9
  exact bz_retV (pc := 36) dX12_lays_36 rfl hP10
theorem m_X12_lays {G : bz_G} {l : Launch} {d mc ms : Nat} {F : Option bz_V → bz_H → Prop} (a0 : Nat) (x1 : Int32) (x2 : Int32) (h : bz_H) (hP : w_X12_lays_0 G l d F a0 x1 x2 h) : bz_Call G l (d + 1) kX12_lays [.inr (some a0), .inl x1, .inl x2] h mc ms F :=
  bz_body (by decide) (Nat.le_of_ble_eq_true rfl) (fun κ hl => g_X12_lays_0 hl a0 x1 x2 h hP)
def w_X12_least_0 (G : bz_G) (l : Launch) (d : Nat) (F : Option bz_V → bz_H → Prop) (a0 : Nat) (x1 : Int32) (x2 : Int32) (h : bz_H) : Prop := bz_rc h a0 12 (bz_cI G l d kX12_isRider [.inr (some a0), .inl x1] h 0 0 (fun x_1 h_2 => (x_1 = 0 → bz_rc h_2 a0 12 (bz_cI G l d kX12_finding [.inr (some a0), .inl 0] h_2 0 0 (fun x_3 h_4 => F (some (.inl x_3)) h_4))) ∧ (¬ (x_1 = 0) → bz_cI G l d kX12_in [.inl x2, .inl 0, .inl 1] h_2 0 0 (fun x_5 h_6 => (¬ x_5 = 0 → bz_rc h_6 a0 12 (bz_cI G l d kX12_counting [.inr (some a0), .inl x1] h_6 0 0 (fun x_7 h_8 => bz_rR h_8 a0 12 0 (fun r_9 => bz_nn r_9 (fun a_10 => bz_rA h_8 a_10 8 (fun x_11 => bz_rc h_8 a0 12 (bz_cI G l d kX12_payOfAll [.inr (some a0), .inl x1] h_8 0 0 (fun x_12 h_13 => (¬ x2 = 0 → bz_cI G l d kX12_orZero [.inl ((((x_11 * x_7) + 59) / 60) - x_12)] h_13 0 0 (fun x_14 h_15 => F (some (.inl x_14)) h_15)) ∧ (x2 = 0 → F (some (.inl x_7)) h_13))))))))) ∧ (x_5 = 0 → bz_rc h_6 a0 12 (bz_cI G l d kX12_finding [.inr (some a0), .inl 0] h_6 0 0 (fun x_16 h_17 => F (some (.inl x_16)) h_17)))))))
set_option maxRecDepth 20000 in
set_option maxHeartbeats 4000000 in
theorem g_X12_least_0 {G : bz_G} {κ : bz_K} {l : Launch} {d : Nat} {F : Option bz_V → bz_H → Prop} {bc bs : Nat} (hl : κ.2.1 = l) (a0 : Nat) (x1 : Int32) (x2 : Int32) (h : bz_H) (hP0 : w_X12_least_0 G l d F a0 x1 x2 h) : bz_J G κ kX12_least (d + 1) F bc bs 0 [some (.inr (some a0)), some (.inl x1), some (.inl x2), none, none] [] h := by
  subst hl
  unfold w_X12_least_0 at hP0
  refine bz_aload_n (pc := 0) dX12_least_0 rfl rfl ?_
  refine bz_iload_n (pc := 1) dX12_least_1 rfl rfl ?_
  refine bz_kIV (as := [.inl x1]) (st := []) (ci := 12) (n := 1) (mc := 0) (ms := 0) (bc := bc) (bs := bs) (yc := kX12_isRider) (q := (RX12, TX12, 34)) (b := a0) (pc := 2) dX12_least_2 sc_X12_isRider ml_X12_139 im_X12_isRider se_X12_isRider rfl rfl rfl (Nat.le_of_ble_eq_true rfl) hP0 (fun x_1 h_2 hP1 => ?_)
  clear hP0
  refine bz_if_eq (tgt := 17) (pc := 5) dX12_least_5 rfl (fun c => ?_) (fun c => ?_)
  · have hP2 := hP1.1 c
    clear hP1
    refine bz_aload_n (pc := 17) dX12_least_17 rfl rfl ?_
    refine bz_iconst (pc := 18) dX12_least_18 ci_0 ?_
    refine bz_kIV (as := [.inl 0]) (st := []) (ci := 12) (n := 1) (mc := 0) (ms := 0) (bc := bc) (bs := bs) (yc := kX12_finding) (q := (RX12, TX12, 34)) (b := a0) (pc := 19) dX12_least_19 sc_X12_finding ml_X12_73 im_X12_finding se_X12_finding rfl rfl rfl (Nat.le_of_ble_eq_true rfl) hP2 (fun x_3 h_4 hP3 => ?_)
    clear hP2
    exact bz_retI (pc := 22) dX12_least_22 rfl rfl hP3
  · have hP4 := hP1.2 c
    clear hP1
    refine bz_iload_n (pc := 8) dX12_least_8 rfl rfl ?_
    refine bz_iconst (pc := 9) dX12_least_9 ci_0 ?_
    refine bz_iconst (pc := 10) dX12_least_10 ci_1 ?_
    refine bz_kIS (as := [.inl x2, .inl 0, .inl 1]) (st := []) (n := 3) (mc := 0) (ms := 0) (bc := bc) (bs := bs) (yc := kX12_in) (pc := 11) dX12_least_11 sc_X12_in ml_X12_65 ss_X12_in rfl (Nat.le_of_ble_eq_true rfl) hP4 (fun x_5 h_6 hP5 => ?_)
    clear hP4
    refine bz_if_ne (tgt := 23) (pc := 14) dX12_least_14 rfl (fun c => ?_) (fun c => ?_)
    · have hP6 := hP5.1 c
      clear hP5
      refine bz_aload_n (pc := 23) dX12_least_23 rfl rfl ?_
      refine bz_iload_n (pc := 24) dX12_least_24 rfl rfl ?_
      refine bz_kIV (as := [.inl x1]) (st := []) (ci := 12) (n := 1) (mc := 0) (ms := 0) (bc := bc) (bs := bs) (yc := kX12_counting) (q := (RX12, TX12, 34)) (b := a0) (pc := 25) dX12_least_25 sc_X12_counting ml_X12_311 im_X12_counting se_X12_counting rfl rfl rfl (Nat.le_of_ble_eq_true rfl) hP6 (fun x_7 h_8 hP7 => ?_)
      clear hP6
      refine bz_s_istore_n (pc := 28) dX12_least_28 rfl (Nat.le_of_ble_eq_true rfl) [some (.inr (some a0)), some (.inl x1), some (.inl x2), some (.inl x_7), none] rfl ?_
      refine bz_aload_n (pc := 29) dX12_least_29 rfl rfl ?_
      refine bz_rw_rR (pc := 30) dX12_least_30 fl_X12_7 hP7 (fun r_9 hP8 => ?_)
      clear hP7
      refine bz_bipush (pc := 33) dX12_least_33 cb_8 ?_
      obtain ⟨a_10, rfl, hP9⟩ := hP8
      refine bz_rw_rA (pc := 35) dX12_least_35 hP9 (fun x_11 hP10 => ?_)
      clear hP9
      refine bz_iload_n (pc := 36) dX12_least_36 rfl rfl ?_
      refine bz_imul (pc := 37) dX12_least_37 ?_
      refine bz_bipush (pc := 38) dX12_least_38 cb_59 ?_
      refine bz_iadd (pc := 40) dX12_least_40 ?_
      refine bz_bipush (pc := 41) dX12_least_41 cb_60 ?_
      refine bz_idiv (pc := 43) dX12_least_43 (by decide) ?_
      refine bz_aload_n (pc := 44) dX12_least_44 rfl rfl ?_
      refine bz_iload_n (pc := 45) dX12_least_45 rfl rfl ?_
      refine bz_kIV (as := [.inl x1]) (st := [.inl (((x_11 * x_7) + 59) / 60)]) (ci := 12) (n := 1) (mc := 0) (ms := 0) (bc := bc) (bs := bs) (yc := kX12_payOfAll) (q := (RX12, TX12, 34)) (b := a0) (pc := 46) dX12_least_46 sc_X12_payOfAll ml_X12_145 im_X12_payOfAll se_X12_payOfAll rfl rfl rfl (Nat.le_of_ble_eq_true rfl) hP10 (fun x_12 h_13 hP11 => ?_)
      clear hP10
      refine bz_isub (pc := 49) dX12_least_49 ?_
      refine bz_s_istore (pc := 50) dX12_least_50 (Nat.le_of_ble_eq_true rfl) [some (.inr (some a0)), some (.inl x1), some (.inl x2), some (.inl x_7), some (.inl ((((x_11 * x_7) + 59) / 60) - x_12))] rfl ?_
      refine bz_iload_n (pc := 52) dX12_least_52 rfl rfl ?_
      refine bz_if_ne (tgt := 60) (pc := 53) dX12_least_53 rfl (fun c => ?_) (fun c => ?_)
      · have hP12 := hP11.1 c
        clear hP11
        refine bz_iload (pc := 60) dX12_least_60 rfl ?_
        refine bz_kIS (as := [.inl ((((x_11 * x_7) + 59) / 60) - x_12)]) (st := []) (n := 1) (mc := 0) (ms := 0) (bc := bc) (bs := bs) (yc := kX12_orZero) (pc := 62) dX12_least_62 sc_X12_orZero ml_X12_293 ss_X12_orZero rfl (Nat.le_of_ble_eq_true rfl) hP12 (fun x_14 h_15 hP13 => ?_)
        clear hP12
        exact bz_retI (pc := 65) dX12_least_65 rfl rfl hP13
      · have hP14 := hP11.2 c
        clear hP11
        refine bz_iload_n (pc := 56) dX12_least_56 rfl rfl ?_
        refine bz_goto (tgt := 65) (pc := 57) dX12_least_57 rfl ?_
        exact bz_retI (pc := 65) dX12_least_65 rfl rfl hP14
    · have hP15 := hP5.2 c
      clear hP5
      refine bz_aload_n (pc := 17) dX12_least_17 rfl rfl ?_
      refine bz_iconst (pc := 18) dX12_least_18 ci_0 ?_
      refine bz_kIV (as := [.inl 0]) (st := []) (ci := 12) (n := 1) (mc := 0) (ms := 0) (bc := bc) (bs := bs) (yc := kX12_finding) (q := (RX12, TX12, 34)) (b := a0) (pc := 19) dX12_least_19 sc_X12_finding ml_X12_73 im_X12_finding se_X12_finding rfl rfl rfl (Nat.le_of_ble_eq_true rfl) hP15 (fun x_16 h_17 hP16 => ?_)
      clear hP15
      exact bz_retI (pc := 22) dX12_least_22 rfl rfl hP16
theorem m_X12_least {G : bz_G} {l : Launch} {d mc ms : Nat} {F : Option bz_V → bz_H → Prop} (a0 : Nat) (x1 : Int32) (x2 : Int32) (h : bz_H) (hP : w_X12_least_0 G l d F a0 x1 x2 h) : bz_Call G l (d + 1) kX12_least [.inr (some a0), .inl x1, .inl x2] h mc ms F :=
  bz_body (by decide) (Nat.le_of_ble_eq_true rfl) (fun κ hl => g_X12_least_0 hl a0 x1 x2 h hP)
def w_X12_lessOf50_0 (G : bz_G) (l : Launch) (d : Nat) (F : Option bz_V → bz_H → Prop) (x0 : Int32) (h : bz_H) : Prop := F (some (.inl (if 50 ≤ x0 then 0 else 50 - x0))) h
set_option maxRecDepth 20000 in
set_option maxHeartbeats 4000000 in
theorem g_X12_lessOf50_0 {G : bz_G} {κ : bz_K} {l : Launch} {d : Nat} {F : Option bz_V → bz_H → Prop} {bc bs : Nat} (hl : κ.2.1 = l) (x0 : Int32) (h : bz_H) (hP0 : w_X12_lessOf50_0 G l d F x0 h) : bz_J G κ kX12_lessOf50 (d + 1) F bc bs 0 [some (.inl x0)] [] h := by
  subst hl
  unfold w_X12_lessOf50_0 at hP0
  refine bz_iload_n (pc := 0) dX12_lessOf50_0 rfl rfl ?_
  refine bz_bipush (pc := 1) dX12_lessOf50_1 cb_50 ?_
  have hJ : bz_J G κ kX12_lessOf50 (d + 1) F bc bs 14 [some (.inl x0)] [.inl (if 50 ≤ x0 then 0 else 50 - x0)] h := by
    exact bz_retI (pc := 14) dX12_lessOf50_14 rfl rfl hP0
  refine bz_icmp_ge (tgt := 13) (pc := 3) dX12_lessOf50_3 rfl (fun c => ?_) (fun c => ?_)
  · have e9 : ((if 50 ≤ x0 then 0 else 50 - x0) : Int32) = (0) := if_pos c
    rw [e9] at hJ
    refine bz_iconst (pc := 13) dX12_lessOf50_13 ci_0 ?_
    exact hJ
  · have e9 : ((if 50 ≤ x0 then 0 else 50 - x0) : Int32) = (50 - x0) := if_neg c
    rw [e9] at hJ
    refine bz_bipush (pc := 6) dX12_lessOf50_6 cb_50 ?_
    refine bz_iload_n (pc := 8) dX12_lessOf50_8 rfl rfl ?_
    refine bz_isub (pc := 9) dX12_lessOf50_9 ?_
    refine bz_goto (tgt := 14) (pc := 10) dX12_lessOf50_10 rfl ?_
    exact hJ
theorem m_X12_lessOf50 {G : bz_G} {l : Launch} {d mc ms : Nat} {F : Option bz_V → bz_H → Prop} (x0 : Int32) (h : bz_H) (hP : w_X12_lessOf50_0 G l d F x0 h) : bz_Call G l (d + 1) kX12_lessOf50 [.inl x0] h mc ms F :=
  bz_body (by decide) (Nat.le_of_ble_eq_true rfl) (fun κ hl => g_X12_lessOf50_0 hl x0 h hP)
def w_X12_minutesFor_0 (G : bz_G) (l : Launch) (d : Nat) (F : Option bz_V → bz_H → Prop) (x0 : Int32) (x1 : Int32) (h : bz_H) : Prop := (0 ≤ x1 → (x0 = 1 → F (some (.inl (((3 * x1) + 3) / 4))) h) ∧ (¬ x0 = 1 → (x0 = 2 → F (some (.inl (((x1 + 1) / 2) + 3))) h) ∧ (¬ x0 = 2 → (x0 = 3 → F (some (.inl (2 * x1))) h) ∧ (¬ x0 = 3 → (x0 = 4 → F (some (.inl (if x1 = 0 then 0 else if (((3 * x1) + 3) / 4) ≤ 1 then 1 else (((3 * x1) + 3) / 4) - 1))) h) ∧ (¬ x0 = 4 → (x0 = 5 → F (some (.inl x1)) h) ∧ (¬ x0 = 5 → (x0 = 6 → F (some (.inl (if x1 = 0 then 0 else (2 * x1) + 2))) h) ∧ (¬ x0 = 6 → F (some (.inl x1)) h))))))) ∧ (¬ (0 ≤ x1) → F (some (.inl (-1))) h)
set_option maxRecDepth 20000 in
set_option maxHeartbeats 4000000 in
theorem g_X12_minutesFor_0 {G : bz_G} {κ : bz_K} {l : Launch} {d : Nat} {F : Option bz_V → bz_H → Prop} {bc bs : Nat} (hl : κ.2.1 = l) (x0 : Int32) (x1 : Int32) (h : bz_H) (hP0 : w_X12_minutesFor_0 G l d F x0 x1 h) : bz_J G κ kX12_minutesFor (d + 1) F bc bs 0 [some (.inl x0), some (.inl x1), none] [] h := by
  subst hl
  unfold w_X12_minutesFor_0 at hP0
  refine bz_iload_n (pc := 0) dX12_minutesFor_0 rfl rfl ?_
  refine bz_if_ge (tgt := 6) (pc := 1) dX12_minutesFor_1 rfl (fun c => ?_) (fun c => ?_)
  · have hP1 := hP0.1 c
    clear hP0
    refine bz_iconst (pc := 6) dX12_minutesFor_6 ci_3 ?_
    refine bz_iload_n (pc := 7) dX12_minutesFor_7 rfl rfl ?_
    refine bz_imul (pc := 8) dX12_minutesFor_8 ?_
    refine bz_iconst (pc := 9) dX12_minutesFor_9 ci_3 ?_
    refine bz_iadd (pc := 10) dX12_minutesFor_10 ?_
    refine bz_iconst (pc := 11) dX12_minutesFor_11 ci_4 ?_
    refine bz_idiv (pc := 12) dX12_minutesFor_12 (by decide) ?_
    refine bz_s_istore_n (pc := 13) dX12_minutesFor_13 rfl (Nat.le_of_ble_eq_true rfl) [some (.inl x0), some (.inl x1), some (.inl (((3 * x1) + 3) / 4))] rfl ?_
    refine bz_iload_n (pc := 14) dX12_minutesFor_14 rfl rfl ?_
    refine bz_table (pc := 15) [(1, 37), (2, 39), (3, 47), (4, 51), (5, 86), (6, 72)] dX12_minutesFor_15 (by decide) (by decide) (by decide) (by decide) (by decide) ?_
    refine ⟨fun c => ?_, fun c => ?_⟩
    · have hP2 := hP1.1 c
      clear hP1
      show bz_J G κ kX12_minutesFor (d + 1) F bc bs 52 [some (.inl x0), some (.inl x1), some (.inl (((3 * x1) + 3) / 4))] [] h
      refine bz_iload_n (pc := 52) dX12_minutesFor_52 rfl rfl ?_
      exact bz_retI (pc := 53) dX12_minutesFor_53 rfl rfl hP2
    · have hP3 := hP1.2 c
      clear hP1
      refine ⟨fun c => ?_, fun c => ?_⟩
      · have hP4 := hP3.1 c
        clear hP3
        show bz_J G κ kX12_minutesFor (d + 1) F bc bs 54 [some (.inl x0), some (.inl x1), some (.inl (((3 * x1) + 3) / 4))] [] h
        refine bz_iload_n (pc := 54) dX12_minutesFor_54 rfl rfl ?_
        refine bz_iconst (pc := 55) dX12_minutesFor_55 ci_1 ?_
        refine bz_iadd (pc := 56) dX12_minutesFor_56 ?_
        refine bz_iconst (pc := 57) dX12_minutesFor_57 ci_2 ?_
        refine bz_idiv (pc := 58) dX12_minutesFor_58 (by decide) ?_
        refine bz_iconst (pc := 59) dX12_minutesFor_59 ci_3 ?_
        refine bz_iadd (pc := 60) dX12_minutesFor_60 ?_
        exact bz_retI (pc := 61) dX12_minutesFor_61 rfl rfl hP4
      · have hP5 := hP3.2 c
        clear hP3
        refine ⟨fun c => ?_, fun c => ?_⟩
        · have hP6 := hP5.1 c
          clear hP5
          show bz_J G κ kX12_minutesFor (d + 1) F bc bs 62 [some (.inl x0), some (.inl x1), some (.inl (((3 * x1) + 3) / 4))] [] h
          refine bz_iconst (pc := 62) dX12_minutesFor_62 ci_2 ?_
          refine bz_iload_n (pc := 63) dX12_minutesFor_63 rfl rfl ?_
          refine bz_imul (pc := 64) dX12_minutesFor_64 ?_
          exact bz_retI (pc := 65) dX12_minutesFor_65 rfl rfl hP6
        · have hP7 := hP5.2 c
          clear hP5
          refine ⟨fun c => ?_, fun c => ?_⟩
          · have hP8 := hP7.1 c
            clear hP7
            show bz_J G κ kX12_minutesFor (d + 1) F bc bs 66 [some (.inl x0), some (.inl x1), some (.inl (((3 * x1) + 3) / 4))] [] h
            refine bz_iload_n (pc := 66) dX12_minutesFor_66 rfl rfl ?_
            have hJ : bz_J G κ kX12_minutesFor (d + 1) F bc bs 86 [some (.inl x0), some (.inl x1), some (.inl (((3 * x1) + 3) / 4))] [.inl (if x1 = 0 then 0 else if (((3 * x1) + 3) / 4) ≤ 1 then 1 else (((3 * x1) + 3) / 4) - 1)] h := by
              exact bz_retI (pc := 86) dX12_minutesFor_86 rfl rfl hP8
            refine bz_if_ne (tgt := 74) (pc := 67) dX12_minutesFor_67 rfl (fun c => ?_) (fun c => ?_)
            · have e9 : ((if x1 = 0 then 0 else if (((3 * x1) + 3) / 4) ≤ 1 then 1 else (((3 * x1) + 3) / 4) - 1) : Int32) = (if (((3 * x1) + 3) / 4) ≤ 1 then 1 else (((3 * x1) + 3) / 4) - 1) := if_neg c
              rw [e9] at hJ
              refine bz_iload_n (pc := 74) dX12_minutesFor_74 rfl rfl ?_
              refine bz_iconst (pc := 75) dX12_minutesFor_75 ci_1 ?_
              refine bz_icmp_le (tgt := 85) (pc := 76) dX12_minutesFor_76 rfl (fun c => ?_) (fun c => ?_)
              · have e9 : ((if (((3 * x1) + 3) / 4) ≤ 1 then 1 else (((3 * x1) + 3) / 4) - 1) : Int32) = (1) := if_pos c
                rw [e9] at hJ
                refine bz_iconst (pc := 85) dX12_minutesFor_85 ci_1 ?_
                exact hJ
              · have e9 : ((if (((3 * x1) + 3) / 4) ≤ 1 then 1 else (((3 * x1) + 3) / 4) - 1) : Int32) = ((((3 * x1) + 3) / 4) - 1) := if_neg c
                rw [e9] at hJ
                refine bz_iload_n (pc := 79) dX12_minutesFor_79 rfl rfl ?_
                refine bz_iconst (pc := 80) dX12_minutesFor_80 ci_1 ?_
                refine bz_isub (pc := 81) dX12_minutesFor_81 ?_
                refine bz_goto (tgt := 86) (pc := 82) dX12_minutesFor_82 rfl ?_
                exact hJ
            · have e9 : ((if x1 = 0 then 0 else if (((3 * x1) + 3) / 4) ≤ 1 then 1 else (((3 * x1) + 3) / 4) - 1) : Int32) = (0) := if_pos c
              rw [e9] at hJ
              refine bz_iconst (pc := 70) dX12_minutesFor_70 ci_0 ?_
              refine bz_goto (tgt := 86) (pc := 71) dX12_minutesFor_71 rfl ?_
              exact hJ
          · have hP9 := hP7.2 c
            clear hP7
            refine ⟨fun c => ?_, fun c => ?_⟩
            · have hP10 := hP9.1 c
              clear hP9
              show bz_J G κ kX12_minutesFor (d + 1) F bc bs 101 [some (.inl x0), some (.inl x1), some (.inl (((3 * x1) + 3) / 4))] [] h
              refine bz_iload_n (pc := 101) dX12_minutesFor_101 rfl rfl ?_
              exact bz_retI (pc := 102) dX12_minutesFor_102 rfl rfl hP10
            · have hP11 := hP9.2 c
              clear hP9
              refine ⟨fun c => ?_, fun c => ?_⟩
              · have hP12 := hP11.1 c
                clear hP11
                show bz_J G κ kX12_minutesFor (d + 1) F bc bs 87 [some (.inl x0), some (.inl x1), some (.inl (((3 * x1) + 3) / 4))] [] h
                refine bz_iload_n (pc := 87) dX12_minutesFor_87 rfl rfl ?_
                have hJ : bz_J G κ kX12_minutesFor (d + 1) F bc bs 100 [some (.inl x0), some (.inl x1), some (.inl (((3 * x1) + 3) / 4))] [.inl (if x1 = 0 then 0 else (2 * x1) + 2)] h := by
                  exact bz_retI (pc := 100) dX12_minutesFor_100 rfl rfl hP12
                refine bz_if_ne (tgt := 95) (pc := 88) dX12_minutesFor_88 rfl (fun c => ?_) (fun c => ?_)
                · have e9 : ((if x1 = 0 then 0 else (2 * x1) + 2) : Int32) = ((2 * x1) + 2) := if_neg c
                  rw [e9] at hJ
                  refine bz_iconst (pc := 95) dX12_minutesFor_95 ci_2 ?_
                  refine bz_iload_n (pc := 96) dX12_minutesFor_96 rfl rfl ?_
                  refine bz_imul (pc := 97) dX12_minutesFor_97 ?_
                  refine bz_iconst (pc := 98) dX12_minutesFor_98 ci_2 ?_
                  refine bz_iadd (pc := 99) dX12_minutesFor_99 ?_
                  exact hJ
                · have e9 : ((if x1 = 0 then 0 else (2 * x1) + 2) : Int32) = (0) := if_pos c
                  rw [e9] at hJ
                  refine bz_iconst (pc := 91) dX12_minutesFor_91 ci_0 ?_
                  refine bz_goto (tgt := 100) (pc := 92) dX12_minutesFor_92 rfl ?_
                  exact hJ
              · have hP13 := hP11.2 c
                clear hP11
                show bz_J G κ kX12_minutesFor (d + 1) F bc bs 101 [some (.inl x0), some (.inl x1), some (.inl (((3 * x1) + 3) / 4))] [] h
                refine bz_iload_n (pc := 101) dX12_minutesFor_101 rfl rfl ?_
                exact bz_retI (pc := 102) dX12_minutesFor_102 rfl rfl hP13
  · have hP14 := hP0.2 c
    clear hP0
    refine bz_iconst (pc := 4) dX12_minutesFor_4 ci_m1 ?_
    exact bz_retI (pc := 5) dX12_minutesFor_5 rfl rfl hP14
theorem m_X12_minutesFor {G : bz_G} {l : Launch} {d mc ms : Nat} {F : Option bz_V → bz_H → Prop} (x0 : Int32) (x1 : Int32) (h : bz_H) (hP : w_X12_minutesFor_0 G l d F x0 x1 h) : bz_Call G l (d + 1) kX12_minutesFor [.inl x0, .inl x1] h mc ms F :=
  bz_body (by decide) (Nat.le_of_ble_eq_true rfl) (fun κ hl => g_X12_minutesFor_0 hl x0 x1 h hP)
