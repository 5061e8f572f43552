def w_X0_joined_0 (G : bz_G) (l : Launch) (d : Nat) (F : Option bz_V → bz_H → Prop) (x0 : Int32) (x1 : Int32) (x2 : Int32) (h : bz_H) : Prop := (x0 = 42 → F (some (.inl (x1 * x2))) h) ∧ (¬ x0 = 42 → (x0 = 43 → F (some (.inl (x1 + x2))) h) ∧ (¬ x0 = 43 → (x0 = 45 → F (some (.inl (x1 - x2))) h) ∧ (¬ x0 = 45 → (x0 = 47 → (¬ x2 = 0 → (¬ x2 = 0) ∧ (F (some (.inl (x1 / x2))) h)) ∧ (x2 = 0 → F (some (.inl 0)) h)) ∧ (¬ x0 = 47 → (x0 = 60 → F (some (.inl (if x2 ≤ x1 then 0 else 1))) h) ∧ (¬ x0 = 60 → F (some (.inl (if x1 = x2 then 1 else 0))) h)))))
set_option maxRecDepth 20000 in
set_option maxHeartbeats 4000000 in
theorem g_X0_joined_0 {G : bz_G} {κ : bz_K} {l : Launch} {d : Nat} {F : Option bz_V → bz_H → Prop} {bc bs : Nat} (hl : κ.2.1 = l) (x0 : Int32) (x1 : Int32) (x2 : Int32) (h : bz_H) (hP0 : w_X0_joined_0 G l d F x0 x1 x2 h) : bz_J G κ kX0_joined (d + 1) F bc bs 0 [some (.inl x0), some (.inl x1), some (.inl x2)] [] h := by
  subst hl
  unfold w_X0_joined_0 at hP0
  refine bz_iload_n (pc := 0) dX0_joined_0 rfl rfl ?_
  refine bz_lookup (pc := 1) [(42, 59), (43, 51), (45, 55), (47, 63), (60, 75)] dX0_joined_1 (by decide) (by decide) (by decide) (by decide) ?_
  refine ⟨fun c => ?_, fun c => ?_⟩
  · have hP1 := hP0.1 c
    clear hP0
    show bz_J G κ kX0_joined (d + 1) F bc bs 60 [some (.inl x0), some (.inl x1), some (.inl x2)] [] h
    refine bz_iload_n (pc := 60) dX0_joined_60 rfl rfl ?_
    refine bz_iload_n (pc := 61) dX0_joined_61 rfl rfl ?_
    refine bz_imul (pc := 62) dX0_joined_62 ?_
    exact bz_retI (pc := 63) dX0_joined_63 rfl rfl hP1
  · have hP2 := hP0.2 c
    clear hP0
    refine ⟨fun c => ?_, fun c => ?_⟩
    · have hP3 := hP2.1 c
      clear hP2
      show bz_J G κ kX0_joined (d + 1) F bc bs 52 [some (.inl x0), some (.inl x1), some (.inl x2)] [] h
      refine bz_iload_n (pc := 52) dX0_joined_52 rfl rfl ?_
      refine bz_iload_n (pc := 53) dX0_joined_53 rfl rfl ?_
      refine bz_iadd (pc := 54) dX0_joined_54 ?_
      exact bz_retI (pc := 55) dX0_joined_55 rfl rfl hP3
    · have hP4 := hP2.2 c
      clear hP2
      refine ⟨fun c => ?_, fun c => ?_⟩
      · have hP5 := hP4.1 c
        clear hP4
        show bz_J G κ kX0_joined (d + 1) F bc bs 56 [some (.inl x0), some (.inl x1), some (.inl x2)] [] h
        refine bz_iload_n (pc := 56) dX0_joined_56 rfl rfl ?_
        refine bz_iload_n (pc := 57) dX0_joined_57 rfl rfl ?_
        refine bz_isub (pc := 58) dX0_joined_58 ?_
        exact bz_retI (pc := 59) dX0_joined_59 rfl rfl hP5
      · have hP6 := hP4.2 c
        clear hP4
        refine ⟨fun c => ?_, fun c => ?_⟩
        · have hP7 := hP6.1 c
          clear hP6
          show bz_J G κ kX0_joined (d + 1) F bc bs 64 [some (.inl x0), some (.inl x1), some (.inl x2)] [] h
          refine bz_iload_n (pc := 64) dX0_joined_64 rfl rfl ?_
          refine bz_if_ne (tgt := 72) (pc := 65) dX0_joined_65 rfl (fun c => ?_) (fun c => ?_)
          · have hP8 := hP7.1 c
            clear hP7
            refine bz_iload_n (pc := 72) dX0_joined_72 rfl rfl ?_
            refine bz_iload_n (pc := 73) dX0_joined_73 rfl rfl ?_
            obtain ⟨hz, hP9⟩ := hP8
            refine bz_idiv (pc := 74) dX0_joined_74 hz ?_
            exact bz_retI (pc := 75) dX0_joined_75 rfl rfl hP9
          · have hP10 := hP7.2 c
            clear hP7
            refine bz_iconst (pc := 68) dX0_joined_68 ci_0 ?_
            refine bz_goto (tgt := 75) (pc := 69) dX0_joined_69 rfl ?_
            exact bz_retI (pc := 75) dX0_joined_75 rfl rfl hP10
        · have hP11 := hP6.2 c
          clear hP6
          refine ⟨fun c => ?_, fun c => ?_⟩
          · have hP12 := hP11.1 c
            clear hP11
            show bz_J G κ kX0_joined (d + 1) F bc bs 76 [some (.inl x0), some (.inl x1), some (.inl x2)] [] h
            refine bz_iload_n (pc := 76) dX0_joined_76 rfl rfl ?_
            refine bz_iload_n (pc := 77) dX0_joined_77 rfl rfl ?_
            have hJ : bz_J G κ kX0_joined (d + 1) F bc bs 86 [some (.inl x0), some (.inl x1), some (.inl x2)] [.inl (if x2 ≤ x1 then 0 else 1)] h := by
              exact bz_retI (pc := 86) dX0_joined_86 rfl rfl hP12
            refine bz_icmp_ge (tgt := 85) (pc := 78) dX0_joined_78 rfl (fun c => ?_) (fun c => ?_)
            · have e9 : ((if x2 ≤ x1 then 0 else 1) : Int32) = (0) := if_pos c
              rw [e9] at hJ
              refine bz_iconst (pc := 85) dX0_joined_85 ci_0 ?_
              exact hJ
            · have e9 : ((if x2 ≤ x1 then 0 else 1) : Int32) = (1) := if_neg c
              rw [e9] at hJ
              refine bz_iconst (pc := 81) dX0_joined_81 ci_1 ?_
              refine bz_goto (tgt := 86) (pc := 82) dX0_joined_82 rfl ?_
              exact hJ
          · have hP13 := hP11.2 c
            clear hP11
            show bz_J G κ kX0_joined (d + 1) F bc bs 87 [some (.inl x0), some (.inl x1), some (.inl x2)] [] h
            refine bz_iload_n (pc := 87) dX0_joined_87 rfl rfl ?_
            refine bz_iload_n (pc := 88) dX0_joined_88 rfl rfl ?_
            have hJ : bz_J G κ kX0_joined (d + 1) F bc bs 97 [some (.inl x0), some (.inl x1), some (.inl x2)] [.inl (if x1 = x2 then 1 else 0)] h := by
              exact bz_retI (pc := 97) dX0_joined_97 rfl rfl hP13
            refine bz_icmp_ne (tgt := 96) (pc := 89) dX0_joined_89 rfl (fun c => ?_) (fun c => ?_)
            · have e9 : ((if x1 = x2 then 1 else 0) : Int32) = (0) := if_neg c
              rw [e9] at hJ
              refine bz_iconst (pc := 96) dX0_joined_96 ci_0 ?_
              exact hJ
            · have e9 : ((if x1 = x2 then 1 else 0) : Int32) = (1) := if_pos c
              rw [e9] at hJ
              refine bz_iconst (pc := 92) dX0_joined_92 ci_1 ?_
              refine bz_goto (tgt := 97) (pc := 93) dX0_joined_93 rfl ?_
              exact hJ
theorem m_X0_joined {G : bz_G} {l : Launch} {d mc ms : Nat} {F : Option bz_V → bz_H → Prop} (x0 : Int32) (x1 : Int32) (x2 : Int32) (h : bz_H) (hP : w_X0_joined_0 G l d F x0 x1 x2 h) : bz_Call G l (d + 1) kX0_joined [.inl x0, .inl x1, .inl x2] h mc ms F :=
  bz_body (by decide) (Nat.le_of_ble_eq_true rfl) (fun κ hl => g_X0_joined_0 hl x0 x1 x2 h hP)
def w_X0_putRider_0 (G : bz_G) (l : Launch) (d : Nat) (F : Option bz_V → bz_H → Prop) (a0 : Nat) (x1 : Int32) (x2 : Int32) (x3 : Int32) (h : bz_H) : Prop := bz_rR h a0 0 0 (fun r_1 => bz_nn r_1 (fun a_2 => bz_wA h a_2 6 x1 (fun h_3 => bz_rR h_3 a0 0 0 (fun r_4 => bz_nn r_4 (fun a_5 => bz_wA h_3 a_5 2 x2 (fun h_6 => bz_rR h_6 a0 0 0 (fun r_7 => bz_nn r_7 (fun a_8 => bz_wA h_6 a_8 3 x3 (fun h_9 => F none h_9)))))))))
set_option maxRecDepth 20000 in
set_option maxHeartbeats 4000000 in
theorem g_X0_putRider_0 {G : bz_G} {κ : bz_K} {l : Launch} {d : Nat} {F : Option bz_V → bz_H → Prop} {bc bs : Nat} (hl : κ.2.1 = l) (a0 : Nat) (x1 : Int32) (x2 : Int32) (x3 : Int32) (h : bz_H) (hP0 : w_X0_putRider_0 G l d F a0 x1 x2 x3 h) : bz_J G κ kX0_putRider (d + 1) F bc bs 0 [some (.inr (some a0)), some (.inl x1), some (.inl x2), some (.inl x3)] [] h := by
  subst hl
  unfold w_X0_putRider_0 at hP0
  refine bz_aload_n (pc := 0) dX0_putRider_0 rfl rfl ?_
  refine bz_rw_rR (pc := 1) dX0_putRider_1 fl_X0_9 hP0 (fun r_1 hP1 => ?_)
  clear hP0
  refine bz_bipush (pc := 4) dX0_putRider_4 cb_6 ?_
  refine bz_iload_n (pc := 6) dX0_putRider_6 rfl rfl ?_
  obtain ⟨a_2, rfl, hP2⟩ := hP1
  refine bz_rw_wA (pc := 7) dX0_putRider_7 hP2 (fun h_3 hP3 => ?_)
  clear hP2
  refine bz_aload_n (pc := 8) dX0_putRider_8 rfl rfl ?_
  refine bz_rw_rR (pc := 9) dX0_putRider_9 fl_X0_9 hP3 (fun r_4 hP4 => ?_)
  clear hP3
  refine bz_iconst (pc := 12) dX0_putRider_12 ci_2 ?_
  refine bz_iload_n (pc := 13) dX0_putRider_13 rfl rfl ?_
  obtain ⟨a_5, rfl, hP5⟩ := hP4
  refine bz_rw_wA (pc := 14) dX0_putRider_14 hP5 (fun h_6 hP6 => ?_)
  clear hP5
  refine bz_aload_n (pc := 15) dX0_putRider_15 rfl rfl ?_
  refine bz_rw_rR (pc := 16) dX0_putRider_16 fl_X0_9 hP6 (fun r_7 hP7 => ?_)
  clear hP6
  refine bz_iconst (pc := 19) dX0_putRider_19 ci_3 ?_
  refine bz_iload_n (pc := 20) dX0_putRider_20 rfl rfl ?_
  obtain ⟨a_8, rfl, hP8⟩ := hP7
  refine bz_rw_wA (pc := 21) dX0_putRider_21 hP8 (fun h_9 hP9 => ?_)
  clear hP8
  exact bz_retV (pc := 22) dX0_putRider_22 rfl hP9
theorem m_X0_putRider {G : bz_G} {l : Launch} {d mc ms : Nat} {F : Option bz_V → bz_H → Prop} (a0 : Nat) (x1 : Int32) (x2 : Int32) (x3 : Int32) (h : bz_H) (hP : w_X0_putRider_0 G l d F a0 x1 x2 x3 h) : bz_Call G l (d + 1) kX0_putRider [.inr (some a0), .inl x1, .inl x2, .inl x3] h mc ms F :=
  bz_body (by decide) (Nat.le_of_ble_eq_true rfl) (fun κ hl => g_X0_putRider_0 hl a0 x1 x2 x3 h hP)
def w_X0_putTimes_0 (G : bz_G) (l : Launch) (d : Nat) (F : Option bz_V → bz_H → Prop) (a0 : Nat) (x1 : Int32) (x2 : Int32) (h : bz_H) : Prop := bz_rR h a0 0 0 (fun r_1 => bz_nn r_1 (fun a_2 => bz_wA h a_2 1 x1 (fun h_3 => bz_rR h_3 a0 0 0 (fun r_4 => bz_nn r_4 (fun a_5 => bz_wA h_3 a_5 4 x2 (fun h_6 => F none h_6))))))
set_option maxRecDepth 20000 in
set_option maxHeartbeats 4000000 in
theorem g_X0_putTimes_0 {G : bz_G} {κ : bz_K} {l : Launch} {d : Nat} {F : Option bz_V → bz_H → Prop} {bc bs : Nat} (hl : κ.2.1 = l) (a0 : Nat) (x1 : Int32) (x2 : Int32) (h : bz_H) (hP0 : w_X0_putTimes_0 G l d F a0 x1 x2 h) : bz_J G κ kX0_putTimes (d + 1) F bc bs 0 [some (.inr (some a0)), some (.inl x1), some (.inl x2)] [] h := by
  subst hl
  unfold w_X0_putTimes_0 at hP0
  refine bz_aload_n (pc := 0) dX0_putTimes_0 rfl rfl ?_
  refine bz_rw_rR (pc := 1) dX0_putTimes_1 fl_X0_9 hP0 (fun r_1 hP1 => ?_)
  clear hP0
  refine bz_iconst (pc := 4) dX0_putTimes_4 ci_1 ?_
  refine bz_iload_n (pc := 5) dX0_putTimes_5 rfl rfl ?_
  obtain ⟨a_2, rfl, hP2⟩ := hP1
  refine bz_rw_wA (pc := 6) dX0_putTimes_6 hP2 (fun h_3 hP3 => ?_)
  clear hP2
  refine bz_aload_n (pc := 7) dX0_putTimes_7 rfl rfl ?_
  refine bz_rw_rR (pc := 8) dX0_putTimes_8 fl_X0_9 hP3 (fun r_4 hP4 => ?_)
  clear hP3
  refine bz_iconst (pc := 11) dX0_putTimes_11 ci_4 ?_
  refine bz_iload_n (pc := 12) dX0_putTimes_12 rfl rfl ?_
  obtain ⟨a_5, rfl, hP5⟩ := hP4
  refine bz_rw_wA (pc := 13) dX0_putTimes_13 hP5 (fun h_6 hP6 => ?_)
  clear hP5
  exact bz_retV (pc := 14) dX0_putTimes_14 rfl hP6
theorem m_X0_putTimes {G : bz_G} {l : Launch} {d mc ms : Nat} {F : Option bz_V → bz_H → Prop} (a0 : Nat) (x1 : Int32) (x2 : Int32) (h : bz_H) (hP : w_X0_putTimes_0 G l d F a0 x1 x2 h) : bz_Call G l (d + 1) kX0_putTimes [.inr (some a0), .inl x1, .inl x2] h mc ms F :=
  bz_body (by decide) (Nat.le_of_ble_eq_true rfl) (fun κ hl => g_X0_putTimes_0 hl a0 x1 x2 h hP)
def w_X0_putWays_0 (G : bz_G) (l : Launch) (d : Nat) (F : Option bz_V → bz_H → Prop) (a0 : Nat) (r1 : Option Nat) (x2 : Int32) (x3 : Int32) (r4 : Option Nat) (h : bz_H) : Prop := bz_rR h a0 0 0 (fun r_1 => bz_nn r4 (fun a_2 => bz_rI h a_2 2 1 (fun x_3 => bz_nn r1 (fun a_6 => bz_rc h a_6 8 (bz_cI G l d kX8_wayBetween [.inr (some a_6), .inl x3, .inl x_3] h 0 0 (fun x_4 h_5 => bz_cI G l d kX11_legFor [.inl x2, .inl x_4] h_5 0 0 (fun x_7 h_8 => bz_nn r_1 (fun a_9 => bz_wA h_8 a_9 0 (if 0 < x_7 then x_7 else 0) (fun h_10 => bz_rR h_10 a0 0 0 (fun r_11 => bz_rI h_10 a_2 2 1 (fun x_12 => bz_rI h_10 a_2 2 2 (fun x_13 => bz_rc h_10 a_6 8 (bz_cI G l d kX8_wayBetween [.inr (some a_6), .inl x_12, .inl x_13] h_10 0 0 (fun x_14 h_15 => bz_cI G l d kX11_legFor [.inl x2, .inl x_14] h_15 0 0 (fun x_16 h_17 => bz_nn r_11 (fun a_18 => bz_wA h_17 a_18 5 (if 0 < x_16 then x_16 else 0) (fun h_19 => F none h_19)))))))))))))))))
set_option maxRecDepth 20000 in
set_option maxHeartbeats 4000000 in
theorem g_X0_putWays_0 {G : bz_G} {κ : bz_K} {l : Launch} {d : Nat} {F : Option bz_V → bz_H → Prop} {bc bs : Nat} (hl : κ.2.1 = l) (a0 : Nat) (r1 : Option Nat) (x2 : Int32) (x3 : Int32) (r4 : Option Nat) (h : bz_H) (hP0 : w_X0_putWays_0 G l d F a0 r1 x2 x3 r4 h) : bz_J G κ kX0_putWays (d + 1) F bc bs 0 [some (.inr (some a0)), some (.inr r1), some (.inl x2), some (.inl x3), some (.inr r4)] [] h := by
  subst hl
  unfold w_X0_putWays_0 at hP0
  refine bz_aload_n (pc := 0) dX0_putWays_0 rfl rfl ?_
  refine bz_rw_rR (pc := 1) dX0_putWays_1 fl_X0_9 hP0 (fun r_1 hP1 => ?_)
  clear hP0
  refine bz_iconst (pc := 4) dX0_putWays_4 ci_0 ?_
  refine bz_iconst (pc := 5) dX0_putWays_5 ci_0 ?_
  refine bz_iload_n (pc := 6) dX0_putWays_6 rfl rfl ?_
  refine bz_aload_n (pc := 7) dX0_putWays_7 rfl rfl ?_
  refine bz_iload_n (pc := 8) dX0_putWays_8 rfl rfl ?_
  refine bz_aload (pc := 9) dX0_putWays_9 rfl ?_
  obtain ⟨a_2, rfl, hP2⟩ := hP1
  refine bz_rw_rI (pc := 11) dX0_putWays_11 fl_X0_18 hP2 (fun x_3 hP3 => ?_)
  clear hP2
  obtain ⟨a_6, rfl, hP4⟩ := hP3
  refine bz_kIV (as := [.inl x3, .inl x_3]) (st := [.inl x2, .inl 0, .inl 0, .inr r_1]) (ci := 8) (n := 2) (mc := 0) (ms := 0) (bc := bc) (bs := bs) (yc := kX8_wayBetween) (q := (RX8, TX8, 4)) (b := a_6) (pc := 14) dX0_putWays_14 sc_X8_wayBetween ml_X0_24 im_X8_wayBetween se_X8_wayBetween rfl rfl rfl (Nat.le_of_ble_eq_true rfl) hP4 (fun x_4 h_5 hP5 => ?_)
  clear hP4
  refine bz_kISN (as := [.inl x2, .inl x_4]) (st := [.inl 0, .inl 0, .inr r_1]) (n := 2) (mc := 0) (ms := 0) (bc := bc) (bs := bs) (yc := kX11_legFor) (host := RX11) (pc := 17) dX0_putWays_17 sc_X11_legFor ml_X0_30 ss_X11_legFor rfl (Nat.le_of_ble_eq_true rfl) hP5 (fun x_7 h_8 hP6 => ?_)
  clear hP5
  refine bz_mmax (pc := 20) dX0_putWays_20 ml_X0_33 mt_max mt_init mt_code_max (Nat.succ_pos d) (Nat.le_of_ble_eq_true rfl) ?_
  obtain ⟨a_9, rfl, hP7⟩ := hP6
  refine bz_rw_wA (pc := 23) dX0_putWays_23 hP7 (fun h_10 hP8 => ?_)
  clear hP7
  refine bz_aload_n (pc := 24) dX0_putWays_24 rfl rfl ?_
  refine bz_rw_rR (pc := 25) dX0_putWays_25 fl_X0_9 hP8 (fun r_11 hP9 => ?_)
  clear hP8
  refine bz_iconst (pc := 28) dX0_putWays_28 ci_5 ?_
  refine bz_iconst (pc := 29) dX0_putWays_29 ci_0 ?_
  refine bz_iload_n (pc := 30) dX0_putWays_30 rfl rfl ?_
  refine bz_aload_n (pc := 31) dX0_putWays_31 rfl rfl ?_
  refine bz_aload (pc := 32) dX0_putWays_32 rfl ?_
  refine bz_rw_rI (pc := 34) dX0_putWays_34 fl_X0_18 hP9 (fun x_12 hP10 => ?_)
  clear hP9
  refine bz_aload (pc := 37) dX0_putWays_37 rfl ?_
  refine bz_rw_rI (pc := 39) dX0_putWays_39 fl_X0_38 hP10 (fun x_13 hP11 => ?_)
  clear hP10
  refine bz_kIV (as := [.inl x_12, .inl x_13]) (st := [.inl x2, .inl 0, .inl 5, .inr r_11]) (ci := 8) (n := 2) (mc := 0) (ms := 0) (bc := bc) (bs := bs) (yc := kX8_wayBetween) (q := (RX8, TX8, 4)) (b := a_6) (pc := 42) dX0_putWays_42 sc_X8_wayBetween ml_X0_24 im_X8_wayBetween se_X8_wayBetween rfl rfl rfl (Nat.le_of_ble_eq_true rfl) hP11 (fun x_14 h_15 hP12 => ?_)
  clear hP11
  refine bz_kISN (as := [.inl x2, .inl x_14]) (st := [.inl 0, .inl 5, .inr r_11]) (n := 2) (mc := 0) (ms := 0) (bc := bc) (bs := bs) (yc := kX11_legFor) (host := RX11) (pc := 45) dX0_putWays_45 sc_X11_legFor ml_X0_30 ss_X11_legFor rfl (Nat.le_of_ble_eq_true rfl) hP12 (fun x_16 h_17 hP13 => ?_)
  clear hP12
  refine bz_mmax (pc := 48) dX0_putWays_48 ml_X0_33 mt_max mt_init mt_code_max (Nat.succ_pos d) (Nat.le_of_ble_eq_true rfl) ?_
  obtain ⟨a_18, rfl, hP14⟩ := hP13
  refine bz_rw_wA (pc := 51) dX0_putWays_51 hP14 (fun h_19 hP15 => ?_)
  clear hP14
  exact bz_retV (pc := 52) dX0_putWays_52 rfl hP15
theorem m_X0_putWays {G : bz_G} {l : Launch} {d mc ms : Nat} {F : Option bz_V → bz_H → Prop} (a0 : Nat) (r1 : Option Nat) (x2 : Int32) (x3 : Int32) (r4 : Option Nat) (h : bz_H) (hP : w_X0_putWays_0 G l d F a0 r1 x2 x3 r4 h) : bz_Call G l (d + 1) kX0_putWays [.inr (some a0), .inr r1, .inl x2, .inl x3, .inr r4] h mc ms F :=
  bz_body (by decide) (Nat.le_of_ble_eq_true rfl) (fun κ hl => g_X0_putWays_0 hl a0 r1 x2 x3 r4 h hP)
def w_X0_valueOf_0 (G : bz_G) (l : Launch) (d : Nat) (F : Option bz_V → bz_H → Prop) (a0 : Nat) (x1 : Int32) (h : bz_H) : Prop := bz_cI G l d kX11_isWithin [.inl (x1 - 10000), .inl 0, .inl 6] h 0 0 (fun x_1 h_2 => (x_1 = 0 → F (some (.inl x1)) h_2) ∧ (¬ (x_1 = 0) → bz_rR h_2 a0 0 0 (fun r_3 => bz_nn r_3 (fun a_4 => bz_rA h_2 a_4 (x1 - 10000) (fun x_5 => F (some (.inl x_5)) h_2)))))
set_option maxRecDepth 20000 in
set_option maxHeartbeats 4000000 in
theorem g_X0_valueOf_0 {G : bz_G} {κ : bz_K} {l : Launch} {d : Nat} {F : Option bz_V → bz_H → Prop} {bc bs : Nat} (hl : κ.2.1 = l) (a0 : Nat) (x1 : Int32) (h : bz_H) (hP0 : w_X0_valueOf_0 G l d F a0 x1 h) : bz_J G κ kX0_valueOf (d + 1) F bc bs 0 [some (.inr (some a0)), some (.inl x1), none] [] h := by
  subst hl
  unfold w_X0_valueOf_0 at hP0
  refine bz_iload_n (pc := 0) dX0_valueOf_0 rfl rfl ?_
  refine bz_sipush (pc := 1) dX0_valueOf_1 cs_10000 ?_
  refine bz_isub (pc := 4) dX0_valueOf_4 ?_
  refine bz_s_istore_n (pc := 5) dX0_valueOf_5 rfl (Nat.le_of_ble_eq_true rfl) [some (.inr (some a0)), some (.inl x1), some (.inl (x1 - 10000))] rfl ?_
  refine bz_iload_n (pc := 6) dX0_valueOf_6 rfl rfl ?_
  refine bz_iconst (pc := 7) dX0_valueOf_7 ci_0 ?_
  refine bz_bipush (pc := 8) dX0_valueOf_8 cb_6 ?_
  refine bz_kISN (as := [.inl (x1 - 10000), .inl 0, .inl 6]) (st := []) (n := 3) (mc := 0) (ms := 0) (bc := bc) (bs := bs) (yc := kX11_isWithin) (host := RX11) (pc := 10) dX0_valueOf_10 sc_X11_isWithin ml_X0_54 ss_X11_isWithin rfl (Nat.le_of_ble_eq_true rfl) hP0 (fun x_1 h_2 hP1 => ?_)
  clear hP0
  refine bz_if_eq (tgt := 25) (pc := 13) dX0_valueOf_13 rfl (fun c => ?_) (fun c => ?_)
  · have hP2 := hP1.1 c
    clear hP1
    refine bz_iload_n (pc := 25) dX0_valueOf_25 rfl rfl ?_
    exact bz_retI (pc := 26) dX0_valueOf_26 rfl rfl hP2
  · have hP3 := hP1.2 c
    clear hP1
    refine bz_aload_n (pc := 16) dX0_valueOf_16 rfl rfl ?_
    refine bz_rw_rR (pc := 17) dX0_valueOf_17 fl_X0_9 hP3 (fun r_3 hP4 => ?_)
    clear hP3
    refine bz_iload_n (pc := 20) dX0_valueOf_20 rfl rfl ?_
    obtain ⟨a_4, rfl, hP5⟩ := hP4
    refine bz_rw_rA (pc := 21) dX0_valueOf_21 hP5 (fun x_5 hP6 => ?_)
    clear hP5
    refine bz_goto (tgt := 26) (pc := 22) dX0_valueOf_22 rfl ?_
    exact bz_retI (pc := 26) dX0_valueOf_26 rfl rfl hP6
theorem m_X0_valueOf {G : bz_G} {l : Launch} {d mc ms : Nat} {F : Option bz_V → bz_H → Prop} (a0 : Nat) (x1 : Int32) (h : bz_H) (hP : w_X0_valueOf_0 G l d F a0 x1 h) : bz_Call G l (d + 1) kX0_valueOf [.inr (some a0), .inl x1] h mc ms F :=
  bz_body (by decide) (Nat.le_of_ble_eq_true rfl) (fun κ hl => g_X0_valueOf_0 hl a0 x1 h hP)
def w_X0_worthOf_0 (G : bz_G) (κ : bz_K) (l : Launch) (d : Nat) (F : Option bz_V → bz_H → Prop) (bc bs : Nat) (a0 : Nat) (r1 : Option Nat) (h : bz_H) : Prop := bz_J G κ kX0_worthOf (d + 1) F bc bs 4 [some (.inr (some a0)), some (.inr r1), some (.inl 0), some (.inl 0), none] [] h
set_option maxRecDepth 20000 in
set_option maxHeartbeats 4000000 in
theorem g_X0_worthOf_0 {G : bz_G} {κ : bz_K} {l : Launch} {d : Nat} {F : Option bz_V → bz_H → Prop} {bc bs : Nat} (hl : κ.2.1 = l) (a0 : Nat) (r1 : Option Nat) (h : bz_H) (hP0 : w_X0_worthOf_0 G κ l d F bc bs a0 r1 h) : bz_J G κ kX0_worthOf (d + 1) F bc bs 0 [some (.inr (some a0)), some (.inr r1), none, none, none] [] h := by
  subst hl
  unfold w_X0_worthOf_0 at hP0
  refine bz_iconst (pc := 0) dX0_worthOf_0 ci_0 ?_
  refine bz_s_istore_n (pc := 1) dX0_worthOf_1 rfl (Nat.le_of_ble_eq_true rfl) [some (.inr (some a0)), some (.inr r1), some (.inl 0), none, none] rfl ?_
  refine bz_iconst (pc := 2) dX0_worthOf_2 ci_0 ?_
  refine bz_s_istore_n (pc := 3) dX0_worthOf_3 rfl (Nat.le_of_ble_eq_true rfl) [some (.inr (some a0)), some (.inr r1), some (.inl 0), some (.inl 0), none] rfl ?_
  exact hP0
def w_X0_worthOf_4 (G : bz_G) (κ : bz_K) (l : Launch) (d : Nat) (F : Option bz_V → bz_H → Prop) (bc bs : Nat) (a0 : Nat) (r1 : Option Nat) (x2 : Int32) (x3 : Int32) (u4 : Option bz_V) (h : bz_H) : Prop := bz_nn r1 (fun a_1 => bz_rR h a_1 7 0 (fun r_2 => bz_nn r_2 (fun a_3 => bz_rN h a_3 (fun x_4 => (x_4 ≤ x3 → bz_rR h a0 0 1 (fun r_5 => bz_nn r_5 (fun a_6 => bz_rA h a_6 0 (fun x_7 => F (some (.inl x_7)) h)))) ∧ (¬ (x_4 ≤ x3) → bz_rR h a_1 7 0 (fun r_8 => bz_nn r_8 (fun a_9 => bz_rA h a_9 x3 (fun x_10 => (10007 ≤ x_10 → (¬ x_10 = 10263 → (x2 < 2 → bz_J G κ kX0_worthOf (d + 1) F bc bs 4 [some (.inr (some a0)), some (.inr (some a_1)), some (.inl x2), some (.inl (x3 + 1)), some (.inl x_10)] [] h) ∧ (¬ (x2 < 2) → bz_rR h a0 0 1 (fun r_11 => bz_rR h a0 0 1 (fun r_12 => bz_nn r_12 (fun a_13 => bz_rA h a_13 ((x2 + (-1)) - 1) (fun x_14 => bz_rR h a0 0 1 (fun r_15 => bz_nn r_15 (fun a_16 => bz_rA h a_16 (x2 + (-1)) (fun x_17 => bz_cI G l d kX0_joined [.inl (x_10 - 10007), .inl x_14, .inl x_17] h 0 0 (fun x_18 h_19 => bz_nn r_11 (fun a_20 => bz_wA h_19 a_20 ((x2 + (-1)) - 1) x_18 (fun h_21 => bz_J G κ kX0_worthOf (d + 1) F bc bs 4 [some (.inr (some a0)), some (.inr (some a_1)), some (.inl (x2 + (-1))), some (.inl (x3 + 1)), some (.inl x_10)] [] h_21)))))))))))) ∧ (x_10 = 10263 → (x2 < 1 → bz_J G κ kX0_worthOf (d + 1) F bc bs 4 [some (.inr (some a0)), some (.inr (some a_1)), some (.inl x2), some (.inl (x3 + 1)), some (.inl x_10)] [] h) ∧ (¬ (x2 < 1) → bz_rR h a0 0 1 (fun r_22 => bz_rR h a0 0 1 (fun r_23 => bz_nn r_23 (fun a_24 => bz_rA h a_24 (x2 - 1) (fun x_25 => bz_nn r_22 (fun a_26 => bz_wA h a_26 (x2 - 1) (-x_25) (fun h_27 => bz_J G κ kX0_worthOf (d + 1) F bc bs 4 [some (.inr (some a0)), some (.inr (some a_1)), some (.inl x2), some (.inl (x3 + 1)), some (.inl x_10)] [] h_27))))))))) ∧ (¬ (10007 ≤ x_10) → bz_rR h a0 0 1 (fun r_28 => bz_nn r_28 (fun a_29 => bz_rN h a_29 (fun x_30 => (x_30 ≤ x2 → bz_J G κ kX0_worthOf (d + 1) F bc bs 4 [some (.inr (some a0)), some (.inr (some a_1)), some (.inl x2), some (.inl (x3 + 1)), some (.inl x_10)] [] h) ∧ (¬ (x_30 ≤ x2) → bz_rR h a0 0 1 (fun r_31 => bz_rc h a0 0 (bz_cI G l d kX0_valueOf [.inr (some a0), .inl x_10] h 0 0 (fun x_32 h_33 => bz_nn r_31 (fun a_34 => bz_wA h_33 a_34 x2 x_32 (fun h_35 => bz_J G κ kX0_worthOf (d + 1) F bc bs 4 [some (.inr (some a0)), some (.inr (some a_1)), some (.inl (x2 + 1)), some (.inl (x3 + 1)), some (.inl x_10)] [] h_35))))))))))))))))))
set_option maxRecDepth 20000 in
set_option maxHeartbeats 4000000 in
theorem g_X0_worthOf_4 {G : bz_G} {κ : bz_K} {l : Launch} {d : Nat} {F : Option bz_V → bz_H → Prop} {bc bs : Nat} (hl : κ.2.1 = l) (a0 : Nat) (r1 : Option Nat) (x2 : Int32) (x3 : Int32) (u4 : Option bz_V) (h : bz_H) (hP0 : w_X0_worthOf_4 G κ l d F bc bs a0 r1 x2 x3 u4 h) : bz_J G κ kX0_worthOf (d + 1) F bc bs 4 [some (.inr (some a0)), some (.inr r1), some (.inl x2), some (.inl x3), u4] [] h := by
  subst hl
  unfold w_X0_worthOf_4 at hP0
  refine bz_iload_n (pc := 4) dX0_worthOf_4 rfl rfl ?_
  refine bz_aload_n (pc := 5) dX0_worthOf_5 rfl rfl ?_
  obtain ⟨a_1, rfl, hP1⟩ := hP0
  refine bz_rw_rR (pc := 6) dX0_worthOf_6 fl_X0_41 hP1 (fun r_2 hP2 => ?_)
  clear hP1
  obtain ⟨a_3, rfl, hP3⟩ := hP2
  refine bz_rw_rN (pc := 9) dX0_worthOf_9 hP3 (fun x_4 hP4 => ?_)
  clear hP3
  refine bz_icmp_ge (tgt := 134) (pc := 10) dX0_worthOf_10 rfl (fun c => ?_) (fun c => ?_)
  · have hP5 := hP4.1 c
    clear hP4
    refine bz_aload_n (pc := 134) dX0_worthOf_134 rfl rfl ?_
    refine bz_rw_rR (pc := 135) dX0_worthOf_135 fl_X0_15 hP5 (fun r_5 hP6 => ?_)
    clear hP5
    refine bz_iconst (pc := 138) dX0_worthOf_138 ci_0 ?_
    obtain ⟨a_6, rfl, hP7⟩ := hP6
    refine bz_rw_rA (pc := 139) dX0_worthOf_139 hP7 (fun x_7 hP8 => ?_)
    clear hP7
    exact bz_retI (pc := 140) dX0_worthOf_140 rfl rfl hP8
  · have hP9 := hP4.2 c
    clear hP4
    refine bz_aload_n (pc := 13) dX0_worthOf_13 rfl rfl ?_
    refine bz_rw_rR (pc := 14) dX0_worthOf_14 fl_X0_41 hP9 (fun r_8 hP10 => ?_)
    clear hP9
    refine bz_iload_n (pc := 17) dX0_worthOf_17 rfl rfl ?_
    obtain ⟨a_9, rfl, hP11⟩ := hP10
    refine bz_rw_rA (pc := 18) dX0_worthOf_18 hP11 (fun x_10 hP12 => ?_)
    clear hP11
    refine bz_s_istore (pc := 19) dX0_worthOf_19 (Nat.le_of_ble_eq_true rfl) [some (.inr (some a0)), some (.inr (some a_1)), some (.inl x2), some (.inl x3), some (.inl x_10)] rfl ?_
    refine bz_iload (pc := 21) dX0_worthOf_21 rfl ?_
    refine bz_sipush (pc := 23) dX0_worthOf_23 cs_10007 ?_
    refine bz_icmp_ge (tgt := 56) (pc := 26) dX0_worthOf_26 rfl (fun c => ?_) (fun c => ?_)
    · have hP13 := hP12.1 c
      clear hP12
      refine bz_iload (pc := 56) dX0_worthOf_56 rfl ?_
      refine bz_sipush (pc := 58) dX0_worthOf_58 cs_10263 ?_
      refine bz_icmp_ne (tgt := 89) (pc := 61) dX0_worthOf_61 rfl (fun c => ?_) (fun c => ?_)
      · have hP14 := hP13.1 c
        clear hP13
        refine bz_iload_n (pc := 89) dX0_worthOf_89 rfl rfl ?_
        refine bz_iconst (pc := 90) dX0_worthOf_90 ci_2 ?_
        refine bz_icmp_lt (tgt := 128) (pc := 91) dX0_worthOf_91 rfl (fun c => ?_) (fun c => ?_)
        · have hP15 := hP14.1 c
          clear hP14
          refine bz_s_iinc (pc := 128) dX0_worthOf_128 (Nat.le_of_ble_eq_true rfl) rfl rfl [some (.inr (some a0)), some (.inr (some a_1)), some (.inl x2), some (.inl (x3 + 1)), some (.inl x_10)] rfl ?_
          refine bz_goto (tgt := 4) (pc := 131) dX0_worthOf_131 rfl ?_
          exact hP15
        · have hP16 := hP14.2 c
          clear hP14
          refine bz_s_iinc (pc := 94) dX0_worthOf_94 (Nat.le_of_ble_eq_true rfl) rfl rfl [some (.inr (some a0)), some (.inr (some a_1)), some (.inl (x2 + (-1))), some (.inl x3), some (.inl x_10)] rfl ?_
          refine bz_aload_n (pc := 97) dX0_worthOf_97 rfl rfl ?_
          refine bz_rw_rR (pc := 98) dX0_worthOf_98 fl_X0_15 hP16 (fun r_11 hP17 => ?_)
          clear hP16
          refine bz_iload_n (pc := 101) dX0_worthOf_101 rfl rfl ?_
          refine bz_iconst (pc := 102) dX0_worthOf_102 ci_1 ?_
          refine bz_isub (pc := 103) dX0_worthOf_103 ?_
          refine bz_iload (pc := 104) dX0_worthOf_104 rfl ?_
          refine bz_sipush (pc := 106) dX0_worthOf_106 cs_10007 ?_
          refine bz_isub (pc := 109) dX0_worthOf_109 ?_
          refine bz_aload_n (pc := 110) dX0_worthOf_110 rfl rfl ?_
          refine bz_rw_rR (pc := 111) dX0_worthOf_111 fl_X0_15 hP17 (fun r_12 hP18 => ?_)
          clear hP17
          refine bz_iload_n (pc := 114) dX0_worthOf_114 rfl rfl ?_
          refine bz_iconst (pc := 115) dX0_worthOf_115 ci_1 ?_
          refine bz_isub (pc := 116) dX0_worthOf_116 ?_
          obtain ⟨a_13, rfl, hP19⟩ := hP18
          refine bz_rw_rA (pc := 117) dX0_worthOf_117 hP19 (fun x_14 hP20 => ?_)
          clear hP19
          refine bz_aload_n (pc := 118) dX0_worthOf_118 rfl rfl ?_
          refine bz_rw_rR (pc := 119) dX0_worthOf_119 fl_X0_15 hP20 (fun r_15 hP21 => ?_)
          clear hP20
          refine bz_iload_n (pc := 122) dX0_worthOf_122 rfl rfl ?_
          obtain ⟨a_16, rfl, hP22⟩ := hP21
          refine bz_rw_rA (pc := 123) dX0_worthOf_123 hP22 (fun x_17 hP23 => ?_)
          clear hP22
          refine bz_kIS (as := [.inl (x_10 - 10007), .inl x_14, .inl x_17]) (st := [.inl ((x2 + (-1)) - 1), .inr r_11]) (n := 3) (mc := 0) (ms := 0) (bc := bc) (bs := bs) (yc := kX0_joined) (pc := 124) dX0_worthOf_124 sc_X0_joined ml_X0_50 ss_X0_joined rfl (Nat.le_of_ble_eq_true rfl) hP23 (fun x_18 h_19 hP24 => ?_)
          clear hP23
          obtain ⟨a_20, rfl, hP25⟩ := hP24
          refine bz_rw_wA (pc := 127) dX0_worthOf_127 hP25 (fun h_21 hP26 => ?_)
          clear hP25
          refine bz_s_iinc (pc := 128) dX0_worthOf_128 (Nat.le_of_ble_eq_true rfl) rfl rfl [some (.inr (some a0)), some (.inr (some a_1)), some (.inl (x2 + (-1))), some (.inl (x3 + 1)), some (.inl x_10)] rfl ?_
          refine bz_goto (tgt := 4) (pc := 131) dX0_worthOf_131 rfl ?_
          exact hP26
      · have hP27 := hP13.2 c
        clear hP13
        refine bz_iload_n (pc := 64) dX0_worthOf_64 rfl rfl ?_
        refine bz_iconst (pc := 65) dX0_worthOf_65 ci_1 ?_
        refine bz_icmp_lt (tgt := 128) (pc := 66) dX0_worthOf_66 rfl (fun c => ?_) (fun c => ?_)
        · have hP28 := hP27.1 c
          clear hP27
          refine bz_s_iinc (pc := 128) dX0_worthOf_128 (Nat.le_of_ble_eq_true rfl) rfl rfl [some (.inr (some a0)), some (.inr (some a_1)), some (.inl x2), some (.inl (x3 + 1)), some (.inl x_10)] rfl ?_
          refine bz_goto (tgt := 4) (pc := 131) dX0_worthOf_131 rfl ?_
          exact hP28
        · have hP29 := hP27.2 c
          clear hP27
          refine bz_aload_n (pc := 69) dX0_worthOf_69 rfl rfl ?_
          refine bz_rw_rR (pc := 70) dX0_worthOf_70 fl_X0_15 hP29 (fun r_22 hP30 => ?_)
          clear hP29
          refine bz_iload_n (pc := 73) dX0_worthOf_73 rfl rfl ?_
          refine bz_iconst (pc := 74) dX0_worthOf_74 ci_1 ?_
          refine bz_isub (pc := 75) dX0_worthOf_75 ?_
          refine bz_aload_n (pc := 76) dX0_worthOf_76 rfl rfl ?_
          refine bz_rw_rR (pc := 77) dX0_worthOf_77 fl_X0_15 hP30 (fun r_23 hP31 => ?_)
          clear hP30
          refine bz_iload_n (pc := 80) dX0_worthOf_80 rfl rfl ?_
          refine bz_iconst (pc := 81) dX0_worthOf_81 ci_1 ?_
          refine bz_isub (pc := 82) dX0_worthOf_82 ?_
          obtain ⟨a_24, rfl, hP32⟩ := hP31
          refine bz_rw_rA (pc := 83) dX0_worthOf_83 hP32 (fun x_25 hP33 => ?_)
          clear hP32
          refine bz_ineg (pc := 84) dX0_worthOf_84 ?_
          obtain ⟨a_26, rfl, hP34⟩ := hP33
          refine bz_rw_wA (pc := 85) dX0_worthOf_85 hP34 (fun h_27 hP35 => ?_)
          clear hP34
          refine bz_goto (tgt := 128) (pc := 86) dX0_worthOf_86 rfl ?_
          refine bz_s_iinc (pc := 128) dX0_worthOf_128 (Nat.le_of_ble_eq_true rfl) rfl rfl [some (.inr (some a0)), some (.inr (some a_1)), some (.inl x2), some (.inl (x3 + 1)), some (.inl x_10)] rfl ?_
          refine bz_goto (tgt := 4) (pc := 131) dX0_worthOf_131 rfl ?_
          exact hP35
    · have hP36 := hP12.2 c
      clear hP12
      refine bz_iload_n (pc := 29) dX0_worthOf_29 rfl rfl ?_
      refine bz_aload_n (pc := 30) dX0_worthOf_30 rfl rfl ?_
      refine bz_rw_rR (pc := 31) dX0_worthOf_31 fl_X0_15 hP36 (fun r_28 hP37 => ?_)
      clear hP36
      obtain ⟨a_29, rfl, hP38⟩ := hP37
      refine bz_rw_rN (pc := 34) dX0_worthOf_34 hP38 (fun x_30 hP39 => ?_)
      clear hP38
      refine bz_icmp_ge (tgt := 128) (pc := 35) dX0_worthOf_35 rfl (fun c => ?_) (fun c => ?_)
      · have hP40 := hP39.1 c
        clear hP39
        refine bz_s_iinc (pc := 128) dX0_worthOf_128 (Nat.le_of_ble_eq_true rfl) rfl rfl [some (.inr (some a0)), some (.inr (some a_1)), some (.inl x2), some (.inl (x3 + 1)), some (.inl x_10)] rfl ?_
        refine bz_goto (tgt := 4) (pc := 131) dX0_worthOf_131 rfl ?_
        exact hP40
      · have hP41 := hP39.2 c
        clear hP39
        refine bz_aload_n (pc := 38) dX0_worthOf_38 rfl rfl ?_
        refine bz_rw_rR (pc := 39) dX0_worthOf_39 fl_X0_15 hP41 (fun r_31 hP42 => ?_)
        clear hP41
        refine bz_iload_n (pc := 42) dX0_worthOf_42 rfl rfl ?_
        refine bz_aload_n (pc := 43) dX0_worthOf_43 rfl rfl ?_
        refine bz_iload (pc := 44) dX0_worthOf_44 rfl ?_
        refine bz_kIV (as := [.inl x_10]) (st := [.inl x2, .inr r_31]) (ci := 0) (n := 1) (mc := 0) (ms := 0) (bc := bc) (bs := bs) (yc := kX0_valueOf) (q := (RX0, TX0, 2)) (b := a0) (pc := 46) dX0_worthOf_46 sc_X0_valueOf ml_X0_46 im_X0_valueOf se_X0_valueOf rfl rfl rfl (Nat.le_of_ble_eq_true rfl) hP42 (fun x_32 h_33 hP43 => ?_)
        clear hP42
        obtain ⟨a_34, rfl, hP44⟩ := hP43
        refine bz_rw_wA (pc := 49) dX0_worthOf_49 hP44 (fun h_35 hP45 => ?_)
        clear hP44
        refine bz_s_iinc (pc := 50) dX0_worthOf_50 (Nat.le_of_ble_eq_true rfl) rfl rfl [some (.inr (some a0)), some (.inr (some a_1)), some (.inl (x2 + 1)), some (.inl x3), some (.inl x_10)] rfl ?_
        refine bz_goto (tgt := 128) (pc := 53) dX0_worthOf_53 rfl ?_
        refine bz_s_iinc (pc := 128) dX0_worthOf_128 (Nat.le_of_ble_eq_true rfl) rfl rfl [some (.inr (some a0)), some (.inr (some a_1)), some (.inl (x2 + 1)), some (.inl (x3 + 1)), some (.inl x_10)] rfl ?_
        refine bz_goto (tgt := 4) (pc := 131) dX0_worthOf_131 rfl ?_
        exact hP45
theorem m_X0_worthOf {G : bz_G} {l : Launch} {d mc ms : Nat} {F : Option bz_V → bz_H → Prop} (a0 : Nat) (r1 : Option Nat) (h : bz_H) (hP : ∀ (κ : bz_K) (bc bs : Nat), κ.2.1 = l → w_X0_worthOf_0 G κ l d F bc bs a0 r1 h) : bz_Call G l (d + 1) kX0_worthOf [.inr (some a0), .inr r1] h mc ms F :=
  bz_body (by decide) (Nat.le_of_ble_eq_true rfl) (fun κ hl => g_X0_worthOf_0 hl a0 r1 h (hP κ mc ms hl))
def w_X1_bestTaker_0 (G : bz_G) (κ : bz_K) (l : Launch) (d : Nat) (F : Option bz_V → bz_H → Prop) (bc bs : Nat) (a0 : Nat) (r1 : Option Nat) (r2 : Option Nat) (h : bz_H) : Prop := bz_J G κ kX1_bestTaker (d + 1) F bc bs 8 [some (.inr (some a0)), some (.inr r1), some (.inr r2), some (.inl (-1)), some (.inl 0), some (.inl 0), none] [] h
set_option maxRecDepth 20000 in
set_option maxHeartbeats 4000000 in
theorem g_X1_bestTaker_0 {G : bz_G} {κ : bz_K} {l : Launch} {d : Nat} {F : Option bz_V → bz_H → Prop} {bc bs : Nat} (hl : κ.2.1 = l) (a0 : Nat) (r1 : Option Nat) (r2 : Option Nat) (h : bz_H) (hP0 : w_X1_bestTaker_0 G κ l d F bc bs a0 r1 r2 h) : bz_J G κ kX1_bestTaker (d + 1) F bc bs 0 [some (.inr (some a0)), some (.inr r1), some (.inr r2), none, none, none, none] [] h := by
  subst hl
  unfold w_X1_bestTaker_0 at hP0
  refine bz_iconst (pc := 0) dX1_bestTaker_0 ci_m1 ?_
  refine bz_s_istore_n (pc := 1) dX1_bestTaker_1 rfl (Nat.le_of_ble_eq_true rfl) [some (.inr (some a0)), some (.inr r1), some (.inr r2), some (.inl (-1)), none, none, none] rfl ?_
  refine bz_iconst (pc := 2) dX1_bestTaker_2 ci_0 ?_
  refine bz_s_istore (pc := 3) dX1_bestTaker_3 (Nat.le_of_ble_eq_true rfl) [some (.inr (some a0)), some (.inr r1), some (.inr r2), some (.inl (-1)), some (.inl 0), none, none] rfl ?_
  refine bz_iconst (pc := 5) dX1_bestTaker_5 ci_0 ?_
  refine bz_s_istore (pc := 6) dX1_bestTaker_6 (Nat.le_of_ble_eq_true rfl) [some (.inr (some a0)), some (.inr r1), some (.inr r2), some (.inl (-1)), some (.inl 0), some (.inl 0), none] rfl ?_
  exact hP0
def w_X1_bestTaker_8 (G : bz_G) (κ : bz_K) (l : Launch) (d : Nat) (F : Option bz_V → bz_H → Prop) (bc bs : Nat) (a0 : Nat) (r1 : Option Nat) (r2 : Option Nat) (x3 : Int32) (x4 : Int32) (x5 : Int32) (u6 : Option bz_V) (h : bz_H) : Prop := bz_rR h a0 1 0 (fun r_1 => bz_nn r_1 (fun a_2 => bz_rI h a_2 10 10 (fun x_3 => (x_3 ≤ x5 → F (some (.inl x3)) h) ∧ (¬ (x_3 ≤ x5) → bz_rR h a0 1 0 (fun r_4 => bz_nn r_4 (fun a_5 => bz_rR h a_5 10 3 (fun r_6 => bz_nn r_6 (fun a_7 => bz_rQ h a_7 x5 (fun r_8 => bz_nn r_8 (fun a_9 => bz_rI h a_9 3 3 (fun x_10 => bz_nn r1 (fun a_11 => bz_rI h a_11 2 3 (fun x_12 => (x_12 < x_10 → bz_J G κ kX1_bestTaker (d + 1) F bc bs 8 [some (.inr (some a0)), some (.inr (some a_11)), some (.inr r2), some (.inl x3), some (.inl x4), some (.inl (x5 + 1)), u6] [] h) ∧ (¬ (x_12 < x_10) → bz_rc h a0 1 (bz_cI G l d kX1_planFor [.inr (some a0), .inl x5, .inr (some a_11)] h 0 0 (fun x_13 h_14 => (¬ x_13 = 0 → bz_rR h_14 a0 1 2 (fun r_15 => bz_rR h_14 a0 1 0 (fun r_16 => bz_nn r_16 (fun a_17 => bz_rR h_14 a_17 10 0 (fun r_18 => bz_rR h_14 a0 1 0 (fun r_19 => bz_nn r_19 (fun a_20 => bz_rR h_14 a_20 10 3 (fun r_21 => bz_nn r_21 (fun a_22 => bz_rQ h_14 a_22 x5 (fun r_23 => bz_nn r_23 (fun a_24 => bz_rI h_14 a_24 3 1 (fun x_25 => bz_rR h_14 a0 1 3 (fun r_26 => bz_nn r_26 (fun a_27 => bz_rA h_14 a_27 x5 (fun x_28 => bz_nn r_15 (fun a_31 => bz_rc h_14 a_31 0 (bz_cV G l d kX0_putWays [.inr (some a_31), .inr r_18, .inl x_25, .inl x_28, .inr (some a_11)] h_14 0 0 (fun h_30 => bz_rR h_30 a0 1 2 (fun r_32 => bz_rR h_30 a0 1 5 (fun r_33 => bz_nn r_33 (fun a_34 => bz_rA h_30 a_34 x5 (fun x_35 => bz_nn r_32 (fun a_38 => bz_rc h_30 a_38 0 (bz_cV G l d kX0_putRider [.inr (some a_38), .inl x5, .inl x_35, .inl 25] h_30 0 0 (fun h_37 => bz_rR h_37 a0 1 2 (fun r_39 => bz_rR h_37 a0 1 1 (fun r_40 => bz_nn r_40 (fun a_41 => bz_rI h_37 a_41 9 10 (fun x_42 => bz_nn r_39 (fun a_45 => bz_rc h_37 a_45 0 (bz_cV G l d kX0_putTimes [.inr (some a_45), .inl 0, .inl x_42] h_37 0 0 (fun h_44 => bz_rR h_44 a0 1 2 (fun r_46 => bz_nn r_46 (fun a_49 => bz_rc h_44 a_49 0 (bz_cI G l d kX0_worthOf [.inr (some a_49), .inr r2] h_44 0 0 (fun x_47 h_48 => (x3 = (-1) → bz_J G κ kX1_bestTaker (d + 1) F bc bs 8 [some (.inr (some a0)), some (.inr (some a_11)), some (.inr r2), some (.inl x5), some (.inl x_47), some (.inl (x5 + 1)), some (.inl x_47)] [] h_48) ∧ (¬ (x3 = (-1)) → (x_47 ≤ x4 → bz_J G κ kX1_bestTaker (d + 1) F bc bs 8 [some (.inr (some a0)), some (.inr (some a_11)), some (.inr r2), some (.inl x3), some (.inl x4), some (.inl (x5 + 1)), some (.inl x_47)] [] h_48) ∧ (¬ (x_47 ≤ x4) → bz_J G κ kX1_bestTaker (d + 1) F bc bs 8 [some (.inr (some a0)), some (.inr (some a_11)), some (.inr r2), some (.inl x5), some (.inl x_47), some (.inl (x5 + 1)), some (.inl x_47)] [] h_48)))))))))))))))))))))))))))))))))))))) ∧ (x_13 = 0 → bz_J G κ kX1_bestTaker (d + 1) F bc bs 8 [some (.inr (some a0)), some (.inr (some a_11)), some (.inr r2), some (.inl x3), some (.inl x4), some (.inl (x5 + 1)), u6] [] h_14)))))))))))))))))
set_option maxRecDepth 20000 in
set_option maxHeartbeats 4000000 in
theorem g_X1_bestTaker_8 {G : bz_G} {κ : bz_K} {l : Launch} {d : Nat} {F : Option bz_V → bz_H → Prop} {bc bs : Nat} (hl : κ.2.1 = l) (a0 : Nat) (r1 : Option Nat) (r2 : Option Nat) (x3 : Int32) (x4 : Int32) (x5 : Int32) (u6 : Option bz_V) (h : bz_H) (hP0 : w_X1_bestTaker_8 G κ l d F bc bs a0 r1 r2 x3 x4 x5 u6 h) : bz_J G κ kX1_bestTaker (d + 1) F bc bs 8 [some (.inr (some a0)), some (.inr r1), some (.inr r2), some (.inl x3), some (.inl x4), some (.inl x5), u6] [] h := by
  subst hl
  unfold w_X1_bestTaker_8 at hP0
  refine bz_iload (pc := 8) dX1_bestTaker_8 rfl ?_
  refine bz_aload_n (pc := 10) dX1_bestTaker_10 rfl rfl ?_
  refine bz_rw_rR (pc := 11) dX1_bestTaker_11 fl_X1_24 hP0 (fun r_1 hP1 => ?_)
  clear hP0
  obtain ⟨a_2, rfl, hP2⟩ := hP1
  refine bz_rw_rI (pc := 14) dX1_bestTaker_14 fl_X1_66 hP2 (fun x_3 hP3 => ?_)
  clear hP2
  refine bz_icmp_ge (tgt := 156) (pc := 17) dX1_bestTaker_17 rfl (fun c => ?_) (fun c => ?_)
  · have hP4 := hP3.1 c
    clear hP3
    refine bz_iload_n (pc := 156) dX1_bestTaker_156 rfl rfl ?_
    exact bz_retI (pc := 157) dX1_bestTaker_157 rfl rfl hP4
  · have hP5 := hP3.2 c
    clear hP3
    refine bz_aload_n (pc := 20) dX1_bestTaker_20 rfl rfl ?_
    refine bz_rw_rR (pc := 21) dX1_bestTaker_21 fl_X1_24 hP5 (fun r_4 hP6 => ?_)
    clear hP5
    obtain ⟨a_5, rfl, hP7⟩ := hP6
    refine bz_rw_rR (pc := 24) dX1_bestTaker_24 fl_X1_69 hP7 (fun r_6 hP8 => ?_)
    clear hP7
    refine bz_iload (pc := 27) dX1_bestTaker_27 rfl ?_
    obtain ⟨a_7, rfl, hP9⟩ := hP8
    refine bz_rw_ldq (pc := 29) dX1_bestTaker_29 hP9 (fun r_8 hP10 => ?_)
    clear hP9
    obtain ⟨a_9, rfl, hP11⟩ := hP10
    refine bz_rw_rI (pc := 30) dX1_bestTaker_30 fl_X1_78 hP11 (fun x_10 hP12 => ?_)
    clear hP11
    refine bz_aload_n (pc := 33) dX1_bestTaker_33 rfl rfl ?_
    obtain ⟨a_11, rfl, hP13⟩ := hP12
    refine bz_rw_rI (pc := 34) dX1_bestTaker_34 fl_X1_90 hP13 (fun x_12 hP14 => ?_)
    clear hP13
    refine bz_icmp_gt (tgt := 150) (pc := 37) dX1_bestTaker_37 rfl (fun c => ?_) (fun c => ?_)
    · have hP15 := hP14.1 c
      clear hP14
      refine bz_s_iinc (pc := 150) dX1_bestTaker_150 (Nat.le_of_ble_eq_true rfl) rfl rfl [some (.inr (some a0)), some (.inr (some a_11)), some (.inr r2), some (.inl x3), some (.inl x4), some (.inl (x5 + 1)), u6] rfl ?_
      refine bz_goto (tgt := 8) (pc := 153) dX1_bestTaker_153 rfl ?_
      exact hP15
    · have hP16 := hP14.2 c
      clear hP14
      refine bz_aload_n (pc := 40) dX1_bestTaker_40 rfl rfl ?_
      refine bz_iload (pc := 41) dX1_bestTaker_41 rfl ?_
      refine bz_aload_n (pc := 43) dX1_bestTaker_43 rfl rfl ?_
      refine bz_kIV (as := [.inl x5, .inr (some a_11)]) (st := []) (ci := 1) (n := 2) (mc := 0) (ms := 0) (bc := bc) (bs := bs) (yc := kX1_planFor) (q := (RX1, TX1, 10)) (b := a0) (pc := 44) dX1_bestTaker_44 sc_X1_planFor ml_X1_58 im_X1_planFor se_X1_planFor rfl rfl rfl (Nat.le_of_ble_eq_true rfl) hP16 (fun x_13 h_14 hP17 => ?_)
      clear hP16
      refine bz_if_ne (tgt := 53) (pc := 47) dX1_bestTaker_47 rfl (fun c => ?_) (fun c => ?_)
      · have hP18 := hP17.1 c
        clear hP17
        refine bz_aload_n (pc := 53) dX1_bestTaker_53 rfl rfl ?_
        refine bz_rw_rR (pc := 54) dX1_bestTaker_54 fl_X1_32 hP18 (fun r_15 hP19 => ?_)
        clear hP18
        refine bz_aload_n (pc := 57) dX1_bestTaker_57 rfl rfl ?_
        refine bz_rw_rR (pc := 58) dX1_bestTaker_58 fl_X1_24 hP19 (fun r_16 hP20 => ?_)
        clear hP19
        obtain ⟨a_17, rfl, hP21⟩ := hP20
        refine bz_rw_rR (pc := 61) dX1_bestTaker_61 fl_X1_93 hP21 (fun r_18 hP22 => ?_)
        clear hP21
        refine bz_aload_n (pc := 64) dX1_bestTaker_64 rfl rfl ?_
        refine bz_rw_rR (pc := 65) dX1_bestTaker_65 fl_X1_24 hP22 (fun r_19 hP23 => ?_)
        clear hP22
        obtain ⟨a_20, rfl, hP24⟩ := hP23
        refine bz_rw_rR (pc := 68) dX1_bestTaker_68 fl_X1_69 hP24 (fun r_21 hP25 => ?_)
        clear hP24
        refine bz_iload (pc := 71) dX1_bestTaker_71 rfl ?_
        obtain ⟨a_22, rfl, hP26⟩ := hP25
        refine bz_rw_ldq (pc := 73) dX1_bestTaker_73 hP26 (fun r_23 hP27 => ?_)
        clear hP26
        obtain ⟨a_24, rfl, hP28⟩ := hP27
        refine bz_rw_rI (pc := 74) dX1_bestTaker_74 fl_X1_97 hP28 (fun x_25 hP29 => ?_)
        clear hP28
        refine bz_aload_n (pc := 77) dX1_bestTaker_77 rfl rfl ?_
        refine bz_rw_rR (pc := 78) dX1_bestTaker_78 fl_X1_9 hP29 (fun r_26 hP30 => ?_)
        clear hP29
        refine bz_iload (pc := 81) dX1_bestTaker_81 rfl ?_
        obtain ⟨a_27, rfl, hP31⟩ := hP30
        refine bz_rw_rA (pc := 83) dX1_bestTaker_83 hP31 (fun x_28 hP32 => ?_)
        clear hP31
        refine bz_aload_n (pc := 84) dX1_bestTaker_84 rfl rfl ?_
        obtain ⟨a_31, rfl, hP33⟩ := hP32
        refine bz_kVV (as := [.inr r_18, .inl x_25, .inl x_28, .inr (some a_11)]) (st := []) (ci := 0) (n := 4) (mc := 0) (ms := 0) (bc := bc) (bs := bs) (yc := kX0_putWays) (q := (RX0, TX0, 2)) (b := a_31) (pc := 85) dX1_bestTaker_85 sc_X0_putWays ml_X1_100 im_X0_putWays se_X0_putWays rfl rfl rfl (Nat.le_of_ble_eq_true rfl) hP33 (fun h_30 hP34 => ?_)
        clear hP33
        refine bz_aload_n (pc := 88) dX1_bestTaker_88 rfl rfl ?_
        refine bz_rw_rR (pc := 89) dX1_bestTaker_89 fl_X1_32 hP34 (fun r_32 hP35 => ?_)
        clear hP34
        refine bz_iload (pc := 92) dX1_bestTaker_92 rfl ?_
        refine bz_aload_n (pc := 94) dX1_bestTaker_94 rfl rfl ?_
        refine bz_rw_rR (pc := 95) dX1_bestTaker_95 fl_X1_18 hP35 (fun r_33 hP36 => ?_)
        clear hP35
        refine bz_iload (pc := 98) dX1_bestTaker_98 rfl ?_
        obtain ⟨a_34, rfl, hP37⟩ := hP36
        refine bz_rw_rA (pc := 100) dX1_bestTaker_100 hP37 (fun x_35 hP38 => ?_)
        clear hP37
        refine bz_bipush (pc := 101) dX1_bestTaker_101 cb_25 ?_
        obtain ⟨a_38, rfl, hP39⟩ := hP38
        refine bz_kVV (as := [.inl x5, .inl x_35, .inl 25]) (st := []) (ci := 0) (n := 3) (mc := 0) (ms := 0) (bc := bc) (bs := bs) (yc := kX0_putRider) (q := (RX0, TX0, 2)) (b := a_38) (pc := 103) dX1_bestTaker_103 sc_X0_putRider ml_X1_106 im_X0_putRider se_X0_putRider rfl rfl rfl (Nat.le_of_ble_eq_true rfl) hP39 (fun h_37 hP40 => ?_)
        clear hP39
        refine bz_aload_n (pc := 106) dX1_bestTaker_106 rfl rfl ?_
        refine bz_rw_rR (pc := 107) dX1_bestTaker_107 fl_X1_32 hP40 (fun r_39 hP41 => ?_)
        clear hP40
        refine bz_iconst (pc := 110) dX1_bestTaker_110 ci_0 ?_
        refine bz_aload_n (pc := 111) dX1_bestTaker_111 rfl rfl ?_
        refine bz_rw_rR (pc := 112) dX1_bestTaker_112 fl_X1_28 hP41 (fun r_40 hP42 => ?_)
        clear hP41
        obtain ⟨a_41, rfl, hP43⟩ := hP42
        refine bz_rw_rI (pc := 115) dX1_bestTaker_115 fl_X1_110 hP43 (fun x_42 hP44 => ?_)
        clear hP43
        obtain ⟨a_45, rfl, hP45⟩ := hP44
        refine bz_kVV (as := [.inl 0, .inl x_42]) (st := []) (ci := 0) (n := 2) (mc := 0) (ms := 0) (bc := bc) (bs := bs) (yc := kX0_putTimes) (q := (RX0, TX0, 2)) (b := a_45) (pc := 118) dX1_bestTaker_118 sc_X0_putTimes ml_X1_113 im_X0_putTimes se_X0_putTimes rfl rfl rfl (Nat.le_of_ble_eq_true rfl) hP45 (fun h_44 hP46 => ?_)
        clear hP45
        refine bz_aload_n (pc := 121) dX1_bestTaker_121 rfl rfl ?_
        refine bz_rw_rR (pc := 122) dX1_bestTaker_122 fl_X1_32 hP46 (fun r_46 hP47 => ?_)
        clear hP46
        refine bz_aload_n (pc := 125) dX1_bestTaker_125 rfl rfl ?_
        obtain ⟨a_49, rfl, hP48⟩ := hP47
        refine bz_kIV (as := [.inr r2]) (st := []) (ci := 0) (n := 1) (mc := 0) (ms := 0) (bc := bc) (bs := bs) (yc := kX0_worthOf) (q := (RX0, TX0, 2)) (b := a_49) (pc := 126) dX1_bestTaker_126 sc_X0_worthOf ml_X1_117 im_X0_worthOf se_X0_worthOf rfl rfl rfl (Nat.le_of_ble_eq_true rfl) hP48 (fun x_47 h_48 hP49 => ?_)
        clear hP48
        refine bz_s_istore (pc := 129) dX1_bestTaker_129 (Nat.le_of_ble_eq_true rfl) [some (.inr (some a0)), some (.inr (some a_11)), some (.inr r2), some (.inl x3), some (.inl x4), some (.inl x5), some (.inl x_47)] rfl ?_
        refine bz_iload_n (pc := 131) dX1_bestTaker_131 rfl rfl ?_
        refine bz_iconst (pc := 132) dX1_bestTaker_132 ci_m1 ?_
        refine bz_icmp_eq (tgt := 143) (pc := 133) dX1_bestTaker_133 rfl (fun c => ?_) (fun c => ?_)
        · have hP50 := hP49.1 c
          clear hP49
          refine bz_iload (pc := 143) dX1_bestTaker_143 rfl ?_
          refine bz_s_istore_n (pc := 145) dX1_bestTaker_145 rfl (Nat.le_of_ble_eq_true rfl) [some (.inr (some a0)), some (.inr (some a_11)), some (.inr r2), some (.inl x5), some (.inl x4), some (.inl x5), some (.inl x_47)] rfl ?_
          refine bz_iload (pc := 146) dX1_bestTaker_146 rfl ?_
          refine bz_s_istore (pc := 148) dX1_bestTaker_148 (Nat.le_of_ble_eq_true rfl) [some (.inr (some a0)), some (.inr (some a_11)), some (.inr r2), some (.inl x5), some (.inl x_47), some (.inl x5), some (.inl x_47)] rfl ?_
          refine bz_s_iinc (pc := 150) dX1_bestTaker_150 (Nat.le_of_ble_eq_true rfl) rfl rfl [some (.inr (some a0)), some (.inr (some a_11)), some (.inr r2), some (.inl x5), some (.inl x_47), some (.inl (x5 + 1)), some (.inl x_47)] rfl ?_
          refine bz_goto (tgt := 8) (pc := 153) dX1_bestTaker_153 rfl ?_
          exact hP50
        · have hP51 := hP49.2 c
          clear hP49
          refine bz_iload (pc := 136) dX1_bestTaker_136 rfl ?_
          refine bz_iload (pc := 138) dX1_bestTaker_138 rfl ?_
          refine bz_icmp_le (tgt := 150) (pc := 140) dX1_bestTaker_140 rfl (fun c => ?_) (fun c => ?_)
          · have hP52 := hP51.1 c
            clear hP51
            refine bz_s_iinc (pc := 150) dX1_bestTaker_150 (Nat.le_of_ble_eq_true rfl) rfl rfl [some (.inr (some a0)), some (.inr (some a_11)), some (.inr r2), some (.inl x3), some (.inl x4), some (.inl (x5 + 1)), some (.inl x_47)] rfl ?_
            refine bz_goto (tgt := 8) (pc := 153) dX1_bestTaker_153 rfl ?_
            exact hP52
          · have hP53 := hP51.2 c
            clear hP51
            refine bz_iload (pc := 143) dX1_bestTaker_143 rfl ?_
            refine bz_s_istore_n (pc := 145) dX1_bestTaker_145 rfl (Nat.le_of_ble_eq_true rfl) [some (.inr (some a0)), some (.inr (some a_11)), some (.inr r2), some (.inl x5), some (.inl x4), some (.inl x5), some (.inl x_47)] rfl ?_
            refine bz_iload (pc := 146) dX1_bestTaker_146 rfl ?_
            refine bz_s_istore (pc := 148) dX1_bestTaker_148 (Nat.le_of_ble_eq_true rfl) [some (.inr (some a0)), some (.inr (some a_11)), some (.inr r2), some (.inl x5), some (.inl x_47), some (.inl x5), some (.inl x_47)] rfl ?_
            refine bz_s_iinc (pc := 150) dX1_bestTaker_150 (Nat.le_of_ble_eq_true rfl) rfl rfl [some (.inr (some a0)), some (.inr (some a_11)), some (.inr r2), some (.inl x5), some (.inl x_47), some (.inl (x5 + 1)), some (.inl x_47)] rfl ?_
            refine bz_goto (tgt := 8) (pc := 153) dX1_bestTaker_153 rfl ?_
            exact hP53
      · have hP54 := hP17.2 c
        clear hP17
        refine bz_goto (tgt := 150) (pc := 50) dX1_bestTaker_50 rfl ?_
        refine bz_s_iinc (pc := 150) dX1_bestTaker_150 (Nat.le_of_ble_eq_true rfl) rfl rfl [some (.inr (some a0)), some (.inr (some a_11)), some (.inr r2), some (.inl x3), some (.inl x4), some (.inl (x5 + 1)), u6] rfl ?_
        refine bz_goto (tgt := 8) (pc := 153) dX1_bestTaker_153 rfl ?_
        exact hP54
theorem m_X1_bestTaker {G : bz_G} {l : Launch} {d mc ms : Nat} {F : Option bz_V → bz_H → Prop} (a0 : Nat) (r1 : Option Nat) (r2 : Option Nat) (h : bz_H) (hP : ∀ (κ : bz_K) (bc bs : Nat), κ.2.1 = l → w_X1_bestTaker_0 G κ l d F bc bs a0 r1 r2 h) : bz_Call G l (d + 1) kX1_bestTaker [.inr (some a0), .inr r1, .inr r2] h mc ms F :=
  bz_body (by decide) (Nat.le_of_ble_eq_true rfl) (fun κ hl => g_X1_bestTaker_0 hl a0 r1 r2 h (hP κ mc ms hl))
def w_X1_fewestGiven_0 (G : bz_G) (κ : bz_K) (l : Launch) (d : Nat) (F : Option bz_V → bz_H → Prop) (bc bs : Nat) (a0 : Nat) (h : bz_H) : Prop := bz_rR h a0 1 0 (fun r_1 => bz_nn r_1 (fun a_2 => bz_rI h a_2 10 10 (fun x_3 => bz_J G κ kX1_fewestGiven (d + 1) F bc bs 19 [some (.inr (some a0)), some (.inl (if x_3 = 0 then 0 else 24)), some (.inl 0)] [] h)))
set_option maxRecDepth 20000 in
set_option maxHeartbeats 4000000 in
theorem g_X1_fewestGiven_0 {G : bz_G} {κ : bz_K} {l : Launch} {d : Nat} {F : Option bz_V → bz_H → Prop} {bc bs : Nat} (hl : κ.2.1 = l) (a0 : Nat) (h : bz_H) (hP0 : w_X1_fewestGiven_0 G κ l d F bc bs a0 h) : bz_J G κ kX1_fewestGiven (d + 1) F bc bs 0 [some (.inr (some a0)), none, none] [] h := by
  subst hl
  unfold w_X1_fewestGiven_0 at hP0
  refine bz_aload_n (pc := 0) dX1_fewestGiven_0 rfl rfl ?_
  refine bz_rw_rR (pc := 1) dX1_fewestGiven_1 fl_X1_24 hP0 (fun r_1 hP1 => ?_)
  clear hP0
  obtain ⟨a_2, rfl, hP2⟩ := hP1
  refine bz_rw_rI (pc := 4) dX1_fewestGiven_4 fl_X1_66 hP2 (fun x_3 hP3 => ?_)
  clear hP2
  have hJ : bz_J G κ kX1_fewestGiven (d + 1) F bc bs 16 [some (.inr (some a0)), none, none] [.inl (if x_3 = 0 then 0 else 24)] h := by
    refine bz_s_istore_n (pc := 16) dX1_fewestGiven_16 rfl (Nat.le_of_ble_eq_true rfl) [some (.inr (some a0)), some (.inl (if x_3 = 0 then 0 else 24)), none] rfl ?_
    refine bz_iconst (pc := 17) dX1_fewestGiven_17 ci_0 ?_
    refine bz_s_istore_n (pc := 18) dX1_fewestGiven_18 rfl (Nat.le_of_ble_eq_true rfl) [some (.inr (some a0)), some (.inl (if x_3 = 0 then 0 else 24)), some (.inl 0)] rfl ?_
    exact hP3
  refine bz_if_ne (tgt := 14) (pc := 7) dX1_fewestGiven_7 rfl (fun c => ?_) (fun c => ?_)
  · have e9 : ((if x_3 = 0 then 0 else 24) : Int32) = (24) := if_neg c
    rw [e9] at hJ
    refine bz_bipush (pc := 14) dX1_fewestGiven_14 cb_24 ?_
    exact hJ
  · have e9 : ((if x_3 = 0 then 0 else 24) : Int32) = (0) := if_pos c
    rw [e9] at hJ
    refine bz_iconst (pc := 10) dX1_fewestGiven_10 ci_0 ?_
    refine bz_goto (tgt := 16) (pc := 11) dX1_fewestGiven_11 rfl ?_
    exact hJ
def w_X1_fewestGiven_19 (G : bz_G) (κ : bz_K) (l : Launch) (d : Nat) (F : Option bz_V → bz_H → Prop) (bc bs : Nat) (a0 : Nat) (x1 : Int32) (x2 : Int32) (h : bz_H) : Prop := bz_rR h a0 1 0 (fun r_4 => bz_nn r_4 (fun a_5 => bz_rI h a_5 10 10 (fun x_6 => (x_6 ≤ x2 → F (some (.inl x1)) h) ∧ (¬ (x_6 ≤ x2) → bz_rR h a0 1 5 (fun r_7 => bz_nn r_7 (fun a_8 => bz_rA h a_8 x2 (fun x_9 => bz_J G κ kX1_fewestGiven (d + 1) F bc bs 19 [some (.inr (some a0)), some (.inl (if x_9 < x1 then x_9 else x1)), some (.inl (x2 + 1))] [] h)))))))
set_option maxRecDepth 20000 in
set_option maxHeartbeats 4000000 in
theorem g_X1_fewestGiven_19 {G : bz_G} {κ : bz_K} {l : Launch} {d : Nat} {F : Option bz_V → bz_H → Prop} {bc bs : Nat} (hl : κ.2.1 = l) (a0 : Nat) (x1 : Int32) (x2 : Int32) (h : bz_H) (hP0 : w_X1_fewestGiven_19 G κ l d F bc bs a0 x1 x2 h) : bz_J G κ kX1_fewestGiven (d + 1) F bc bs 19 [some (.inr (some a0)), some (.inl x1), some (.inl x2)] [] h := by
  subst hl
  unfold w_X1_fewestGiven_19 at hP0
  refine bz_iload_n (pc := 19) dX1_fewestGiven_19 rfl rfl ?_
  refine bz_aload_n (pc := 20) dX1_fewestGiven_20 rfl rfl ?_
  refine bz_rw_rR (pc := 21) dX1_fewestGiven_21 fl_X1_24 hP0 (fun r_4 hP1 => ?_)
  clear hP0
  obtain ⟨a_5, rfl, hP2⟩ := hP1
  refine bz_rw_rI (pc := 24) dX1_fewestGiven_24 fl_X1_66 hP2 (fun x_6 hP3 => ?_)
  clear hP2
  refine bz_icmp_ge (tgt := 47) (pc := 27) dX1_fewestGiven_27 rfl (fun c => ?_) (fun c => ?_)
  · have hP4 := hP3.1 c
    clear hP3
    refine bz_iload_n (pc := 47) dX1_fewestGiven_47 rfl rfl ?_
    exact bz_retI (pc := 48) dX1_fewestGiven_48 rfl rfl hP4
  · have hP5 := hP3.2 c
    clear hP3
    refine bz_iload_n (pc := 30) dX1_fewestGiven_30 rfl rfl ?_
    refine bz_aload_n (pc := 31) dX1_fewestGiven_31 rfl rfl ?_
    refine bz_rw_rR (pc := 32) dX1_fewestGiven_32 fl_X1_18 hP5 (fun r_7 hP6 => ?_)
    clear hP5
    refine bz_iload_n (pc := 35) dX1_fewestGiven_35 rfl rfl ?_
    obtain ⟨a_8, rfl, hP7⟩ := hP6
    refine bz_rw_rA (pc := 36) dX1_fewestGiven_36 hP7 (fun x_9 hP8 => ?_)
    clear hP7
    refine bz_mmin (pc := 37) dX1_fewestGiven_37 ml_X1_137 mt_min mt_init mt_code_min (Nat.succ_pos d) (Nat.le_of_ble_eq_true rfl) ?_
    refine bz_s_istore_n (pc := 40) dX1_fewestGiven_40 rfl (Nat.le_of_ble_eq_true rfl) [some (.inr (some a0)), some (.inl (if x_9 < x1 then x_9 else x1)), some (.inl x2)] rfl ?_
    refine bz_s_iinc (pc := 41) dX1_fewestGiven_41 (Nat.le_of_ble_eq_true rfl) rfl rfl [some (.inr (some a0)), some (.inl (if x_9 < x1 then x_9 else x1)), some (.inl (x2 + 1))] rfl ?_
    refine bz_goto (tgt := 19) (pc := 44) dX1_fewestGiven_44 rfl ?_
    exact hP8
theorem m_X1_fewestGiven {G : bz_G} {l : Launch} {d mc ms : Nat} {F : Option bz_V → bz_H → Prop} (a0 : Nat) (h : bz_H) (hP : ∀ (κ : bz_K) (bc bs : Nat), κ.2.1 = l → w_X1_fewestGiven_0 G κ l d F bc bs a0 h) : bz_Call G l (d + 1) kX1_fewestGiven [.inr (some a0)] h mc ms F :=
  bz_body (by decide) (Nat.le_of_ble_eq_true rfl) (fun κ hl => g_X1_fewestGiven_0 hl a0 h (hP κ mc ms hl))
def w_X1_handTo_0 (G : bz_G) (l : Launch) (d : Nat) (F : Option bz_V → bz_H → Prop) (a0 : Nat) (x1 : Int32) (h : bz_H) : Prop := bz_rR h a0 1 3 (fun r_1 => bz_rR h a0 1 1 (fun r_2 => bz_nn r_2 (fun a_3 => bz_rI h a_3 9 8 (fun x_4 => bz_nn r_1 (fun a_5 => bz_wA h a_5 x1 x_4 (fun h_6 => bz_rR h_6 a0 1 4 (fun r_7 => bz_rR h_6 a0 1 1 (fun r_8 => bz_nn r_8 (fun a_9 => bz_rI h_6 a_9 9 7 (fun x_10 => bz_nn r_7 (fun a_11 => bz_wA h_6 a_11 x1 x_10 (fun h_12 => bz_rR h_12 a0 1 5 (fun r_13 => bz_nn r_13 (fun a_14 => bz_rA h_12 a_14 x1 (fun x_15 => bz_wA h_12 a_14 x1 (x_15 + 1) (fun h_16 => bz_rI h_16 a0 1 7 (fun x_17 => bz_wI h_16 a0 1 7 (x_17 + 1) (fun h_18 => bz_rI h_18 a0 1 8 (fun x_19 => bz_rR h_18 a0 1 1 (fun r_20 => bz_nn r_20 (fun a_21 => bz_rI h_18 a_21 9 10 (fun x_22 => bz_wI h_18 a0 1 8 (x_19 + x_22) (fun h_23 => bz_rI h_23 a0 1 9 (fun x_24 => bz_rR h_23 a0 1 1 (fun r_25 => bz_nn r_25 (fun a_26 => bz_rI h_23 a_26 9 7 (fun x_27 => bz_wI h_23 a0 1 9 (if x_24 < x_27 then x_27 else x_24) (fun h_28 => F none h_28))))))))))))))))))))))))))))
set_option maxRecDepth 20000 in
set_option maxHeartbeats 4000000 in
theorem g_X1_handTo_0 {G : bz_G} {κ : bz_K} {l : Launch} {d : Nat} {F : Option bz_V → bz_H → Prop} {bc bs : Nat} (hl : κ.2.1 = l) (a0 : Nat) (x1 : Int32) (h : bz_H) (hP0 : w_X1_handTo_0 G l d F a0 x1 h) : bz_J G κ kX1_handTo (d + 1) F bc bs 0 [some (.inr (some a0)), some (.inl x1)] [] h := by
  subst hl
  unfold w_X1_handTo_0 at hP0
  refine bz_aload_n (pc := 0) dX1_handTo_0 rfl rfl ?_
  refine bz_rw_rR (pc := 1) dX1_handTo_1 fl_X1_9 hP0 (fun r_1 hP1 => ?_)
  clear hP0
  refine bz_iload_n (pc := 4) dX1_handTo_4 rfl rfl ?_
  refine bz_aload_n (pc := 5) dX1_handTo_5 rfl rfl ?_
  refine bz_rw_rR (pc := 6) dX1_handTo_6 fl_X1_28 hP1 (fun r_2 hP2 => ?_)
  clear hP1
  obtain ⟨a_3, rfl, hP3⟩ := hP2
  refine bz_rw_rI (pc := 9) dX1_handTo_9 fl_X1_131 hP3 (fun x_4 hP4 => ?_)
  clear hP3
  obtain ⟨a_5, rfl, hP5⟩ := hP4
  refine bz_rw_wA (pc := 12) dX1_handTo_12 hP5 (fun h_6 hP6 => ?_)
  clear hP5
  refine bz_aload_n (pc := 13) dX1_handTo_13 rfl rfl ?_
  refine bz_rw_rR (pc := 14) dX1_handTo_14 fl_X1_15 hP6 (fun r_7 hP7 => ?_)
  clear hP6
  refine bz_iload_n (pc := 17) dX1_handTo_17 rfl rfl ?_
  refine bz_aload_n (pc := 18) dX1_handTo_18 rfl rfl ?_
  refine bz_rw_rR (pc := 19) dX1_handTo_19 fl_X1_28 hP7 (fun r_8 hP8 => ?_)
  clear hP7
  obtain ⟨a_9, rfl, hP9⟩ := hP8
  refine bz_rw_rI (pc := 22) dX1_handTo_22 fl_X1_134 hP9 (fun x_10 hP10 => ?_)
  clear hP9
  obtain ⟨a_11, rfl, hP11⟩ := hP10
  refine bz_rw_wA (pc := 25) dX1_handTo_25 hP11 (fun h_12 hP12 => ?_)
  clear hP11
  refine bz_aload_n (pc := 26) dX1_handTo_26 rfl rfl ?_
  refine bz_rw_rR (pc := 27) dX1_handTo_27 fl_X1_18 hP12 (fun r_13 hP13 => ?_)
  clear hP12
  refine bz_iload_n (pc := 30) dX1_handTo_30 rfl rfl ?_
  refine bz_dup2 (pc := 31) dX1_handTo_31 ?_
  obtain ⟨a_14, rfl, hP14⟩ := hP13
  refine bz_rw_rA (pc := 32) dX1_handTo_32 hP14 (fun x_15 hP15 => ?_)
  clear hP14
  refine bz_iconst (pc := 33) dX1_handTo_33 ci_1 ?_
  refine bz_iadd (pc := 34) dX1_handTo_34 ?_
  refine bz_rw_wA (pc := 35) dX1_handTo_35 hP15 (fun h_16 hP16 => ?_)
  clear hP15
  refine bz_aload_n (pc := 36) dX1_handTo_36 rfl rfl ?_
  refine bz_dup (pc := 37) dX1_handTo_37 ?_
  refine bz_rw_rI (pc := 38) dX1_handTo_38 fl_X1_81 hP16 (fun x_17 hP17 => ?_)
  clear hP16
  refine bz_iconst (pc := 41) dX1_handTo_41 ci_1 ?_
  refine bz_iadd (pc := 42) dX1_handTo_42 ?_
  refine bz_rw_wI (pc := 43) dX1_handTo_43 fl_X1_81 (fun q h9 => by cases h9; rfl) rfl hP17 (fun h_18 hP18 => ?_)
  clear hP17
  refine bz_aload_n (pc := 46) dX1_handTo_46 rfl rfl ?_
  refine bz_dup (pc := 47) dX1_handTo_47 ?_
  refine bz_rw_rI (pc := 48) dX1_handTo_48 fl_X1_84 hP18 (fun x_19 hP19 => ?_)
  clear hP18
  refine bz_aload_n (pc := 51) dX1_handTo_51 rfl rfl ?_
  refine bz_rw_rR (pc := 52) dX1_handTo_52 fl_X1_28 hP19 (fun r_20 hP20 => ?_)
  clear hP19
  obtain ⟨a_21, rfl, hP21⟩ := hP20
  refine bz_rw_rI (pc := 55) dX1_handTo_55 fl_X1_110 hP21 (fun x_22 hP22 => ?_)
  clear hP21
  refine bz_iadd (pc := 58) dX1_handTo_58 ?_
  refine bz_rw_wI (pc := 59) dX1_handTo_59 fl_X1_84 (fun q h9 => by cases h9; rfl) rfl hP22 (fun h_23 hP23 => ?_)
  clear hP22
  refine bz_aload_n (pc := 62) dX1_handTo_62 rfl rfl ?_
  refine bz_aload_n (pc := 63) dX1_handTo_63 rfl rfl ?_
  refine bz_rw_rI (pc := 64) dX1_handTo_64 fl_X1_87 hP23 (fun x_24 hP24 => ?_)
  clear hP23
  refine bz_aload_n (pc := 67) dX1_handTo_67 rfl rfl ?_
  refine bz_rw_rR (pc := 68) dX1_handTo_68 fl_X1_28 hP24 (fun r_25 hP25 => ?_)
  clear hP24
  obtain ⟨a_26, rfl, hP26⟩ := hP25
  refine bz_rw_rI (pc := 71) dX1_handTo_71 fl_X1_134 hP26 (fun x_27 hP27 => ?_)
  clear hP26
  refine bz_mmax (pc := 74) dX1_handTo_74 ml_X1_121 mt_max mt_init mt_code_max (Nat.succ_pos d) (Nat.le_of_ble_eq_true rfl) ?_
  refine bz_rw_wI (pc := 77) dX1_handTo_77 fl_X1_87 (fun q h9 => by cases h9; rfl) rfl hP27 (fun h_28 hP28 => ?_)
  clear hP27
  exact bz_retV (pc := 80) dX1_handTo_80 rfl hP28
theorem m_X1_handTo {G : bz_G} {l : Launch} {d mc ms : Nat} {F : Option bz_V → bz_H → Prop} (a0 : Nat) (x1 : Int32) (h : bz_H) (hP : w_X1_handTo_0 G l d F a0 x1 h) : bz_Call G l (d + 1) kX1_handTo [.inr (some a0), .inl x1] h mc ms F :=
  bz_body (by decide) (Nat.le_of_ble_eq_true rfl) (fun κ hl => g_X1_handTo_0 hl a0 x1 h hP)
def w_X1_mostGiven_0 (G : bz_G) (κ : bz_K) (l : Launch) (d : Nat) (F : Option bz_V → bz_H → Prop) (bc bs : Nat) (a0 : Nat) (h : bz_H) : Prop := bz_J G κ kX1_mostGiven (d + 1) F bc bs 4 [some (.inr (some a0)), some (.inl 0), some (.inl 0)] [] h
set_option maxRecDepth 20000 in
set_option maxHeartbeats 4000000 in
theorem g_X1_mostGiven_0 {G : bz_G} {κ : bz_K} {l : Launch} {d : Nat} {F : Option bz_V → bz_H → Prop} {bc bs : Nat} (hl : κ.2.1 = l) (a0 : Nat) (h : bz_H) (hP0 : w_X1_mostGiven_0 G κ l d F bc bs a0 h) : bz_J G κ kX1_mostGiven (d + 1) F bc bs 0 [some (.inr (some a0)), none, none] [] h := by
  subst hl
  unfold w_X1_mostGiven_0 at hP0
  refine bz_iconst (pc := 0) dX1_mostGiven_0 ci_0 ?_
  refine bz_s_istore_n (pc := 1) dX1_mostGiven_1 rfl (Nat.le_of_ble_eq_true rfl) [some (.inr (some a0)), some (.inl 0), none] rfl ?_
  refine bz_iconst (pc := 2) dX1_mostGiven_2 ci_0 ?_
  refine bz_s_istore_n (pc := 3) dX1_mostGiven_3 rfl (Nat.le_of_ble_eq_true rfl) [some (.inr (some a0)), some (.inl 0), some (.inl 0)] rfl ?_
  exact hP0
def w_X1_mostGiven_4 (G : bz_G) (κ : bz_K) (l : Launch) (d : Nat) (F : Option bz_V → bz_H → Prop) (bc bs : Nat) (a0 : Nat) (x1 : Int32) (x2 : Int32) (h : bz_H) : Prop := bz_rR h a0 1 0 (fun r_1 => bz_nn r_1 (fun a_2 => bz_rI h a_2 10 10 (fun x_3 => (x_3 ≤ x2 → F (some (.inl x1)) h) ∧ (¬ (x_3 ≤ x2) → bz_rR h a0 1 5 (fun r_4 => bz_nn r_4 (fun a_5 => bz_rA h a_5 x2 (fun x_6 => bz_J G κ kX1_mostGiven (d + 1) F bc bs 4 [some (.inr (some a0)), some (.inl (if x1 < x_6 then x_6 else x1)), some (.inl (x2 + 1))] [] h)))))))
set_option maxRecDepth 20000 in
set_option maxHeartbeats 4000000 in
theorem g_X1_mostGiven_4 {G : bz_G} {κ : bz_K} {l : Launch} {d : Nat} {F : Option bz_V → bz_H → Prop} {bc bs : Nat} (hl : κ.2.1 = l) (a0 : Nat) (x1 : Int32) (x2 : Int32) (h : bz_H) (hP0 : w_X1_mostGiven_4 G κ l d F bc bs a0 x1 x2 h) : bz_J G κ kX1_mostGiven (d + 1) F bc bs 4 [some (.inr (some a0)), some (.inl x1), some (.inl x2)] [] h := by
  subst hl
  unfold w_X1_mostGiven_4 at hP0
  refine bz_iload_n (pc := 4) dX1_mostGiven_4 rfl rfl ?_
  refine bz_aload_n (pc := 5) dX1_mostGiven_5 rfl rfl ?_
  refine bz_rw_rR (pc := 6) dX1_mostGiven_6 fl_X1_24 hP0 (fun r_1 hP1 => ?_)
  clear hP0
  obtain ⟨a_2, rfl, hP2⟩ := hP1
  refine bz_rw_rI (pc := 9) dX1_mostGiven_9 fl_X1_66 hP2 (fun x_3 hP3 => ?_)
  clear hP2
  refine bz_icmp_ge (tgt := 32) (pc := 12) dX1_mostGiven_12 rfl (fun c => ?_) (fun c => ?_)
  · have hP4 := hP3.1 c
    clear hP3
    refine bz_iload_n (pc := 32) dX1_mostGiven_32 rfl rfl ?_
    exact bz_retI (pc := 33) dX1_mostGiven_33 rfl rfl hP4
  · have hP5 := hP3.2 c
    clear hP3
    refine bz_iload_n (pc := 15) dX1_mostGiven_15 rfl rfl ?_
    refine bz_aload_n (pc := 16) dX1_mostGiven_16 rfl rfl ?_
    refine bz_rw_rR (pc := 17) dX1_mostGiven_17 fl_X1_18 hP5 (fun r_4 hP6 => ?_)
    clear hP5
    refine bz_iload_n (pc := 20) dX1_mostGiven_20 rfl rfl ?_
    obtain ⟨a_5, rfl, hP7⟩ := hP6
    refine bz_rw_rA (pc := 21) dX1_mostGiven_21 hP7 (fun x_6 hP8 => ?_)
    clear hP7
    refine bz_mmax (pc := 22) dX1_mostGiven_22 ml_X1_121 mt_max mt_init mt_code_max (Nat.succ_pos d) (Nat.le_of_ble_eq_true rfl) ?_
    refine bz_s_istore_n (pc := 25) dX1_mostGiven_25 rfl (Nat.le_of_ble_eq_true rfl) [some (.inr (some a0)), some (.inl (if x1 < x_6 then x_6 else x1)), some (.inl x2)] rfl ?_
    refine bz_s_iinc (pc := 26) dX1_mostGiven_26 (Nat.le_of_ble_eq_true rfl) rfl rfl [some (.inr (some a0)), some (.inl (if x1 < x_6 then x_6 else x1)), some (.inl (x2 + 1))] rfl ?_
    refine bz_goto (tgt := 4) (pc := 29) dX1_mostGiven_29 rfl ?_
    exact hP8
theorem m_X1_mostGiven {G : bz_G} {l : Launch} {d mc ms : Nat} {F : Option bz_V → bz_H → Prop} (a0 : Nat) (h : bz_H) (hP : ∀ (κ : bz_K) (bc bs : Nat), κ.2.1 = l → w_X1_mostGiven_0 G κ l d F bc bs a0 h) : bz_Call G l (d + 1) kX1_mostGiven [.inr (some a0)] h mc ms F :=
  bz_body (by decide) (Nat.le_of_ble_eq_true rfl) (fun κ hl => g_X1_mostGiven_0 hl a0 h (hP κ mc ms hl))
def w_X1_passBy_0 (G : bz_G) (κ : bz_K) (l : Launch) (d : Nat) (F : Option bz_V → bz_H → Prop) (bc bs : Nat) (a0 : Nat) (r1 : Option Nat) (h : bz_H) : Prop := bz_rc h a0 1 (bz_cV G l d kX1_startAgain [.inr (some a0)] h 0 0 (fun h_2 => bz_J G κ kX1_passBy (d + 1) F bc bs 6 [some (.inr (some a0)), some (.inr r1), some (.inl 0), none, none] [] h_2))
set_option maxRecDepth 20000 in
set_option maxHeartbeats 4000000 in
theorem g_X1_passBy_0 {G : bz_G} {κ : bz_K} {l : Launch} {d : Nat} {F : Option bz_V → bz_H → Prop} {bc bs : Nat} (hl : κ.2.1 = l) (a0 : Nat) (r1 : Option Nat) (h : bz_H) (hP0 : w_X1_passBy_0 G κ l d F bc bs a0 r1 h) : bz_J G κ kX1_passBy (d + 1) F bc bs 0 [some (.inr (some a0)), some (.inr r1), none, none, none] [] h := by
  subst hl
  unfold w_X1_passBy_0 at hP0
  refine bz_aload_n (pc := 0) dX1_passBy_0 rfl rfl ?_
  refine bz_kVV (as := []) (st := []) (ci := 1) (n := 0) (mc := 0) (ms := 0) (bc := bc) (bs := bs) (yc := kX1_startAgain) (q := (RX1, TX1, 10)) (b := a0) (pc := 1) dX1_passBy_1 sc_X1_startAgain ml_X1_36 im_X1_startAgain se_X1_startAgain rfl rfl rfl (Nat.le_of_ble_eq_true rfl) hP0 (fun h_2 hP1 => ?_)
  clear hP0
  refine bz_iconst (pc := 4) dX1_passBy_4 ci_0 ?_
  refine bz_s_istore_n (pc := 5) dX1_passBy_5 rfl (Nat.le_of_ble_eq_true rfl) [some (.inr (some a0)), some (.inr r1), some (.inl 0), none, none] rfl ?_
  exact hP1
def w_X1_passBy_6 (G : bz_G) (κ : bz_K) (l : Launch) (d : Nat) (F : Option bz_V → bz_H → Prop) (bc bs : Nat) (a0 : Nat) (r1 : Option Nat) (x2 : Int32) (u3 : Option bz_V) (u4 : Option bz_V) (h : bz_H) : Prop := bz_rR h a0 1 0 (fun r_3 => bz_nn r_3 (fun a_4 => bz_rI h a_4 10 9 (fun x_5 => (x_5 ≤ x2 → F none h) ∧ (¬ (x_5 ≤ x2) → bz_rR h a0 1 0 (fun r_6 => bz_nn r_6 (fun a_7 => bz_rR h a_7 10 2 (fun r_8 => bz_nn r_8 (fun a_9 => bz_rQ h a_9 x2 (fun r_10 => bz_nn r_10 (fun a_11 => bz_rI h a_11 2 7 (fun x_12 => (¬ x_12 = 2 → bz_rc h a0 1 (bz_cI G l d kX1_bestTaker [.inr (some a0), .inr (some a_11), .inr r1] h 0 0 (fun x_13 h_14 => bz_rR h_14 a0 1 6 (fun r_15 => bz_nn r_15 (fun a_16 => bz_wA h_14 a_16 x2 x_13 (fun h_17 => (x_13 = (-1) → bz_J G κ kX1_passBy (d + 1) F bc bs 6 [some (.inr (some a0)), some (.inr r1), some (.inl (x2 + 1)), some (.inr (some a_11)), some (.inl x_13)] [] h_17) ∧ (¬ (x_13 = (-1)) → bz_rc h_17 a0 1 (bz_cI G l d kX1_planFor [.inr (some a0), .inl x_13, .inr (some a_11)] h_17 0 0 (fun x_18 h_19 => (x_18 = 0 → bz_J G κ kX1_passBy (d + 1) F bc bs 6 [some (.inr (some a0)), some (.inr r1), some (.inl (x2 + 1)), some (.inr (some a_11)), some (.inl x_13)] [] h_19) ∧ (¬ (x_18 = 0) → bz_rc h_19 a0 1 (bz_cV G l d kX1_handTo [.inr (some a0), .inl x_13] h_19 0 0 (fun h_21 => bz_J G κ kX1_passBy (d + 1) F bc bs 6 [some (.inr (some a0)), some (.inr r1), some (.inl (x2 + 1)), some (.inr (some a_11)), some (.inl x_13)] [] h_21)))))))))))) ∧ (x_12 = 2 → bz_rR h a0 1 6 (fun r_22 => bz_nn r_22 (fun a_23 => bz_wA h a_23 x2 (-1) (fun h_24 => (((-1) : Int32) = (-1) → bz_J G κ kX1_passBy (d + 1) F bc bs 6 [some (.inr (some a0)), some (.inr r1), some (.inl (x2 + 1)), some (.inr (some a_11)), some (.inl (-1))] [] h_24) ∧ (¬ (((-1) : Int32) = (-1)) → bz_rc h_24 a0 1 (bz_cI G l d kX1_planFor [.inr (some a0), .inl (-1), .inr (some a_11)] h_24 0 0 (fun x_25 h_26 => (x_25 = 0 → bz_J G κ kX1_passBy (d + 1) F bc bs 6 [some (.inr (some a0)), some (.inr r1), some (.inl (x2 + 1)), some (.inr (some a_11)), some (.inl (-1))] [] h_26) ∧ (¬ (x_25 = 0) → bz_rc h_26 a0 1 (bz_cV G l d kX1_handTo [.inr (some a0), .inl (-1)] h_26 0 0 (fun h_28 => bz_J G κ kX1_passBy (d + 1) F bc bs 6 [some (.inr (some a0)), some (.inr r1), some (.inl (x2 + 1)), some (.inr (some a_11)), some (.inl (-1))] [] h_28)))))))))))))))))))))
set_option maxRecDepth 20000 in
set_option maxHeartbeats 4000000 in
theorem g_X1_passBy_6 {G : bz_G} {κ : bz_K} {l : Launch} {d : Nat} {F : Option bz_V → bz_H → Prop} {bc bs : Nat} (hl : κ.2.1 = l) (a0 : Nat) (r1 : Option Nat) (x2 : Int32) (u3 : Option bz_V) (u4 : Option bz_V) (h : bz_H) (hP0 : w_X1_passBy_6 G κ l d F bc bs a0 r1 x2 u3 u4 h) : bz_J G κ kX1_passBy (d + 1) F bc bs 6 [some (.inr (some a0)), some (.inr r1), some (.inl x2), u3, u4] [] h := by
  subst hl
  unfold w_X1_passBy_6 at hP0
  refine bz_iload_n (pc := 6) dX1_passBy_6 rfl rfl ?_
  refine bz_aload_n (pc := 7) dX1_passBy_7 rfl rfl ?_
  refine bz_rw_rR (pc := 8) dX1_passBy_8 fl_X1_24 hP0 (fun r_3 hP1 => ?_)
  clear hP0
  obtain ⟨a_4, rfl, hP2⟩ := hP1
  refine bz_rw_rI (pc := 11) dX1_passBy_11 fl_X1_39 hP2 (fun x_5 hP3 => ?_)
  clear hP2
  refine bz_icmp_ge (tgt := 83) (pc := 14) dX1_passBy_14 rfl (fun c => ?_) (fun c => ?_)
  · have hP4 := hP3.1 c
    clear hP3
    exact bz_retV (pc := 83) dX1_passBy_83 rfl hP4
  · have hP5 := hP3.2 c
    clear hP3
    refine bz_aload_n (pc := 17) dX1_passBy_17 rfl rfl ?_
    refine bz_rw_rR (pc := 18) dX1_passBy_18 fl_X1_24 hP5 (fun r_6 hP6 => ?_)
    clear hP5
    obtain ⟨a_7, rfl, hP7⟩ := hP6
    refine bz_rw_rR (pc := 21) dX1_passBy_21 fl_X1_45 hP7 (fun r_8 hP8 => ?_)
    clear hP7
    refine bz_iload_n (pc := 24) dX1_passBy_24 rfl rfl ?_
    obtain ⟨a_9, rfl, hP9⟩ := hP8
    refine bz_rw_ldq (pc := 25) dX1_passBy_25 hP9 (fun r_10 hP10 => ?_)
    clear hP9
    refine bz_s_astore_n (pc := 26) dX1_passBy_26 rfl (Nat.le_of_ble_eq_true rfl) [some (.inr (some a0)), some (.inr r1), some (.inl x2), some (.inr r_10), u4] rfl ?_
    refine bz_aload_n (pc := 27) dX1_passBy_27 rfl rfl ?_
    obtain ⟨a_11, rfl, hP11⟩ := hP10
    refine bz_rw_rI (pc := 28) dX1_passBy_28 fl_X1_49 hP11 (fun x_12 hP12 => ?_)
    clear hP11
    refine bz_iconst (pc := 31) dX1_passBy_31 ci_2 ?_
    refine bz_icmp_ne (tgt := 39) (pc := 32) dX1_passBy_32 rfl (fun c => ?_) (fun c => ?_)
    · have hP13 := hP12.1 c
      clear hP12
      refine bz_aload_n (pc := 39) dX1_passBy_39 rfl rfl ?_
      refine bz_aload_n (pc := 40) dX1_passBy_40 rfl rfl ?_
      refine bz_aload_n (pc := 41) dX1_passBy_41 rfl rfl ?_
      refine bz_kIV (as := [.inr (some a_11), .inr r1]) (st := []) (ci := 1) (n := 2) (mc := 0) (ms := 0) (bc := bc) (bs := bs) (yc := kX1_bestTaker) (q := (RX1, TX1, 10)) (b := a0) (pc := 42) dX1_passBy_42 sc_X1_bestTaker ml_X1_54 im_X1_bestTaker se_X1_bestTaker rfl rfl rfl (Nat.le_of_ble_eq_true rfl) hP13 (fun x_13 h_14 hP14 => ?_)
      clear hP13
      refine bz_s_istore (pc := 45) dX1_passBy_45 (Nat.le_of_ble_eq_true rfl) [some (.inr (some a0)), some (.inr r1), some (.inl x2), some (.inr (some a_11)), some (.inl x_13)] rfl ?_
      refine bz_aload_n (pc := 47) dX1_passBy_47 rfl rfl ?_
      refine bz_rw_rR (pc := 48) dX1_passBy_48 fl_X1_21 hP14 (fun r_15 hP15 => ?_)
      clear hP14
      refine bz_iload_n (pc := 51) dX1_passBy_51 rfl rfl ?_
      refine bz_iload (pc := 52) dX1_passBy_52 rfl ?_
      obtain ⟨a_16, rfl, hP16⟩ := hP15
      refine bz_rw_wA (pc := 54) dX1_passBy_54 hP16 (fun h_17 hP17 => ?_)
      clear hP16
      refine bz_iload (pc := 55) dX1_passBy_55 rfl ?_
      refine bz_iconst (pc := 57) dX1_passBy_57 ci_m1 ?_
      refine bz_icmp_eq (tgt := 77) (pc := 58) dX1_passBy_58 rfl (fun c => ?_) (fun c => ?_)
      · have hP18 := hP17.1 c
        clear hP17
        refine bz_s_iinc (pc := 77) dX1_passBy_77 (Nat.le_of_ble_eq_true rfl) rfl rfl [some (.inr (some a0)), some (.inr r1), some (.inl (x2 + 1)), some (.inr (some a_11)), some (.inl x_13)] rfl ?_
        refine bz_goto (tgt := 6) (pc := 80) dX1_passBy_80 rfl ?_
        exact hP18
      · have hP19 := hP17.2 c
        clear hP17
        refine bz_aload_n (pc := 61) dX1_passBy_61 rfl rfl ?_
        refine bz_iload (pc := 62) dX1_passBy_62 rfl ?_
        refine bz_aload_n (pc := 64) dX1_passBy_64 rfl rfl ?_
        refine bz_kIV (as := [.inl x_13, .inr (some a_11)]) (st := []) (ci := 1) (n := 2) (mc := 0) (ms := 0) (bc := bc) (bs := bs) (yc := kX1_planFor) (q := (RX1, TX1, 10)) (b := a0) (pc := 65) dX1_passBy_65 sc_X1_planFor ml_X1_58 im_X1_planFor se_X1_planFor rfl rfl rfl (Nat.le_of_ble_eq_true rfl) hP19 (fun x_18 h_19 hP20 => ?_)
        clear hP19
        refine bz_if_eq (tgt := 77) (pc := 68) dX1_passBy_68 rfl (fun c => ?_) (fun c => ?_)
        · have hP21 := hP20.1 c
          clear hP20
          refine bz_s_iinc (pc := 77) dX1_passBy_77 (Nat.le_of_ble_eq_true rfl) rfl rfl [some (.inr (some a0)), some (.inr r1), some (.inl (x2 + 1)), some (.inr (some a_11)), some (.inl x_13)] rfl ?_
          refine bz_goto (tgt := 6) (pc := 80) dX1_passBy_80 rfl ?_
          exact hP21
        · have hP22 := hP20.2 c
          clear hP20
          refine bz_aload_n (pc := 71) dX1_passBy_71 rfl rfl ?_
          refine bz_iload (pc := 72) dX1_passBy_72 rfl ?_
          refine bz_kVV (as := [.inl x_13]) (st := []) (ci := 1) (n := 1) (mc := 0) (ms := 0) (bc := bc) (bs := bs) (yc := kX1_handTo) (q := (RX1, TX1, 10)) (b := a0) (pc := 74) dX1_passBy_74 sc_X1_handTo ml_X1_62 im_X1_handTo se_X1_handTo rfl rfl rfl (Nat.le_of_ble_eq_true rfl) hP22 (fun h_21 hP23 => ?_)
          clear hP22
          refine bz_s_iinc (pc := 77) dX1_passBy_77 (Nat.le_of_ble_eq_true rfl) rfl rfl [some (.inr (some a0)), some (.inr r1), some (.inl (x2 + 1)), some (.inr (some a_11)), some (.inl x_13)] rfl ?_
          refine bz_goto (tgt := 6) (pc := 80) dX1_passBy_80 rfl ?_
          exact hP23
    · have hP24 := hP12.2 c
      clear hP12
      refine bz_iconst (pc := 35) dX1_passBy_35 ci_m1 ?_
      refine bz_goto (tgt := 45) (pc := 36) dX1_passBy_36 rfl ?_
      refine bz_s_istore (pc := 45) dX1_passBy_45 (Nat.le_of_ble_eq_true rfl) [some (.inr (some a0)), some (.inr r1), some (.inl x2), some (.inr (some a_11)), some (.inl (-1))] rfl ?_
      refine bz_aload_n (pc := 47) dX1_passBy_47 rfl rfl ?_
      refine bz_rw_rR (pc := 48) dX1_passBy_48 fl_X1_21 hP24 (fun r_22 hP25 => ?_)
      clear hP24
      refine bz_iload_n (pc := 51) dX1_passBy_51 rfl rfl ?_
      refine bz_iload (pc := 52) dX1_passBy_52 rfl ?_
      obtain ⟨a_23, rfl, hP26⟩ := hP25
      refine bz_rw_wA (pc := 54) dX1_passBy_54 hP26 (fun h_24 hP27 => ?_)
      clear hP26
      refine bz_iload (pc := 55) dX1_passBy_55 rfl ?_
      refine bz_iconst (pc := 57) dX1_passBy_57 ci_m1 ?_
      refine bz_icmp_eq (tgt := 77) (pc := 58) dX1_passBy_58 rfl (fun c => ?_) (fun c => ?_)
      · have hP28 := hP27.1 c
        clear hP27
        refine bz_s_iinc (pc := 77) dX1_passBy_77 (Nat.le_of_ble_eq_true rfl) rfl rfl [some (.inr (some a0)), some (.inr r1), some (.inl (x2 + 1)), some (.inr (some a_11)), some (.inl (-1))] rfl ?_
        refine bz_goto (tgt := 6) (pc := 80) dX1_passBy_80 rfl ?_
        exact hP28
      · have hP29 := hP27.2 c
        clear hP27
        refine bz_aload_n (pc := 61) dX1_passBy_61 rfl rfl ?_
        refine bz_iload (pc := 62) dX1_passBy_62 rfl ?_
        refine bz_aload_n (pc := 64) dX1_passBy_64 rfl rfl ?_
        refine bz_kIV (as := [.inl (-1), .inr (some a_11)]) (st := []) (ci := 1) (n := 2) (mc := 0) (ms := 0) (bc := bc) (bs := bs) (yc := kX1_planFor) (q := (RX1, TX1, 10)) (b := a0) (pc := 65) dX1_passBy_65 sc_X1_planFor ml_X1_58 im_X1_planFor se_X1_planFor rfl rfl rfl (Nat.le_of_ble_eq_true rfl) hP29 (fun x_25 h_26 hP30 => ?_)
        clear hP29
        refine bz_if_eq (tgt := 77) (pc := 68) dX1_passBy_68 rfl (fun c => ?_) (fun c => ?_)
        · have hP31 := hP30.1 c
          clear hP30
          refine bz_s_iinc (pc := 77) dX1_passBy_77 (Nat.le_of_ble_eq_true rfl) rfl rfl [some (.inr (some a0)), some (.inr r1), some (.inl (x2 + 1)), some (.inr (some a_11)), some (.inl (-1))] rfl ?_
          refine bz_goto (tgt := 6) (pc := 80) dX1_passBy_80 rfl ?_
          exact hP31
        · have hP32 := hP30.2 c
          clear hP30
          refine bz_aload_n (pc := 71) dX1_passBy_71 rfl rfl ?_
          refine bz_iload (pc := 72) dX1_passBy_72 rfl ?_
          refine bz_kVV (as := [.inl (-1)]) (st := []) (ci := 1) (n := 1) (mc := 0) (ms := 0) (bc := bc) (bs := bs) (yc := kX1_handTo) (q := (RX1, TX1, 10)) (b := a0) (pc := 74) dX1_passBy_74 sc_X1_handTo ml_X1_62 im_X1_handTo se_X1_handTo rfl rfl rfl (Nat.le_of_ble_eq_true rfl) hP32 (fun h_28 hP33 => ?_)
          clear hP32
          refine bz_s_iinc (pc := 77) dX1_passBy_77 (Nat.le_of_ble_eq_true rfl) rfl rfl [some (.inr (some a0)), some (.inr r1), some (.inl (x2 + 1)), some (.inr (some a_11)), some (.inl (-1))] rfl ?_
          refine bz_goto (tgt := 6) (pc := 80) dX1_passBy_80 rfl ?_
          exact hP33
theorem m_X1_passBy {G : bz_G} {l : Launch} {d mc ms : Nat} {F : Option bz_V → bz_H → Prop} (a0 : Nat) (r1 : Option Nat) (h : bz_H) (hP : ∀ (κ : bz_K) (bc bs : Nat), κ.2.1 = l → w_X1_passBy_0 G κ l d F bc bs a0 r1 h) : bz_Call G l (d + 1) kX1_passBy [.inr (some a0), .inr r1] h mc ms F :=
  bz_body (by decide) (Nat.le_of_ble_eq_true rfl) (fun κ hl => g_X1_passBy_0 hl a0 r1 h (hP κ mc ms hl))
def w_X1_planFor_0 (G : bz_G) (l : Launch) (d : Nat) (F : Option bz_V → bz_H → Prop) (a0 : Nat) (x1 : Int32) (r2 : Option Nat) (h : bz_H) : Prop := bz_rR h a0 1 4 (fun r_1 => bz_nn r_1 (fun a_2 => bz_rA h a_2 x1 (fun x_3 => bz_nn r2 (fun a_4 => bz_rI h a_4 2 3 (fun x_5 => bz_rR h a0 1 1 (fun r_6 => bz_rR h a0 1 0 (fun r_7 => bz_nn r_7 (fun a_8 => bz_rR h a_8 10 3 (fun r_9 => bz_nn r_9 (fun a_10 => bz_rQ h a_10 x1 (fun r_11 => bz_nn r_11 (fun a_12 => bz_rI h a_12 3 1 (fun x_13 => bz_rR h a0 1 3 (fun r_14 => bz_nn r_14 (fun a_15 => bz_rA h a_15 x1 (fun x_16 => bz_nn r_6 (fun a_19 => bz_rc h a_19 9 (bz_cI G l d kX9_planOne [.inr (some a_19), .inl x_13, .inl x_16, .inl (if x_3 < x_5 then x_5 else x_3), .inr (some a_4)] h 0 0 (fun x_17 h_18 => bz_b x_17 (F (some (.inl x_17)) h_18))))))))))))))))))))
set_option maxRecDepth 20000 in
set_option maxHeartbeats 4000000 in
theorem g_X1_planFor_0 {G : bz_G} {κ : bz_K} {l : Launch} {d : Nat} {F : Option bz_V → bz_H → Prop} {bc bs : Nat} (hl : κ.2.1 = l) (a0 : Nat) (x1 : Int32) (r2 : Option Nat) (h : bz_H) (hP0 : w_X1_planFor_0 G l d F a0 x1 r2 h) : bz_J G κ kX1_planFor (d + 1) F bc bs 0 [some (.inr (some a0)), some (.inl x1), some (.inr r2), none] [] h := by
  subst hl
  unfold w_X1_planFor_0 at hP0
  refine bz_aload_n (pc := 0) dX1_planFor_0 rfl rfl ?_
  refine bz_rw_rR (pc := 1) dX1_planFor_1 fl_X1_15 hP0 (fun r_1 hP1 => ?_)
  clear hP0
  refine bz_iload_n (pc := 4) dX1_planFor_4 rfl rfl ?_
  obtain ⟨a_2, rfl, hP2⟩ := hP1
  refine bz_rw_rA (pc := 5) dX1_planFor_5 hP2 (fun x_3 hP3 => ?_)
  clear hP2
  refine bz_aload_n (pc := 6) dX1_planFor_6 rfl rfl ?_
  obtain ⟨a_4, rfl, hP4⟩ := hP3
  refine bz_rw_rI (pc := 7) dX1_planFor_7 fl_X1_90 hP4 (fun x_5 hP5 => ?_)
  clear hP4
  refine bz_mmax (pc := 10) dX1_planFor_10 ml_X1_121 mt_max mt_init mt_code_max (Nat.succ_pos d) (Nat.le_of_ble_eq_true rfl) ?_
  refine bz_s_istore_n (pc := 13) dX1_planFor_13 rfl (Nat.le_of_ble_eq_true rfl) [some (.inr (some a0)), some (.inl x1), some (.inr (some a_4)), some (.inl (if x_3 < x_5 then x_5 else x_3))] rfl ?_
  refine bz_aload_n (pc := 14) dX1_planFor_14 rfl rfl ?_
  refine bz_rw_rR (pc := 15) dX1_planFor_15 fl_X1_28 hP5 (fun r_6 hP6 => ?_)
  clear hP5
  refine bz_aload_n (pc := 18) dX1_planFor_18 rfl rfl ?_
  refine bz_rw_rR (pc := 19) dX1_planFor_19 fl_X1_24 hP6 (fun r_7 hP7 => ?_)
  clear hP6
  obtain ⟨a_8, rfl, hP8⟩ := hP7
  refine bz_rw_rR (pc := 22) dX1_planFor_22 fl_X1_69 hP8 (fun r_9 hP9 => ?_)
  clear hP8
  refine bz_iload_n (pc := 25) dX1_planFor_25 rfl rfl ?_
  obtain ⟨a_10, rfl, hP10⟩ := hP9
  refine bz_rw_ldq (pc := 26) dX1_planFor_26 hP10 (fun r_11 hP11 => ?_)
  clear hP10
  obtain ⟨a_12, rfl, hP12⟩ := hP11
  refine bz_rw_rI (pc := 27) dX1_planFor_27 fl_X1_97 hP12 (fun x_13 hP13 => ?_)
  clear hP12
  refine bz_aload_n (pc := 30) dX1_planFor_30 rfl rfl ?_
  refine bz_rw_rR (pc := 31) dX1_planFor_31 fl_X1_9 hP13 (fun r_14 hP14 => ?_)
  clear hP13
  refine bz_iload_n (pc := 34) dX1_planFor_34 rfl rfl ?_
  obtain ⟨a_15, rfl, hP15⟩ := hP14
  refine bz_rw_rA (pc := 35) dX1_planFor_35 hP15 (fun x_16 hP16 => ?_)
  clear hP15
  refine bz_iload_n (pc := 36) dX1_planFor_36 rfl rfl ?_
  refine bz_aload_n (pc := 37) dX1_planFor_37 rfl rfl ?_
  obtain ⟨a_19, rfl, hP17⟩ := hP16
  refine bz_kIV (as := [.inl x_13, .inl x_16, .inl (if x_3 < x_5 then x_5 else x_3), .inr (some a_4)]) (st := []) (ci := 9) (n := 4) (mc := 0) (ms := 0) (bc := bc) (bs := bs) (yc := kX9_planOne) (q := (RX9, TX9, 11)) (b := a_19) (pc := 38) dX1_planFor_38 sc_X9_planOne ml_X1_127 im_X9_planOne se_X9_planOne rfl rfl rfl (Nat.le_of_ble_eq_true rfl) hP17 (fun x_17 h_18 hP18 => ?_)
  clear hP17
  obtain ⟨hb, hP19⟩ := hP18
  exact bz_retI (pc := 41) dX1_planFor_41 rfl (by rcases hb with hb | hb <;> rw [hb] <;> rfl) hP19
theorem m_X1_planFor {G : bz_G} {l : Launch} {d mc ms : Nat} {F : Option bz_V → bz_H → Prop} (a0 : Nat) (x1 : Int32) (r2 : Option Nat) (h : bz_H) (hP : w_X1_planFor_0 G l d F a0 x1 r2 h) : bz_Call G l (d + 1) kX1_planFor [.inr (some a0), .inl x1, .inr r2] h mc ms F :=
  bz_body (by decide) (Nat.le_of_ble_eq_true rfl) (fun κ hl => g_X1_planFor_0 hl a0 x1 r2 h hP)
def w_X1_startAgain_0 (G : bz_G) (κ : bz_K) (l : Launch) (d : Nat) (F : Option bz_V → bz_H → Prop) (bc bs : Nat) (a0 : Nat) (h : bz_H) : Prop := bz_J G κ kX1_startAgain (d + 1) F bc bs 2 [some (.inr (some a0)), some (.inl 0)] [] h
set_option maxRecDepth 20000 in
set_option maxHeartbeats 4000000 in
theorem g_X1_startAgain_0 {G : bz_G} {κ : bz_K} {l : Launch} {d : Nat} {F : Option bz_V → bz_H → Prop} {bc bs : Nat} (hl : κ.2.1 = l) (a0 : Nat) (h : bz_H) (hP0 : w_X1_startAgain_0 G κ l d F bc bs a0 h) : bz_J G κ kX1_startAgain (d + 1) F bc bs 0 [some (.inr (some a0)), none] [] h := by
  subst hl
  unfold w_X1_startAgain_0 at hP0
  refine bz_iconst (pc := 0) dX1_startAgain_0 ci_0 ?_
  refine bz_s_istore_n (pc := 1) dX1_startAgain_1 rfl (Nat.le_of_ble_eq_true rfl) [some (.inr (some a0)), some (.inl 0)] rfl ?_
  exact hP0
def w_X1_startAgain_2 (G : bz_G) (κ : bz_K) (l : Launch) (d : Nat) (F : Option bz_V → bz_H → Prop) (bc bs : Nat) (a0 : Nat) (x1 : Int32) (h : bz_H) : Prop := bz_rR h a0 1 0 (fun r_1 => bz_nn r_1 (fun a_2 => bz_rI h a_2 10 10 (fun x_3 => (x_3 ≤ x1 → bz_wI h a0 1 7 0 (fun h_4 => bz_wI h_4 a0 1 8 0 (fun h_5 => bz_wI h_5 a0 1 9 0 (fun h_6 => F none h_6)))) ∧ (¬ (x_3 ≤ x1) → bz_rR h a0 1 3 (fun r_7 => bz_rR h a0 1 0 (fun r_8 => bz_nn r_8 (fun a_9 => bz_rR h a_9 10 3 (fun r_10 => bz_nn r_10 (fun a_11 => bz_rQ h a_11 x1 (fun r_12 => bz_nn r_12 (fun a_13 => bz_rI h a_13 3 2 (fun x_14 => bz_nn r_7 (fun a_15 => bz_wA h a_15 x1 x_14 (fun h_16 => bz_rR h_16 a0 1 4 (fun r_17 => bz_rR h_16 a0 1 0 (fun r_18 => bz_nn r_18 (fun a_19 => bz_rR h_16 a_19 10 3 (fun r_20 => bz_nn r_20 (fun a_21 => bz_rQ h_16 a_21 x1 (fun r_22 => bz_nn r_22 (fun a_23 => bz_rI h_16 a_23 3 3 (fun x_24 => bz_nn r_17 (fun a_25 => bz_wA h_16 a_25 x1 x_24 (fun h_26 => bz_rR h_26 a0 1 5 (fun r_27 => bz_nn r_27 (fun a_28 => bz_wA h_26 a_28 x1 0 (fun h_29 => bz_J G κ kX1_startAgain (d + 1) F bc bs 2 [some (.inr (some a0)), some (.inl (x1 + 1))] [] h_29)))))))))))))))))))))))))))
set_option maxRecDepth 20000 in
set_option maxHeartbeats 4000000 in
theorem g_X1_startAgain_2 {G : bz_G} {κ : bz_K} {l : Launch} {d : Nat} {F : Option bz_V → bz_H → Prop} {bc bs : Nat} (hl : κ.2.1 = l) (a0 : Nat) (x1 : Int32) (h : bz_H) (hP0 : w_X1_startAgain_2 G κ l d F bc bs a0 x1 h) : bz_J G κ kX1_startAgain (d + 1) F bc bs 2 [some (.inr (some a0)), some (.inl x1)] [] h := by
  subst hl
  unfold w_X1_startAgain_2 at hP0
  refine bz_iload_n (pc := 2) dX1_startAgain_2 rfl rfl ?_
  refine bz_aload_n (pc := 3) dX1_startAgain_3 rfl rfl ?_
  refine bz_rw_rR (pc := 4) dX1_startAgain_4 fl_X1_24 hP0 (fun r_1 hP1 => ?_)
  clear hP0
  obtain ⟨a_2, rfl, hP2⟩ := hP1
  refine bz_rw_rI (pc := 7) dX1_startAgain_7 fl_X1_66 hP2 (fun x_3 hP3 => ?_)
  clear hP2
  refine bz_icmp_ge (tgt := 62) (pc := 10) dX1_startAgain_10 rfl (fun c => ?_) (fun c => ?_)
  · have hP4 := hP3.1 c
    clear hP3
    refine bz_aload_n (pc := 62) dX1_startAgain_62 rfl rfl ?_
    refine bz_iconst (pc := 63) dX1_startAgain_63 ci_0 ?_
    refine bz_rw_wI (pc := 64) dX1_startAgain_64 fl_X1_81 (fun q h9 => by cases h9; rfl) rfl hP4 (fun h_4 hP5 => ?_)
    clear hP4
    refine bz_aload_n (pc := 67) dX1_startAgain_67 rfl rfl ?_
    refine bz_iconst (pc := 68) dX1_startAgain_68 ci_0 ?_
    refine bz_rw_wI (pc := 69) dX1_startAgain_69 fl_X1_84 (fun q h9 => by cases h9; rfl) rfl hP5 (fun h_5 hP6 => ?_)
    clear hP5
    refine bz_aload_n (pc := 72) dX1_startAgain_72 rfl rfl ?_
    refine bz_iconst (pc := 73) dX1_startAgain_73 ci_0 ?_
    refine bz_rw_wI (pc := 74) dX1_startAgain_74 fl_X1_87 (fun q h9 => by cases h9; rfl) rfl hP6 (fun h_6 hP7 => ?_)
    clear hP6
    exact bz_retV (pc := 77) dX1_startAgain_77 rfl hP7
  · have hP8 := hP3.2 c
    clear hP3
    refine bz_aload_n (pc := 13) dX1_startAgain_13 rfl rfl ?_
    refine bz_rw_rR (pc := 14) dX1_startAgain_14 fl_X1_9 hP8 (fun r_7 hP9 => ?_)
    clear hP8
    refine bz_iload_n (pc := 17) dX1_startAgain_17 rfl rfl ?_
    refine bz_aload_n (pc := 18) dX1_startAgain_18 rfl rfl ?_
    refine bz_rw_rR (pc := 19) dX1_startAgain_19 fl_X1_24 hP9 (fun r_8 hP10 => ?_)
    clear hP9
    obtain ⟨a_9, rfl, hP11⟩ := hP10
    refine bz_rw_rR (pc := 22) dX1_startAgain_22 fl_X1_69 hP11 (fun r_10 hP12 => ?_)
    clear hP11
    refine bz_iload_n (pc := 25) dX1_startAgain_25 rfl rfl ?_
    obtain ⟨a_11, rfl, hP13⟩ := hP12
    refine bz_rw_ldq (pc := 26) dX1_startAgain_26 hP13 (fun r_12 hP14 => ?_)
    clear hP13
    obtain ⟨a_13, rfl, hP15⟩ := hP14
    refine bz_rw_rI (pc := 27) dX1_startAgain_27 fl_X1_73 hP15 (fun x_14 hP16 => ?_)
    clear hP15
    obtain ⟨a_15, rfl, hP17⟩ := hP16
    refine bz_rw_wA (pc := 30) dX1_startAgain_30 hP17 (fun h_16 hP18 => ?_)
    clear hP17
    refine bz_aload_n (pc := 31) dX1_startAgain_31 rfl rfl ?_
    refine bz_rw_rR (pc := 32) dX1_startAgain_32 fl_X1_15 hP18 (fun r_17 hP19 => ?_)
    clear hP18
    refine bz_iload_n (pc := 35) dX1_startAgain_35 rfl rfl ?_
    refine bz_aload_n (pc := 36) dX1_startAgain_36 rfl rfl ?_
    refine bz_rw_rR (pc := 37) dX1_startAgain_37 fl_X1_24 hP19 (fun r_18 hP20 => ?_)
    clear hP19
    obtain ⟨a_19, rfl, hP21⟩ := hP20
    refine bz_rw_rR (pc := 40) dX1_startAgain_40 fl_X1_69 hP21 (fun r_20 hP22 => ?_)
    clear hP21
    refine bz_iload_n (pc := 43) dX1_startAgain_43 rfl rfl ?_
    obtain ⟨a_21, rfl, hP23⟩ := hP22
    refine bz_rw_ldq (pc := 44) dX1_startAgain_44 hP23 (fun r_22 hP24 => ?_)
    clear hP23
    obtain ⟨a_23, rfl, hP25⟩ := hP24
    refine bz_rw_rI (pc := 45) dX1_startAgain_45 fl_X1_78 hP25 (fun x_24 hP26 => ?_)
    clear hP25
    obtain ⟨a_25, rfl, hP27⟩ := hP26
    refine bz_rw_wA (pc := 48) dX1_startAgain_48 hP27 (fun h_26 hP28 => ?_)
    clear hP27
    refine bz_aload_n (pc := 49) dX1_startAgain_49 rfl rfl ?_
    refine bz_rw_rR (pc := 50) dX1_startAgain_50 fl_X1_18 hP28 (fun r_27 hP29 => ?_)
    clear hP28
    refine bz_iload_n (pc := 53) dX1_startAgain_53 rfl rfl ?_
    refine bz_iconst (pc := 54) dX1_startAgain_54 ci_0 ?_
    obtain ⟨a_28, rfl, hP30⟩ := hP29
    refine bz_rw_wA (pc := 55) dX1_startAgain_55 hP30 (fun h_29 hP31 => ?_)
    clear hP30
    refine bz_s_iinc (pc := 56) dX1_startAgain_56 (Nat.le_of_ble_eq_true rfl) rfl rfl [some (.inr (some a0)), some (.inl (x1 + 1))] rfl ?_
    refine bz_goto (tgt := 2) (pc := 59) dX1_startAgain_59 rfl ?_
    exact hP31
theorem m_X1_startAgain {G : bz_G} {l : Launch} {d mc ms : Nat} {F : Option bz_V → bz_H → Prop} (a0 : Nat) (h : bz_H) (hP : ∀ (κ : bz_K) (bc bs : Nat), κ.2.1 = l → w_X1_startAgain_0 G κ l d F bc bs a0 h) : bz_Call G l (d + 1) kX1_startAgain [.inr (some a0)] h mc ms F :=
  bz_body (by decide) (Nat.le_of_ble_eq_true rfl) (fun κ hl => g_X1_startAgain_0 hl a0 h (hP κ mc ms hl))
def w_X2_becomeGiven_0 (G : bz_G) (l : Launch) (d : Nat) (F : Option bz_V → bz_H → Prop) (a0 : Nat) (x1 : Int32) (x2 : Int32) (x3 : Int32) (x4 : Int32) (h : bz_H) : Prop := bz_wI h a0 2 7 1 (fun h_1 => bz_wI h_1 a0 2 8 x1 (fun h_2 => bz_wI h_2 a0 2 9 x2 (fun h_3 => bz_wI h_3 a0 2 10 x3 (fun h_4 => bz_wI h_4 a0 2 13 x4 (fun h_5 => bz_rc h_5 a0 2 (bz_cI G l d kX2_lateAt [.inr (some a0), .inl x3] h_5 0 0 (fun x_6 h_7 => bz_wI h_7 a0 2 11 x_6 (fun h_8 => bz_rc h_8 a0 2 (bz_cI G l d kX2_lackBy [.inr (some a0), .inl 0] h_8 0 0 (fun x_9 h_10 => bz_rc h_10 a0 2 (bz_cI G l d kX2_lackBy [.inr (some a0), .inl 1] h_10 0 0 (fun x_11 h_12 => bz_rc h_12 a0 2 (bz_cI G l d kX2_lackBy [.inr (some a0), .inl 2] h_12 0 0 (fun x_13 h_14 => bz_wI h_14 a0 2 12 (if 0 < (50 - ((x_9 + x_11) + x_13)) then 50 - ((x_9 + x_11) + x_13) else 0) (fun h_15 => F none h_15)))))))))))))))
set_option maxRecDepth 20000 in
set_option maxHeartbeats 4000000 in
theorem g_X2_becomeGiven_0 {G : bz_G} {κ : bz_K} {l : Launch} {d : Nat} {F : Option bz_V → bz_H → Prop} {bc bs : Nat} (hl : κ.2.1 = l) (a0 : Nat) (x1 : Int32) (x2 : Int32) (x3 : Int32) (x4 : Int32) (h : bz_H) (hP0 : w_X2_becomeGiven_0 G l d F a0 x1 x2 x3 x4 h) : bz_J G κ kX2_becomeGiven (d + 1) F bc bs 0 [some (.inr (some a0)), some (.inl x1), some (.inl x2), some (.inl x3), some (.inl x4), none] [] h := by
  subst hl
  unfold w_X2_becomeGiven_0 at hP0
  refine bz_aload_n (pc := 0) dX2_becomeGiven_0 rfl rfl ?_
  refine bz_iconst (pc := 1) dX2_becomeGiven_1 ci_1 ?_
  refine bz_rw_wI (pc := 2) dX2_becomeGiven_2 fl_X2_9 (fun q h9 => by cases h9; rfl) rfl hP0 (fun h_1 hP1 => ?_)
  clear hP0
  refine bz_aload_n (pc := 5) dX2_becomeGiven_5 rfl rfl ?_
  refine bz_iload_n (pc := 6) dX2_becomeGiven_6 rfl rfl ?_
  refine bz_rw_wI (pc := 7) dX2_becomeGiven_7 fl_X2_15 (fun q h9 => by cases h9; rfl) rfl hP1 (fun h_2 hP2 => ?_)
  clear hP1
  refine bz_aload_n (pc := 10) dX2_becomeGiven_10 rfl rfl ?_
  refine bz_iload_n (pc := 11) dX2_becomeGiven_11 rfl rfl ?_
  refine bz_rw_wI (pc := 12) dX2_becomeGiven_12 fl_X2_18 (fun q h9 => by cases h9; rfl) rfl hP2 (fun h_3 hP3 => ?_)
  clear hP2
  refine bz_aload_n (pc := 15) dX2_becomeGiven_15 rfl rfl ?_
  refine bz_iload_n (pc := 16) dX2_becomeGiven_16 rfl rfl ?_
  refine bz_rw_wI (pc := 17) dX2_becomeGiven_17 fl_X2_21 (fun q h9 => by cases h9; rfl) rfl hP3 (fun h_4 hP4 => ?_)
  clear hP3
  refine bz_aload_n (pc := 20) dX2_becomeGiven_20 rfl rfl ?_
  refine bz_iload (pc := 21) dX2_becomeGiven_21 rfl ?_
  refine bz_rw_wI (pc := 23) dX2_becomeGiven_23 fl_X2_24 (fun q h9 => by cases h9; rfl) rfl hP4 (fun h_5 hP5 => ?_)
  clear hP4
  refine bz_aload_n (pc := 26) dX2_becomeGiven_26 rfl rfl ?_
  refine bz_aload_n (pc := 27) dX2_becomeGiven_27 rfl rfl ?_
  refine bz_iload_n (pc := 28) dX2_becomeGiven_28 rfl rfl ?_
  refine bz_kIV (as := [.inl x3]) (st := [.inr (some a0)]) (ci := 2) (n := 1) (mc := 0) (ms := 0) (bc := bc) (bs := bs) (yc := kX2_lateAt) (q := (RX2, TX2, 15)) (b := a0) (pc := 29) dX2_becomeGiven_29 sc_X2_lateAt ml_X2_27 im_X2_lateAt se_X2_lateAt rfl rfl rfl (Nat.le_of_ble_eq_true rfl) hP5 (fun x_6 h_7 hP6 => ?_)
  clear hP5
  refine bz_rw_wI (pc := 32) dX2_becomeGiven_32 fl_X2_31 (fun q h9 => by cases h9; rfl) rfl hP6 (fun h_8 hP7 => ?_)
  clear hP6
  refine bz_aload_n (pc := 35) dX2_becomeGiven_35 rfl rfl ?_
  refine bz_iconst (pc := 36) dX2_becomeGiven_36 ci_0 ?_
  refine bz_kIV (as := [.inl 0]) (st := []) (ci := 2) (n := 1) (mc := 0) (ms := 0) (bc := bc) (bs := bs) (yc := kX2_lackBy) (q := (RX2, TX2, 15)) (b := a0) (pc := 37) dX2_becomeGiven_37 sc_X2_lackBy ml_X2_34 im_X2_lackBy se_X2_lackBy rfl rfl rfl (Nat.le_of_ble_eq_true rfl) hP7 (fun x_9 h_10 hP8 => ?_)
  clear hP7
  refine bz_aload_n (pc := 40) dX2_becomeGiven_40 rfl rfl ?_
  refine bz_iconst (pc := 41) dX2_becomeGiven_41 ci_1 ?_
  refine bz_kIV (as := [.inl 1]) (st := [.inl x_9]) (ci := 2) (n := 1) (mc := 0) (ms := 0) (bc := bc) (bs := bs) (yc := kX2_lackBy) (q := (RX2, TX2, 15)) (b := a0) (pc := 42) dX2_becomeGiven_42 sc_X2_lackBy ml_X2_34 im_X2_lackBy se_X2_lackBy rfl rfl rfl (Nat.le_of_ble_eq_true rfl) hP8 (fun x_11 h_12 hP9 => ?_)
  clear hP8
  refine bz_iadd (pc := 45) dX2_becomeGiven_45 ?_
  refine bz_aload_n (pc := 46) dX2_becomeGiven_46 rfl rfl ?_
  refine bz_iconst (pc := 47) dX2_becomeGiven_47 ci_2 ?_
  refine bz_kIV (as := [.inl 2]) (st := [.inl (x_9 + x_11)]) (ci := 2) (n := 1) (mc := 0) (ms := 0) (bc := bc) (bs := bs) (yc := kX2_lackBy) (q := (RX2, TX2, 15)) (b := a0) (pc := 48) dX2_becomeGiven_48 sc_X2_lackBy ml_X2_34 im_X2_lackBy se_X2_lackBy rfl rfl rfl (Nat.le_of_ble_eq_true rfl) hP9 (fun x_13 h_14 hP10 => ?_)
  clear hP9
  refine bz_iadd (pc := 51) dX2_becomeGiven_51 ?_
  refine bz_s_istore (pc := 52) dX2_becomeGiven_52 (Nat.le_of_ble_eq_true rfl) [some (.inr (some a0)), some (.inl x1), some (.inl x2), some (.inl x3), some (.inl x4), some (.inl ((x_9 + x_11) + x_13))] rfl ?_
  refine bz_aload_n (pc := 54) dX2_becomeGiven_54 rfl rfl ?_
  refine bz_iconst (pc := 55) dX2_becomeGiven_55 ci_0 ?_
  refine bz_bipush (pc := 56) dX2_becomeGiven_56 cb_50 ?_
  refine bz_iload (pc := 58) dX2_becomeGiven_58 rfl ?_
  refine bz_isub (pc := 60) dX2_becomeGiven_60 ?_
  refine bz_mmax (pc := 61) dX2_becomeGiven_61 ml_X2_37 mt_max mt_init mt_code_max (Nat.succ_pos d) (Nat.le_of_ble_eq_true rfl) ?_
  refine bz_rw_wI (pc := 64) dX2_becomeGiven_64 fl_X2_43 (fun q h9 => by cases h9; rfl) rfl hP10 (fun h_15 hP11 => ?_)
  clear hP10
  exact bz_retV (pc := 67) dX2_becomeGiven_67 rfl hP11
theorem m_X2_becomeGiven {G : bz_G} {l : Launch} {d mc ms : Nat} {F : Option bz_V → bz_H → Prop} (a0 : Nat) (x1 : Int32) (x2 : Int32) (x3 : Int32) (x4 : Int32) (h : bz_H) (hP : w_X2_becomeGiven_0 G l d F a0 x1 x2 x3 x4 h) : bz_Call G l (d + 1) kX2_becomeGiven [.inr (some a0), .inl x1, .inl x2, .inl x3, .inl x4] h mc ms F :=
  bz_body (by decide) (Nat.le_of_ble_eq_true rfl) (fun κ hl => g_X2_becomeGiven_0 hl a0 x1 x2 x3 x4 h hP)
def w_X2_becomeLike_0 (G : bz_G) (l : Launch) (d : Nat) (F : Option bz_V → bz_H → Prop) (a0 : Nat) (r1 : Option Nat) (h : bz_H) : Prop := bz_nn r1 (fun a_1 => bz_rI h a_1 2 0 (fun x_2 => bz_wI h a0 2 0 x_2 (fun h_3 => bz_rI h_3 a_1 2 1 (fun x_4 => bz_wI h_3 a0 2 1 x_4 (fun h_5 => bz_rI h_5 a_1 2 2 (fun x_6 => bz_wI h_5 a0 2 2 x_6 (fun h_7 => bz_rI h_7 a_1 2 3 (fun x_8 => bz_wI h_7 a0 2 3 x_8 (fun h_9 => bz_rI h_9 a_1 2 4 (fun x_10 => bz_wI h_9 a0 2 4 x_10 (fun h_11 => bz_rI h_11 a_1 2 5 (fun x_12 => bz_wI h_11 a0 2 5 x_12 (fun h_13 => bz_rI h_13 a_1 2 6 (fun x_14 => bz_wI h_13 a0 2 6 x_14 (fun h_15 => bz_rI h_15 a_1 2 7 (fun x_16 => bz_wI h_15 a0 2 7 x_16 (fun h_17 => bz_rI h_17 a_1 2 8 (fun x_18 => bz_wI h_17 a0 2 8 x_18 (fun h_19 => bz_rI h_19 a_1 2 9 (fun x_20 => bz_wI h_19 a0 2 9 x_20 (fun h_21 => bz_rI h_21 a_1 2 10 (fun x_22 => bz_wI h_21 a0 2 10 x_22 (fun h_23 => bz_rI h_23 a_1 2 11 (fun x_24 => bz_wI h_23 a0 2 11 x_24 (fun h_25 => bz_rI h_25 a_1 2 12 (fun x_26 => bz_wI h_25 a0 2 12 x_26 (fun h_27 => bz_rI h_27 a_1 2 13 (fun x_28 => bz_wI h_27 a0 2 13 x_28 (fun h_29 => bz_rI h_29 a_1 2 14 (fun x_30 => bz_wI h_29 a0 2 14 x_30 (fun h_31 => F none h_31)))))))))))))))))))))))))))))))
set_option maxRecDepth 20000 in
set_option maxHeartbeats 4000000 in
theorem g_X2_becomeLike_0 {G : bz_G} {κ : bz_K} {l : Launch} {d : Nat} {F : Option bz_V → bz_H → Prop} {bc bs : Nat} (hl : κ.2.1 = l) (a0 : Nat) (r1 : Option Nat) (h : bz_H) (hP0 : w_X2_becomeLike_0 G l d F a0 r1 h) : bz_J G κ kX2_becomeLike (d + 1) F bc bs 0 [some (.inr (some a0)), some (.inr r1)] [] h := by
  subst hl
  unfold w_X2_becomeLike_0 at hP0
  refine bz_aload_n (pc := 0) dX2_becomeLike_0 rfl rfl ?_
  refine bz_aload_n (pc := 1) dX2_becomeLike_1 rfl rfl ?_
  obtain ⟨a_1, rfl, hP1⟩ := hP0
  refine bz_rw_rI (pc := 2) dX2_becomeLike_2 fl_X2_58 hP1 (fun x_2 hP2 => ?_)
  clear hP1
  refine bz_rw_wI (pc := 5) dX2_becomeLike_5 fl_X2_58 (fun q h9 => by cases h9; rfl) rfl hP2 (fun h_3 hP3 => ?_)
  clear hP2
  refine bz_aload_n (pc := 8) dX2_becomeLike_8 rfl rfl ?_
  refine bz_aload_n (pc := 9) dX2_becomeLike_9 rfl rfl ?_
  refine bz_rw_rI (pc := 10) dX2_becomeLike_10 fl_X2_61 hP3 (fun x_4 hP4 => ?_)
  clear hP3
  refine bz_rw_wI (pc := 13) dX2_becomeLike_13 fl_X2_61 (fun q h9 => by cases h9; rfl) rfl hP4 (fun h_5 hP5 => ?_)
  clear hP4
  refine bz_aload_n (pc := 16) dX2_becomeLike_16 rfl rfl ?_
  refine bz_aload_n (pc := 17) dX2_becomeLike_17 rfl rfl ?_
  refine bz_rw_rI (pc := 18) dX2_becomeLike_18 fl_X2_64 hP5 (fun x_6 hP6 => ?_)
  clear hP5
  refine bz_rw_wI (pc := 21) dX2_becomeLike_21 fl_X2_64 (fun q h9 => by cases h9; rfl) rfl hP6 (fun h_7 hP7 => ?_)
  clear hP6
  refine bz_aload_n (pc := 24) dX2_becomeLike_24 rfl rfl ?_
  refine bz_aload_n (pc := 25) dX2_becomeLike_25 rfl rfl ?_
  refine bz_rw_rI (pc := 26) dX2_becomeLike_26 fl_X2_67 hP7 (fun x_8 hP8 => ?_)
  clear hP7
  refine bz_rw_wI (pc := 29) dX2_becomeLike_29 fl_X2_67 (fun q h9 => by cases h9; rfl) rfl hP8 (fun h_9 hP9 => ?_)
  clear hP8
  refine bz_aload_n (pc := 32) dX2_becomeLike_32 rfl rfl ?_
  refine bz_aload_n (pc := 33) dX2_becomeLike_33 rfl rfl ?_
  refine bz_rw_rI (pc := 34) dX2_becomeLike_34 fl_X2_49 hP9 (fun x_10 hP10 => ?_)
  clear hP9
  refine bz_rw_wI (pc := 37) dX2_becomeLike_37 fl_X2_49 (fun q h9 => by cases h9; rfl) rfl hP10 (fun h_11 hP11 => ?_)
  clear hP10
  refine bz_aload_n (pc := 40) dX2_becomeLike_40 rfl rfl ?_
  refine bz_aload_n (pc := 41) dX2_becomeLike_41 rfl rfl ?_
  refine bz_rw_rI (pc := 42) dX2_becomeLike_42 fl_X2_52 hP11 (fun x_12 hP12 => ?_)
  clear hP11
  refine bz_rw_wI (pc := 45) dX2_becomeLike_45 fl_X2_52 (fun q h9 => by cases h9; rfl) rfl hP12 (fun h_13 hP13 => ?_)
  clear hP12
  refine bz_aload_n (pc := 48) dX2_becomeLike_48 rfl rfl ?_
  refine bz_aload_n (pc := 49) dX2_becomeLike_49 rfl rfl ?_
  refine bz_rw_rI (pc := 50) dX2_becomeLike_50 fl_X2_55 hP13 (fun x_14 hP14 => ?_)
  clear hP13
  refine bz_rw_wI (pc := 53) dX2_becomeLike_53 fl_X2_55 (fun q h9 => by cases h9; rfl) rfl hP14 (fun h_15 hP15 => ?_)
  clear hP14
  refine bz_aload_n (pc := 56) dX2_becomeLike_56 rfl rfl ?_
  refine bz_aload_n (pc := 57) dX2_becomeLike_57 rfl rfl ?_
  refine bz_rw_rI (pc := 58) dX2_becomeLike_58 fl_X2_9 hP15 (fun x_16 hP16 => ?_)
  clear hP15
  refine bz_rw_wI (pc := 61) dX2_becomeLike_61 fl_X2_9 (fun q h9 => by cases h9; rfl) rfl hP16 (fun h_17 hP17 => ?_)
  clear hP16
  refine bz_aload_n (pc := 64) dX2_becomeLike_64 rfl rfl ?_
  refine bz_aload_n (pc := 65) dX2_becomeLike_65 rfl rfl ?_
  refine bz_rw_rI (pc := 66) dX2_becomeLike_66 fl_X2_15 hP17 (fun x_18 hP18 => ?_)
  clear hP17
  refine bz_rw_wI (pc := 69) dX2_becomeLike_69 fl_X2_15 (fun q h9 => by cases h9; rfl) rfl hP18 (fun h_19 hP19 => ?_)
  clear hP18
  refine bz_aload_n (pc := 72) dX2_becomeLike_72 rfl rfl ?_
  refine bz_aload_n (pc := 73) dX2_becomeLike_73 rfl rfl ?_
  refine bz_rw_rI (pc := 74) dX2_becomeLike_74 fl_X2_18 hP19 (fun x_20 hP20 => ?_)
  clear hP19
  refine bz_rw_wI (pc := 77) dX2_becomeLike_77 fl_X2_18 (fun q h9 => by cases h9; rfl) rfl hP20 (fun h_21 hP21 => ?_)
  clear hP20
  refine bz_aload_n (pc := 80) dX2_becomeLike_80 rfl rfl ?_
  refine bz_aload_n (pc := 81) dX2_becomeLike_81 rfl rfl ?_
  refine bz_rw_rI (pc := 82) dX2_becomeLike_82 fl_X2_21 hP21 (fun x_22 hP22 => ?_)
  clear hP21
  refine bz_rw_wI (pc := 85) dX2_becomeLike_85 fl_X2_21 (fun q h9 => by cases h9; rfl) rfl hP22 (fun h_23 hP23 => ?_)
  clear hP22
  refine bz_aload_n (pc := 88) dX2_becomeLike_88 rfl rfl ?_
  refine bz_aload_n (pc := 89) dX2_becomeLike_89 rfl rfl ?_
  refine bz_rw_rI (pc := 90) dX2_becomeLike_90 fl_X2_31 hP23 (fun x_24 hP24 => ?_)
  clear hP23
  refine bz_rw_wI (pc := 93) dX2_becomeLike_93 fl_X2_31 (fun q h9 => by cases h9; rfl) rfl hP24 (fun h_25 hP25 => ?_)
  clear hP24
  refine bz_aload_n (pc := 96) dX2_becomeLike_96 rfl rfl ?_
  refine bz_aload_n (pc := 97) dX2_becomeLike_97 rfl rfl ?_
  refine bz_rw_rI (pc := 98) dX2_becomeLike_98 fl_X2_43 hP25 (fun x_26 hP26 => ?_)
  clear hP25
  refine bz_rw_wI (pc := 101) dX2_becomeLike_101 fl_X2_43 (fun q h9 => by cases h9; rfl) rfl hP26 (fun h_27 hP27 => ?_)
  clear hP26
  refine bz_aload_n (pc := 104) dX2_becomeLike_104 rfl rfl ?_
  refine bz_aload_n (pc := 105) dX2_becomeLike_105 rfl rfl ?_
  refine bz_rw_rI (pc := 106) dX2_becomeLike_106 fl_X2_24 hP27 (fun x_28 hP28 => ?_)
  clear hP27
  refine bz_rw_wI (pc := 109) dX2_becomeLike_109 fl_X2_24 (fun q h9 => by cases h9; rfl) rfl hP28 (fun h_29 hP29 => ?_)
  clear hP28
  refine bz_aload_n (pc := 112) dX2_becomeLike_112 rfl rfl ?_
  refine bz_aload_n (pc := 113) dX2_becomeLike_113 rfl rfl ?_
  refine bz_rw_rI (pc := 114) dX2_becomeLike_114 fl_X2_46 hP29 (fun x_30 hP30 => ?_)
  clear hP29
  refine bz_rw_wI (pc := 117) dX2_becomeLike_117 fl_X2_46 (fun q h9 => by cases h9; rfl) rfl hP30 (fun h_31 hP31 => ?_)
  clear hP30
  exact bz_retV (pc := 120) dX2_becomeLike_120 rfl hP31
theorem m_X2_becomeLike {G : bz_G} {l : Launch} {d mc ms : Nat} {F : Option bz_V → bz_H → Prop} (a0 : Nat) (r1 : Option Nat) (h : bz_H) (hP : w_X2_becomeLike_0 G l d F a0 r1 h) : bz_Call G l (d + 1) kX2_becomeLike [.inr (some a0), .inr r1] h mc ms F :=
  bz_body (by decide) (Nat.le_of_ble_eq_true rfl) (fun κ hl => g_X2_becomeLike_0 hl a0 r1 h hP)
def w_X2_init_0 (G : bz_G) (l : Launch) (d : Nat) (F : Option bz_V → bz_H → Prop) (a0 : Nat) (h : bz_H) : Prop := F none h
set_option maxRecDepth 20000 in
set_option maxHeartbeats 4000000 in
theorem g_X2_init_0 {G : bz_G} {κ : bz_K} {l : Launch} {d : Nat} {F : Option bz_V → bz_H → Prop} {bc bs : Nat} (hl : κ.2.1 = l) (a0 : Nat) (h : bz_H) (hP0 : w_X2_init_0 G l d F a0 h) : bz_J G κ kX2_init (d + 1) F bc bs 0 [some (.inr (some a0))] [] h := by
  subst hl
  unfold w_X2_init_0 at hP0
  refine bz_aload_n (pc := 0) dX2_init_0 rfl rfl ?_
  refine bz_objInit (pc := 1) dX2_init_1 ml_X2_3 oi_i oi_c (Nat.succ_pos d) (Nat.le_of_ble_eq_true rfl) ?_
  exact bz_retV (pc := 4) dX2_init_4 rfl hP0
theorem m_X2_init {G : bz_G} {l : Launch} {d mc ms : Nat} {F : Option bz_V → bz_H → Prop} (a0 : Nat) (h : bz_H) (hP : w_X2_init_0 G l d F a0 h) : bz_Call G l (d + 1) kX2_init [.inr (some a0)] h mc ms F :=
  bz_body (by decide) (Nat.le_of_ble_eq_true rfl) (fun κ hl => g_X2_init_0 hl a0 h hP)
def w_X2_isGivenTo_0 (G : bz_G) (l : Launch) (d : Nat) (F : Option bz_V → bz_H → Prop) (a0 : Nat) (x1 : Int32) (h : bz_H) : Prop := bz_rI h a0 2 7 (fun x_1 => (¬ x_1 = 1 → F (some (.inl 0)) h) ∧ (x_1 = 1 → bz_rI h a0 2 8 (fun x_2 => F (some (.inl (if x_2 = x1 then 1 else 0))) h)))
set_option maxRecDepth 20000 in
set_option maxHeartbeats 4000000 in
theorem g_X2_isGivenTo_0 {G : bz_G} {κ : bz_K} {l : Launch} {d : Nat} {F : Option bz_V → bz_H → Prop} {bc bs : Nat} (hl : κ.2.1 = l) (a0 : Nat) (x1 : Int32) (h : bz_H) (hP0 : w_X2_isGivenTo_0 G l d F a0 x1 h) : bz_J G κ kX2_isGivenTo (d + 1) F bc bs 0 [some (.inr (some a0)), some (.inl x1)] [] h := by
  subst hl
  unfold w_X2_isGivenTo_0 at hP0
  refine bz_aload_n (pc := 0) dX2_isGivenTo_0 rfl rfl ?_
  refine bz_rw_rI (pc := 1) dX2_isGivenTo_1 fl_X2_9 hP0 (fun x_1 hP1 => ?_)
  clear hP0
  refine bz_iconst (pc := 4) dX2_isGivenTo_4 ci_1 ?_
  refine bz_icmp_ne (tgt := 20) (pc := 5) dX2_isGivenTo_5 rfl (fun c => ?_) (fun c => ?_)
  · have hP2 := hP1.1 c
    clear hP1
    refine bz_iconst (pc := 20) dX2_isGivenTo_20 ci_0 ?_
    exact bz_retI (pc := 21) dX2_isGivenTo_21 rfl rfl hP2
  · have hP3 := hP1.2 c
    clear hP1
    refine bz_aload_n (pc := 8) dX2_isGivenTo_8 rfl rfl ?_
    refine bz_rw_rI (pc := 9) dX2_isGivenTo_9 fl_X2_15 hP3 (fun x_2 hP4 => ?_)
    clear hP3
    refine bz_iload_n (pc := 12) dX2_isGivenTo_12 rfl rfl ?_
    have hJ : bz_J G κ kX2_isGivenTo (d + 1) F bc bs 21 [some (.inr (some a0)), some (.inl x1)] [.inl (if x_2 = x1 then 1 else 0)] h := by
      exact bz_retI (pc := 21) dX2_isGivenTo_21 rfl (by (repeat' split) <;> rfl) hP4
    refine bz_icmp_ne (tgt := 20) (pc := 13) dX2_isGivenTo_13 rfl (fun c => ?_) (fun c => ?_)
    · have e9 : ((if x_2 = x1 then 1 else 0) : Int32) = (0) := if_neg c
      rw [e9] at hJ
      refine bz_iconst (pc := 20) dX2_isGivenTo_20 ci_0 ?_
      exact hJ
    · have e9 : ((if x_2 = x1 then 1 else 0) : Int32) = (1) := if_pos c
      rw [e9] at hJ
      refine bz_iconst (pc := 16) dX2_isGivenTo_16 ci_1 ?_
      refine bz_goto (tgt := 21) (pc := 17) dX2_isGivenTo_17 rfl ?_
      exact hJ
theorem m_X2_isGivenTo {G : bz_G} {l : Launch} {d mc ms : Nat} {F : Option bz_V → bz_H → Prop} (a0 : Nat) (x1 : Int32) (h : bz_H) (hP : w_X2_isGivenTo_0 G l d F a0 x1 h) : bz_Call G l (d + 1) kX2_isGivenTo [.inr (some a0), .inl x1] h mc ms F :=
  bz_body (by decide) (Nat.le_of_ble_eq_true rfl) (fun κ hl => g_X2_isGivenTo_0 hl a0 x1 h hP)
def w_X2_isRefusedBy_0 (G : bz_G) (l : Launch) (d : Nat) (F : Option bz_V → bz_H → Prop) (a0 : Nat) (x1 : Int32) (h : bz_H) : Prop := bz_rI h a0 2 14 (fun x_1 => F (some (.inl (if ((x_1 >>> (x1 &&& 31)) &&& 1) = 0 then 0 else 1))) h)
set_option maxRecDepth 20000 in
set_option maxHeartbeats 4000000 in
theorem g_X2_isRefusedBy_0 {G : bz_G} {κ : bz_K} {l : Launch} {d : Nat} {F : Option bz_V → bz_H → Prop} {bc bs : Nat} (hl : κ.2.1 = l) (a0 : Nat) (x1 : Int32) (h : bz_H) (hP0 : w_X2_isRefusedBy_0 G l d F a0 x1 h) : bz_J G κ kX2_isRefusedBy (d + 1) F bc bs 0 [some (.inr (some a0)), some (.inl x1)] [] h := by
  subst hl
  unfold w_X2_isRefusedBy_0 at hP0
  refine bz_aload_n (pc := 0) dX2_isRefusedBy_0 rfl rfl ?_
  refine bz_rw_rI (pc := 1) dX2_isRefusedBy_1 fl_X2_46 hP0 (fun x_1 hP1 => ?_)
  clear hP0
  refine bz_iload_n (pc := 4) dX2_isRefusedBy_4 rfl rfl ?_
  refine bz_ishr (pc := 5) dX2_isRefusedBy_5 ?_
  refine bz_iconst (pc := 6) dX2_isRefusedBy_6 ci_1 ?_
  refine bz_iand (pc := 7) dX2_isRefusedBy_7 ?_
  have hJ : bz_J G κ kX2_isRefusedBy (d + 1) F bc bs 16 [some (.inr (some a0)), some (.inl x1)] [.inl (if ((x_1 >>> (x1 &&& 31)) &&& 1) = 0 then 0 else 1)] h := by
    exact bz_retI (pc := 16) dX2_isRefusedBy_16 rfl (by (repeat' split) <;> rfl) hP1
  refine bz_if_eq (tgt := 15) (pc := 8) dX2_isRefusedBy_8 rfl (fun c => ?_) (fun c => ?_)
  · have e9 : ((if ((x_1 >>> (x1 &&& 31)) &&& 1) = 0 then 0 else 1) : Int32) = (0) := if_pos c
    rw [e9] at hJ
    refine bz_iconst (pc := 15) dX2_isRefusedBy_15 ci_0 ?_
    exact hJ
  · have e9 : ((if ((x_1 >>> (x1 &&& 31)) &&& 1) = 0 then 0 else 1) : Int32) = (1) := if_neg c
    rw [e9] at hJ
    refine bz_iconst (pc := 11) dX2_isRefusedBy_11 ci_1 ?_
    refine bz_goto (tgt := 16) (pc := 12) dX2_isRefusedBy_12 rfl ?_
    exact hJ
theorem m_X2_isRefusedBy {G : bz_G} {l : Launch} {d mc ms : Nat} {F : Option bz_V → bz_H → Prop} (a0 : Nat) (x1 : Int32) (h : bz_H) (hP : w_X2_isRefusedBy_0 G l d F a0 x1 h) : bz_Call G l (d + 1) kX2_isRefusedBy [.inr (some a0), .inl x1] h mc ms F :=
  bz_body (by decide) (Nat.le_of_ble_eq_true rfl) (fun κ hl => g_X2_isRefusedBy_0 hl a0 x1 h hP)
def w_X2_lackBy_0 (G : bz_G) (l : Launch) (d : Nat) (F : Option bz_V → bz_H → Prop) (a0 : Nat) (x1 : Int32) (h : bz_H) : Prop := bz_rI h a0 2 5 (fun x_1 => (x1 = 0 → F (some (.inl (x_1 / 5))) h) ∧ (¬ x1 = 0 → (x1 = 1 → bz_rI h a0 2 11 (fun x_2 => F (some (.inl (if 0 < ((x_2 / 5) - (x_1 / 5)) then (x_2 / 5) - (x_1 / 5) else 0))) h)) ∧ (¬ x1 = 1 → bz_rI h a0 2 9 (fun x_3 => bz_rI h a0 2 6 (fun x_4 => F (some (.inl ((x_3 - x_4) / 4))) h)))))
set_option maxRecDepth 20000 in
set_option maxHeartbeats 4000000 in
theorem g_X2_lackBy_0 {G : bz_G} {κ : bz_K} {l : Launch} {d : Nat} {F : Option bz_V → bz_H → Prop} {bc bs : Nat} (hl : κ.2.1 = l) (a0 : Nat) (x1 : Int32) (h : bz_H) (hP0 : w_X2_lackBy_0 G l d F a0 x1 h) : bz_J G κ kX2_lackBy (d + 1) F bc bs 0 [some (.inr (some a0)), some (.inl x1), none] [] h := by
  subst hl
  unfold w_X2_lackBy_0 at hP0
  refine bz_aload_n (pc := 0) dX2_lackBy_0 rfl rfl ?_
  refine bz_rw_rI (pc := 1) dX2_lackBy_1 fl_X2_52 hP0 (fun x_1 hP1 => ?_)
  clear hP0
  refine bz_iconst (pc := 4) dX2_lackBy_4 ci_5 ?_
  refine bz_idiv (pc := 5) dX2_lackBy_5 (by decide) ?_
  refine bz_s_istore_n (pc := 6) dX2_lackBy_6 rfl (Nat.le_of_ble_eq_true rfl) [some (.inr (some a0)), some (.inl x1), some (.inl (x_1 / 5))] rfl ?_
  refine bz_iload_n (pc := 7) dX2_lackBy_7 rfl rfl ?_
  refine bz_lookup (pc := 8) [(0, 28), (1, 30)] dX2_lackBy_8 (by decide) (by decide) (by decide) (by decide) ?_
  refine ⟨fun c => ?_, fun c => ?_⟩
  · have hP2 := hP1.1 c
    clear hP1
    show bz_J G κ kX2_lackBy (d + 1) F bc bs 36 [some (.inr (some a0)), some (.inl x1), some (.inl (x_1 / 5))] [] h
    refine bz_iload_n (pc := 36) dX2_lackBy_36 rfl rfl ?_
    exact bz_retI (pc := 37) dX2_lackBy_37 rfl rfl hP2
  · have hP3 := hP1.2 c
    clear hP1
    refine ⟨fun c => ?_, fun c => ?_⟩
    · have hP4 := hP3.1 c
      clear hP3
      show bz_J G κ kX2_lackBy (d + 1) F bc bs 38 [some (.inr (some a0)), some (.inl x1), some (.inl (x_1 / 5))] [] h
      refine bz_iconst (pc := 38) dX2_lackBy_38 ci_0 ?_
      refine bz_aload_n (pc := 39) dX2_lackBy_39 rfl rfl ?_
      refine bz_rw_rI (pc := 40) dX2_lackBy_40 fl_X2_31 hP4 (fun x_2 hP5 => ?_)
      clear hP4
      refine bz_iconst (pc := 43) dX2_lackBy_43 ci_5 ?_
      refine bz_idiv (pc := 44) dX2_lackBy_44 (by decide) ?_
      refine bz_iload_n (pc := 45) dX2_lackBy_45 rfl rfl ?_
      refine bz_isub (pc := 46) dX2_lackBy_46 ?_
      refine bz_mmax (pc := 47) dX2_lackBy_47 ml_X2_37 mt_max mt_init mt_code_max (Nat.succ_pos d) (Nat.le_of_ble_eq_true rfl) ?_
      exact bz_retI (pc := 50) dX2_lackBy_50 rfl rfl hP5
    · have hP6 := hP3.2 c
      clear hP3
      show bz_J G κ kX2_lackBy (d + 1) F bc bs 51 [some (.inr (some a0)), some (.inl x1), some (.inl (x_1 / 5))] [] h
      refine bz_aload_n (pc := 51) dX2_lackBy_51 rfl rfl ?_
      refine bz_rw_rI (pc := 52) dX2_lackBy_52 fl_X2_18 hP6 (fun x_3 hP7 => ?_)
      clear hP6
      refine bz_aload_n (pc := 55) dX2_lackBy_55 rfl rfl ?_
      refine bz_rw_rI (pc := 56) dX2_lackBy_56 fl_X2_55 hP7 (fun x_4 hP8 => ?_)
      clear hP7
      refine bz_isub (pc := 59) dX2_lackBy_59 ?_
      refine bz_iconst (pc := 60) dX2_lackBy_60 ci_4 ?_
      refine bz_idiv (pc := 61) dX2_lackBy_61 (by decide) ?_
      exact bz_retI (pc := 62) dX2_lackBy_62 rfl rfl hP8
theorem m_X2_lackBy {G : bz_G} {l : Launch} {d mc ms : Nat} {F : Option bz_V → bz_H → Prop} (a0 : Nat) (x1 : Int32) (h : bz_H) (hP : w_X2_lackBy_0 G l d F a0 x1 h) : bz_Call G l (d + 1) kX2_lackBy [.inr (some a0), .inl x1] h mc ms F :=
  bz_body (by decide) (Nat.le_of_ble_eq_true rfl) (fun κ hl => g_X2_lackBy_0 hl a0 x1 h hP)
def w_X2_lateAt_0 (G : bz_G) (l : Launch) (d : Nat) (F : Option bz_V → bz_H → Prop) (a0 : Nat) (x1 : Int32) (h : bz_H) : Prop := bz_rI h a0 2 4 (fun x_1 => F (some (.inl (if 0 < (x1 - x_1) then x1 - x_1 else 0))) h)
set_option maxRecDepth 20000 in
set_option maxHeartbeats 4000000 in
theorem g_X2_lateAt_0 {G : bz_G} {κ : bz_K} {l : Launch} {d : Nat} {F : Option bz_V → bz_H → Prop} {bc bs : Nat} (hl : κ.2.1 = l) (a0 : Nat) (x1 : Int32) (h : bz_H) (hP0 : w_X2_lateAt_0 G l d F a0 x1 h) : bz_J G κ kX2_lateAt (d + 1) F bc bs 0 [some (.inr (some a0)), some (.inl x1)] [] h := by
  subst hl
  unfold w_X2_lateAt_0 at hP0
  refine bz_iconst (pc := 0) dX2_lateAt_0 ci_0 ?_
  refine bz_iload_n (pc := 1) dX2_lateAt_1 rfl rfl ?_
  refine bz_aload_n (pc := 2) dX2_lateAt_2 rfl rfl ?_
  refine bz_rw_rI (pc := 3) dX2_lateAt_3 fl_X2_49 hP0 (fun x_1 hP1 => ?_)
  clear hP0
  refine bz_isub (pc := 6) dX2_lateAt_6 ?_
  refine bz_mmax (pc := 7) dX2_lateAt_7 ml_X2_37 mt_max mt_init mt_code_max (Nat.succ_pos d) (Nat.le_of_ble_eq_true rfl) ?_
  exact bz_retI (pc := 10) dX2_lateAt_10 rfl rfl hP1
theorem m_X2_lateAt {G : bz_G} {l : Launch} {d mc ms : Nat} {F : Option bz_V → bz_H → Prop} (a0 : Nat) (x1 : Int32) (h : bz_H) (hP : w_X2_lateAt_0 G l d F a0 x1 h) : bz_Call G l (d + 1) kX2_lateAt [.inr (some a0), .inl x1] h mc ms F :=
  bz_body (by decide) (Nat.le_of_ble_eq_true rfl) (fun κ hl => g_X2_lateAt_0 hl a0 x1 h hP)
def w_X2_ownRating_0 (G : bz_G) (l : Launch) (d : Nat) (F : Option bz_V → bz_H → Prop) (a0 : Nat) (h : bz_H) : Prop := bz_rc h a0 2 (bz_cI G l d kX2_lackBy [.inr (some a0), .inl 2] h 0 0 (fun x_1 h_2 => F (some (.inl (if 0 < (50 - x_1) then 50 - x_1 else 0))) h_2))
set_option maxRecDepth 20000 in
set_option maxHeartbeats 4000000 in
theorem g_X2_ownRating_0 {G : bz_G} {κ : bz_K} {l : Launch} {d : Nat} {F : Option bz_V → bz_H → Prop} {bc bs : Nat} (hl : κ.2.1 = l) (a0 : Nat) (h : bz_H) (hP0 : w_X2_ownRating_0 G l d F a0 h) : bz_J G κ kX2_ownRating (d + 1) F bc bs 0 [some (.inr (some a0))] [] h := by
  subst hl
  unfold w_X2_ownRating_0 at hP0
  refine bz_iconst (pc := 0) dX2_ownRating_0 ci_0 ?_
  refine bz_bipush (pc := 1) dX2_ownRating_1 cb_50 ?_
  refine bz_aload_n (pc := 3) dX2_ownRating_3 rfl rfl ?_
  refine bz_iconst (pc := 4) dX2_ownRating_4 ci_2 ?_
  refine bz_kIV (as := [.inl 2]) (st := [.inl 50, .inl 0]) (ci := 2) (n := 1) (mc := 0) (ms := 0) (bc := bc) (bs := bs) (yc := kX2_lackBy) (q := (RX2, TX2, 15)) (b := a0) (pc := 5) dX2_ownRating_5 sc_X2_lackBy ml_X2_34 im_X2_lackBy se_X2_lackBy rfl rfl rfl (Nat.le_of_ble_eq_true rfl) hP0 (fun x_1 h_2 hP1 => ?_)
  clear hP0
  refine bz_isub (pc := 8) dX2_ownRating_8 ?_
  refine bz_mmax (pc := 9) dX2_ownRating_9 ml_X2_37 mt_max mt_init mt_code_max (Nat.succ_pos d) (Nat.le_of_ble_eq_true rfl) ?_
  exact bz_retI (pc := 12) dX2_ownRating_12 rfl rfl hP1
theorem m_X2_ownRating {G : bz_G} {l : Launch} {d mc ms : Nat} {F : Option bz_V → bz_H → Prop} (a0 : Nat) (h : bz_H) (hP : w_X2_ownRating_0 G l d F a0 h) : bz_Call G l (d + 1) kX2_ownRating [.inr (some a0)] h mc ms F :=
  bz_body (by decide) (Nat.le_of_ble_eq_true rfl) (fun κ hl => g_X2_ownRating_0 hl a0 h hP)
def w_X3_becomeLike_0 (G : bz_G) (l : Launch) (d : Nat) (F : Option bz_V → bz_H → Prop) (a0 : Nat) (r1 : Option Nat) (h : bz_H) : Prop := bz_nn r1 (fun a_1 => bz_rI h a_1 3 1 (fun x_2 => bz_wI h a0 3 1 x_2 (fun h_3 => bz_rI h_3 a_1 3 2 (fun x_4 => bz_wI h_3 a0 3 2 x_4 (fun h_5 => bz_rI h_5 a_1 3 3 (fun x_6 => bz_wI h_5 a0 3 3 x_6 (fun h_7 => bz_rI h_7 a_1 3 4 (fun x_8 => bz_wI h_7 a0 3 4 x_8 (fun h_9 => bz_rI h_9 a_1 3 5 (fun x_10 => bz_wI h_9 a0 3 5 x_10 (fun h_11 => bz_rI h_11 a_1 3 6 (fun x_12 => bz_wI h_11 a0 3 6 x_12 (fun h_13 => bz_rI h_13 a_1 3 7 (fun x_14 => bz_wI h_13 a0 3 7 x_14 (fun h_15 => bz_rR h_15 a0 3 8 (fun r_16 => bz_rR h_15 a_1 3 8 (fun r_17 => bz_nn r_16 (fun a_20 => bz_rc h_15 a_20 4 (bz_cV G l d kX4_becomeLike [.inr (some a_20), .inr r_17] h_15 0 0 (fun h_19 => F none h_19))))))))))))))))))))
set_option maxRecDepth 20000 in
set_option maxHeartbeats 4000000 in
theorem g_X3_becomeLike_0 {G : bz_G} {κ : bz_K} {l : Launch} {d : Nat} {F : Option bz_V → bz_H → Prop} {bc bs : Nat} (hl : κ.2.1 = l) (a0 : Nat) (r1 : Option Nat) (h : bz_H) (hP0 : w_X3_becomeLike_0 G l d F a0 r1 h) : bz_J G κ kX3_becomeLike (d + 1) F bc bs 0 [some (.inr (some a0)), some (.inr r1)] [] h := by
  subst hl
  unfold w_X3_becomeLike_0 at hP0
  refine bz_aload_n (pc := 0) dX3_becomeLike_0 rfl rfl ?_
  refine bz_aload_n (pc := 1) dX3_becomeLike_1 rfl rfl ?_
  obtain ⟨a_1, rfl, hP1⟩ := hP0
  refine bz_rw_rI (pc := 2) dX3_becomeLike_2 fl_X3_24 hP1 (fun x_2 hP2 => ?_)
  clear hP1
  refine bz_rw_wI (pc := 5) dX3_becomeLike_5 fl_X3_24 (fun q h9 => by cases h9; rfl) rfl hP2 (fun h_3 hP3 => ?_)
  clear hP2
  refine bz_aload_n (pc := 8) dX3_becomeLike_8 rfl rfl ?_
  refine bz_aload_n (pc := 9) dX3_becomeLike_9 rfl rfl ?_
  refine bz_rw_rI (pc := 10) dX3_becomeLike_10 fl_X3_27 hP3 (fun x_4 hP4 => ?_)
  clear hP3
  refine bz_rw_wI (pc := 13) dX3_becomeLike_13 fl_X3_27 (fun q h9 => by cases h9; rfl) rfl hP4 (fun h_5 hP5 => ?_)
  clear hP4
  refine bz_aload_n (pc := 16) dX3_becomeLike_16 rfl rfl ?_
  refine bz_aload_n (pc := 17) dX3_becomeLike_17 rfl rfl ?_
  refine bz_rw_rI (pc := 18) dX3_becomeLike_18 fl_X3_30 hP5 (fun x_6 hP6 => ?_)
  clear hP5
  refine bz_rw_wI (pc := 21) dX3_becomeLike_21 fl_X3_30 (fun q h9 => by cases h9; rfl) rfl hP6 (fun h_7 hP7 => ?_)
  clear hP6
  refine bz_aload_n (pc := 24) dX3_becomeLike_24 rfl rfl ?_
  refine bz_aload_n (pc := 25) dX3_becomeLike_25 rfl rfl ?_
  refine bz_rw_rI (pc := 26) dX3_becomeLike_26 fl_X3_33 hP7 (fun x_8 hP8 => ?_)
  clear hP7
  refine bz_rw_wI (pc := 29) dX3_becomeLike_29 fl_X3_33 (fun q h9 => by cases h9; rfl) rfl hP8 (fun h_9 hP9 => ?_)
  clear hP8
  refine bz_aload_n (pc := 32) dX3_becomeLike_32 rfl rfl ?_
  refine bz_aload_n (pc := 33) dX3_becomeLike_33 rfl rfl ?_
  refine bz_rw_rI (pc := 34) dX3_becomeLike_34 fl_X3_36 hP9 (fun x_10 hP10 => ?_)
  clear hP9
  refine bz_rw_wI (pc := 37) dX3_becomeLike_37 fl_X3_36 (fun q h9 => by cases h9; rfl) rfl hP10 (fun h_11 hP11 => ?_)
  clear hP10
  refine bz_aload_n (pc := 40) dX3_becomeLike_40 rfl rfl ?_
  refine bz_aload_n (pc := 41) dX3_becomeLike_41 rfl rfl ?_
  refine bz_rw_rI (pc := 42) dX3_becomeLike_42 fl_X3_39 hP11 (fun x_12 hP12 => ?_)
  clear hP11
  refine bz_rw_wI (pc := 45) dX3_becomeLike_45 fl_X3_39 (fun q h9 => by cases h9; rfl) rfl hP12 (fun h_13 hP13 => ?_)
  clear hP12
  refine bz_aload_n (pc := 48) dX3_becomeLike_48 rfl rfl ?_
  refine bz_aload_n (pc := 49) dX3_becomeLike_49 rfl rfl ?_
  refine bz_rw_rI (pc := 50) dX3_becomeLike_50 fl_X3_42 hP13 (fun x_14 hP14 => ?_)
  clear hP13
  refine bz_rw_wI (pc := 53) dX3_becomeLike_53 fl_X3_42 (fun q h9 => by cases h9; rfl) rfl hP14 (fun h_15 hP15 => ?_)
  clear hP14
  refine bz_aload_n (pc := 56) dX3_becomeLike_56 rfl rfl ?_
  refine bz_rw_rR (pc := 57) dX3_becomeLike_57 fl_X3_14 hP15 (fun r_16 hP16 => ?_)
  clear hP15
  refine bz_aload_n (pc := 60) dX3_becomeLike_60 rfl rfl ?_
  refine bz_rw_rR (pc := 61) dX3_becomeLike_61 fl_X3_14 hP16 (fun r_17 hP17 => ?_)
  clear hP16
  obtain ⟨a_20, rfl, hP18⟩ := hP17
  refine bz_kVV (as := [.inr r_17]) (st := []) (ci := 4) (n := 1) (mc := 0) (ms := 0) (bc := bc) (bs := bs) (yc := kX4_becomeLike) (q := (RX4, TX4, 2)) (b := a_20) (pc := 64) dX3_becomeLike_64 sc_X4_becomeLike ml_X3_61 im_X4_becomeLike se_X4_becomeLike rfl rfl rfl (Nat.le_of_ble_eq_true rfl) hP18 (fun h_19 hP19 => ?_)
  clear hP18
  exact bz_retV (pc := 67) dX3_becomeLike_67 rfl hP19
theorem m_X3_becomeLike {G : bz_G} {l : Launch} {d mc ms : Nat} {F : Option bz_V → bz_H → Prop} (a0 : Nat) (r1 : Option Nat) (h : bz_H) (hP : w_X3_becomeLike_0 G l d F a0 r1 h) : bz_Call G l (d + 1) kX3_becomeLike [.inr (some a0), .inr r1] h mc ms F :=
  bz_body (by decide) (Nat.le_of_ble_eq_true rfl) (fun κ hl => g_X3_becomeLike_0 hl a0 r1 h hP)
def w_X3_comeOn_0 (G : bz_G) (l : Launch) (d : Nat) (F : Option bz_V → bz_H → Prop) (a0 : Nat) (x1 : Int32) (x2 : Int32) (x3 : Int32) (h : bz_H) : Prop := bz_wI h a0 3 1 x1 (fun h_1 => bz_wI h_1 a0 3 2 x2 (fun h_2 => bz_wI h_2 a0 3 3 x3 (fun h_3 => bz_wI h_3 a0 3 4 x2 (fun h_4 => bz_wI h_4 a0 3 5 x3 (fun h_5 => bz_wI h_5 a0 3 6 0 (fun h_6 => bz_wI h_6 a0 3 7 0 (fun h_7 => bz_rR h_7 a0 3 8 (fun r_8 => bz_nn r_8 (fun a_9 => bz_wI h_7 a_9 4 1 0 (fun h_10 => F none h_10))))))))))
set_option maxRecDepth 20000 in
set_option maxHeartbeats 4000000 in
theorem g_X3_comeOn_0 {G : bz_G} {κ : bz_K} {l : Launch} {d : Nat} {F : Option bz_V → bz_H → Prop} {bc bs : Nat} (hl : κ.2.1 = l) (a0 : Nat) (x1 : Int32) (x2 : Int32) (x3 : Int32) (h : bz_H) (hP0 : w_X3_comeOn_0 G l d F a0 x1 x2 x3 h) : bz_J G κ kX3_comeOn (d + 1) F bc bs 0 [some (.inr (some a0)), some (.inl x1), some (.inl x2), some (.inl x3)] [] h := by
  subst hl
  unfold w_X3_comeOn_0 at hP0
  refine bz_aload_n (pc := 0) dX3_comeOn_0 rfl rfl ?_
  refine bz_iload_n (pc := 1) dX3_comeOn_1 rfl rfl ?_
  refine bz_rw_wI (pc := 2) dX3_comeOn_2 fl_X3_24 (fun q h9 => by cases h9; rfl) rfl hP0 (fun h_1 hP1 => ?_)
  clear hP0
  refine bz_aload_n (pc := 5) dX3_comeOn_5 rfl rfl ?_
  refine bz_iload_n (pc := 6) dX3_comeOn_6 rfl rfl ?_
  refine bz_rw_wI (pc := 7) dX3_comeOn_7 fl_X3_27 (fun q h9 => by cases h9; rfl) rfl hP1 (fun h_2 hP2 => ?_)
  clear hP1
  refine bz_aload_n (pc := 10) dX3_comeOn_10 rfl rfl ?_
  refine bz_iload_n (pc := 11) dX3_comeOn_11 rfl rfl ?_
  refine bz_rw_wI (pc := 12) dX3_comeOn_12 fl_X3_30 (fun q h9 => by cases h9; rfl) rfl hP2 (fun h_3 hP3 => ?_)
  clear hP2
  refine bz_aload_n (pc := 15) dX3_comeOn_15 rfl rfl ?_
  refine bz_iload_n (pc := 16) dX3_comeOn_16 rfl rfl ?_
  refine bz_rw_wI (pc := 17) dX3_comeOn_17 fl_X3_33 (fun q h9 => by cases h9; rfl) rfl hP3 (fun h_4 hP4 => ?_)
  clear hP3
  refine bz_aload_n (pc := 20) dX3_comeOn_20 rfl rfl ?_
  refine bz_iload_n (pc := 21) dX3_comeOn_21 rfl rfl ?_
  refine bz_rw_wI (pc := 22) dX3_comeOn_22 fl_X3_36 (fun q h9 => by cases h9; rfl) rfl hP4 (fun h_5 hP5 => ?_)
  clear hP4
  refine bz_aload_n (pc := 25) dX3_comeOn_25 rfl rfl ?_
  refine bz_iconst (pc := 26) dX3_comeOn_26 ci_0 ?_
  refine bz_rw_wI (pc := 27) dX3_comeOn_27 fl_X3_39 (fun q h9 => by cases h9; rfl) rfl hP5 (fun h_6 hP6 => ?_)
  clear hP5
  refine bz_aload_n (pc := 30) dX3_comeOn_30 rfl rfl ?_
  refine bz_iconst (pc := 31) dX3_comeOn_31 ci_0 ?_
  refine bz_rw_wI (pc := 32) dX3_comeOn_32 fl_X3_42 (fun q h9 => by cases h9; rfl) rfl hP6 (fun h_7 hP7 => ?_)
  clear hP6
  refine bz_aload_n (pc := 35) dX3_comeOn_35 rfl rfl ?_
  refine bz_rw_rR (pc := 36) dX3_comeOn_36 fl_X3_14 hP7 (fun r_8 hP8 => ?_)
  clear hP7
  refine bz_iconst (pc := 39) dX3_comeOn_39 ci_0 ?_
  obtain ⟨a_9, rfl, hP9⟩ := hP8
  refine bz_rw_wI (pc := 40) dX3_comeOn_40 fl_X3_45 (fun q h9 => by cases h9; rfl) rfl hP9 (fun h_10 hP10 => ?_)
  clear hP9
  exact bz_retV (pc := 43) dX3_comeOn_43 rfl hP10
theorem m_X3_comeOn {G : bz_G} {l : Launch} {d mc ms : Nat} {F : Option bz_V → bz_H → Prop} (a0 : Nat) (x1 : Int32) (x2 : Int32) (x3 : Int32) (h : bz_H) (hP : w_X3_comeOn_0 G l d F a0 x1 x2 x3 h) : bz_Call G l (d + 1) kX3_comeOn [.inr (some a0), .inl x1, .inl x2, .inl x3] h mc ms F :=
  bz_body (by decide) (Nat.le_of_ble_eq_true rfl) (fun κ hl => g_X3_comeOn_0 hl a0 x1 x2 x3 h hP)
def w_X3_isInApp_0 (G : bz_G) (κ : bz_K) (l : Launch) (d : Nat) (F : Option bz_V → bz_H → Prop) (bc bs : Nat) (a0 : Nat) (x1 : Int32) (h : bz_H) : Prop := bz_J G κ kX3_isInApp (d + 1) F bc bs 2 [some (.inr (some a0)), some (.inl x1), some (.inl 0)] [] h
set_option maxRecDepth 20000 in
set_option maxHeartbeats 4000000 in
theorem g_X3_isInApp_0 {G : bz_G} {κ : bz_K} {l : Launch} {d : Nat} {F : Option bz_V → bz_H → Prop} {bc bs : Nat} (hl : κ.2.1 = l) (a0 : Nat) (x1 : Int32) (h : bz_H) (hP0 : w_X3_isInApp_0 G κ l d F bc bs a0 x1 h) : bz_J G κ kX3_isInApp (d + 1) F bc bs 0 [some (.inr (some a0)), some (.inl x1), none] [] h := by
  subst hl
  unfold w_X3_isInApp_0 at hP0
  refine bz_iconst (pc := 0) dX3_isInApp_0 ci_0 ?_
  refine bz_s_istore_n (pc := 1) dX3_isInApp_1 rfl (Nat.le_of_ble_eq_true rfl) [some (.inr (some a0)), some (.inl x1), some (.inl 0)] rfl ?_
  exact hP0
def w_X3_isInApp_2 (G : bz_G) (κ : bz_K) (l : Launch) (d : Nat) (F : Option bz_V → bz_H → Prop) (bc bs : Nat) (a0 : Nat) (x1 : Int32) (x2 : Int32) (h : bz_H) : Prop := bz_rR h a0 3 8 (fun r_1 => bz_nn r_1 (fun a_2 => bz_rI h a_2 4 1 (fun x_3 => (x_3 ≤ x2 → F (some (.inl 0)) h) ∧ (¬ (x_3 ≤ x2) → bz_rR h a0 3 8 (fun r_4 => bz_nn r_4 (fun a_7 => bz_rc h a_7 4 (bz_cI G l d kX4_spans [.inr (some a_7), .inl x2, .inl x1] h 0 0 (fun x_5 h_6 => (x_5 = 0 → bz_J G κ kX3_isInApp (d + 1) F bc bs 2 [some (.inr (some a0)), some (.inl x1), some (.inl (x2 + 1))] [] h_6) ∧ (¬ (x_5 = 0) → bz_rR h_6 a0 3 8 (fun r_8 => bz_nn r_8 (fun a_11 => bz_rc h_6 a_11 4 (bz_cI G l d kX4_cell [.inr (some a_11), .inl x2, .inl 1] h_6 0 0 (fun x_9 h_10 => (x1 = x_9 → bz_J G κ kX3_isInApp (d + 1) F bc bs 2 [some (.inr (some a0)), some (.inl x1), some (.inl (x2 + 1))] [] h_10) ∧ (¬ (x1 = x_9) → F (some (.inl 1)) h_10))))))))))))))
set_option maxRecDepth 20000 in
set_option maxHeartbeats 4000000 in
theorem g_X3_isInApp_2 {G : bz_G} {κ : bz_K} {l : Launch} {d : Nat} {F : Option bz_V → bz_H → Prop} {bc bs : Nat} (hl : κ.2.1 = l) (a0 : Nat) (x1 : Int32) (x2 : Int32) (h : bz_H) (hP0 : w_X3_isInApp_2 G κ l d F bc bs a0 x1 x2 h) : bz_J G κ kX3_isInApp (d + 1) F bc bs 2 [some (.inr (some a0)), some (.inl x1), some (.inl x2)] [] h := by
  subst hl
  unfold w_X3_isInApp_2 at hP0
  refine bz_iload_n (pc := 2) dX3_isInApp_2 rfl rfl ?_
  refine bz_aload_n (pc := 3) dX3_isInApp_3 rfl rfl ?_
  refine bz_rw_rR (pc := 4) dX3_isInApp_4 fl_X3_14 hP0 (fun r_1 hP1 => ?_)
  clear hP0
  obtain ⟨a_2, rfl, hP2⟩ := hP1
  refine bz_rw_rI (pc := 7) dX3_isInApp_7 fl_X3_45 hP2 (fun x_3 hP3 => ?_)
  clear hP2
  refine bz_icmp_ge (tgt := 46) (pc := 10) dX3_isInApp_10 rfl (fun c => ?_) (fun c => ?_)
  · have hP4 := hP3.1 c
    clear hP3
    refine bz_iconst (pc := 46) dX3_isInApp_46 ci_0 ?_
    exact bz_retI (pc := 47) dX3_isInApp_47 rfl rfl hP4
  · have hP5 := hP3.2 c
    clear hP3
    refine bz_aload_n (pc := 13) dX3_isInApp_13 rfl rfl ?_
    refine bz_rw_rR (pc := 14) dX3_isInApp_14 fl_X3_14 hP5 (fun r_4 hP6 => ?_)
    clear hP5
    refine bz_iload_n (pc := 17) dX3_isInApp_17 rfl rfl ?_
    refine bz_iload_n (pc := 18) dX3_isInApp_18 rfl rfl ?_
    obtain ⟨a_7, rfl, hP7⟩ := hP6
    refine bz_kIV (as := [.inl x2, .inl x1]) (st := []) (ci := 4) (n := 2) (mc := 0) (ms := 0) (bc := bc) (bs := bs) (yc := kX4_spans) (q := (RX4, TX4, 2)) (b := a_7) (pc := 19) dX3_isInApp_19 sc_X4_spans ml_X3_54 im_X4_spans se_X4_spans rfl rfl rfl (Nat.le_of_ble_eq_true rfl) hP7 (fun x_5 h_6 hP8 => ?_)
    clear hP7
    refine bz_if_eq (tgt := 40) (pc := 22) dX3_isInApp_22 rfl (fun c => ?_) (fun c => ?_)
    · have hP9 := hP8.1 c
      clear hP8
      refine bz_s_iinc (pc := 40) dX3_isInApp_40 (Nat.le_of_ble_eq_true rfl) rfl rfl [some (.inr (some a0)), some (.inl x1), some (.inl (x2 + 1))] rfl ?_
      refine bz_goto (tgt := 2) (pc := 43) dX3_isInApp_43 rfl ?_
      exact hP9
    · have hP10 := hP8.2 c
      clear hP8
      refine bz_iload_n (pc := 25) dX3_isInApp_25 rfl rfl ?_
      refine bz_aload_n (pc := 26) dX3_isInApp_26 rfl rfl ?_
      refine bz_rw_rR (pc := 27) dX3_isInApp_27 fl_X3_14 hP10 (fun r_8 hP11 => ?_)
      clear hP10
      refine bz_iload_n (pc := 30) dX3_isInApp_30 rfl rfl ?_
      refine bz_iconst (pc := 31) dX3_isInApp_31 ci_1 ?_
      obtain ⟨a_11, rfl, hP12⟩ := hP11
      refine bz_kIV (as := [.inl x2, .inl 1]) (st := [.inl x1]) (ci := 4) (n := 2) (mc := 0) (ms := 0) (bc := bc) (bs := bs) (yc := kX4_cell) (q := (RX4, TX4, 2)) (b := a_11) (pc := 32) dX3_isInApp_32 sc_X4_cell ml_X3_58 im_X4_cell se_X4_cell rfl rfl rfl (Nat.le_of_ble_eq_true rfl) hP12 (fun x_9 h_10 hP13 => ?_)
      clear hP12
      refine bz_icmp_eq (tgt := 40) (pc := 35) dX3_isInApp_35 rfl (fun c => ?_) (fun c => ?_)
      · have hP14 := hP13.1 c
        clear hP13
        refine bz_s_iinc (pc := 40) dX3_isInApp_40 (Nat.le_of_ble_eq_true rfl) rfl rfl [some (.inr (some a0)), some (.inl x1), some (.inl (x2 + 1))] rfl ?_
        refine bz_goto (tgt := 2) (pc := 43) dX3_isInApp_43 rfl ?_
        exact hP14
      · have hP15 := hP13.2 c
        clear hP13
        refine bz_iconst (pc := 38) dX3_isInApp_38 ci_1 ?_
        exact bz_retI (pc := 39) dX3_isInApp_39 rfl rfl hP15
theorem m_X3_isInApp {G : bz_G} {l : Launch} {d mc ms : Nat} {F : Option bz_V → bz_H → Prop} (a0 : Nat) (x1 : Int32) (h : bz_H) (hP : ∀ (κ : bz_K) (bc bs : Nat), κ.2.1 = l → w_X3_isInApp_0 G κ l d F bc bs a0 x1 h) : bz_Call G l (d + 1) kX3_isInApp [.inr (some a0), .inl x1] h mc ms F :=
  bz_body (by decide) (Nat.le_of_ble_eq_true rfl) (fun κ hl => g_X3_isInApp_0 hl a0 x1 h (hP κ mc ms hl))
def w_X3_startFrom_0 (G : bz_G) (l : Launch) (d : Nat) (F : Option bz_V → bz_H → Prop) (a0 : Nat) (x1 : Int32) (h : bz_H) : Prop := bz_rI h a0 3 5 (fun x_1 => F (some (.inl (if x1 < x_1 then x_1 else x1))) h)
set_option maxRecDepth 20000 in
set_option maxHeartbeats 4000000 in
theorem g_X3_startFrom_0 {G : bz_G} {κ : bz_K} {l : Launch} {d : Nat} {F : Option bz_V → bz_H → Prop} {bc bs : Nat} (hl : κ.2.1 = l) (a0 : Nat) (x1 : Int32) (h : bz_H) (hP0 : w_X3_startFrom_0 G l d F a0 x1 h) : bz_J G κ kX3_startFrom (d + 1) F bc bs 0 [some (.inr (some a0)), some (.inl x1)] [] h := by
  subst hl
  unfold w_X3_startFrom_0 at hP0
  refine bz_iload_n (pc := 0) dX3_startFrom_0 rfl rfl ?_
  refine bz_aload_n (pc := 1) dX3_startFrom_1 rfl rfl ?_
  refine bz_rw_rI (pc := 2) dX3_startFrom_2 fl_X3_36 hP0 (fun x_1 hP1 => ?_)
  clear hP0
  refine bz_mmax (pc := 5) dX3_startFrom_5 ml_X3_48 mt_max mt_init mt_code_max (Nat.succ_pos d) (Nat.le_of_ble_eq_true rfl) ?_
  exact bz_retI (pc := 8) dX3_startFrom_8 rfl rfl hP1
theorem m_X3_startFrom {G : bz_G} {l : Launch} {d mc ms : Nat} {F : Option bz_V → bz_H → Prop} (a0 : Nat) (x1 : Int32) (h : bz_H) (hP : w_X3_startFrom_0 G l d F a0 x1 h) : bz_Call G l (d + 1) kX3_startFrom [.inr (some a0), .inl x1] h mc ms F :=
  bz_body (by decide) (Nat.le_of_ble_eq_true rfl) (fun κ hl => g_X3_startFrom_0 hl a0 x1 h hP)
def w_X4_add_0 (G : bz_G) (l : Launch) (d : Nat) (F : Option bz_V → bz_H → Prop) (a0 : Nat) (x1 : Int32) (x2 : Int32) (x3 : Int32) (h : bz_H) : Prop := bz_rc h a0 4 (bz_cI G l d kX4_isFull [.inr (some a0)] h 0 0 (fun x_1 h_2 => (¬ x_1 = 0 → bz_rI h_2 a0 4 1 (fun x_3 => F (some (.inl x_3)) h_2)) ∧ (x_1 = 0 → bz_rR h_2 a0 4 0 (fun r_4 => bz_rI h_2 a0 4 1 (fun x_5 => bz_nn r_4 (fun a_6 => bz_wA h_2 a_6 (3 * x_5) x1 (fun h_7 => bz_rR h_7 a0 4 0 (fun r_8 => bz_rI h_7 a0 4 1 (fun x_9 => bz_nn r_8 (fun a_10 => bz_wA h_7 a_10 ((3 * x_9) + 1) x2 (fun h_11 => bz_rR h_11 a0 4 0 (fun r_12 => bz_rI h_11 a0 4 1 (fun x_13 => bz_nn r_12 (fun a_14 => bz_wA h_11 a_14 ((3 * x_13) + 2) x3 (fun h_15 => bz_rI h_15 a0 4 1 (fun x_16 => bz_wI h_15 a0 4 1 (x_16 + 1) (fun h_17 => bz_rI h_17 a0 4 1 (fun x_18 => F (some (.inl x_18)) h_17))))))))))))))))))
set_option maxRecDepth 20000 in
set_option maxHeartbeats 4000000 in
theorem g_X4_add_0 {G : bz_G} {κ : bz_K} {l : Launch} {d : Nat} {F : Option bz_V → bz_H → Prop} {bc bs : Nat} (hl : κ.2.1 = l) (a0 : Nat) (x1 : Int32) (x2 : Int32) (x3 : Int32) (h : bz_H) (hP0 : w_X4_add_0 G l d F a0 x1 x2 x3 h) : bz_J G κ kX4_add (d + 1) F bc bs 0 [some (.inr (some a0)), some (.inl x1), some (.inl x2), some (.inl x3)] [] h := by
  subst hl
  unfold w_X4_add_0 at hP0
  refine bz_aload_n (pc := 0) dX4_add_0 rfl rfl ?_
  refine bz_kIV (as := []) (st := []) (ci := 4) (n := 0) (mc := 0) (ms := 0) (bc := bc) (bs := bs) (yc := kX4_isFull) (q := (RX4, TX4, 2)) (b := a0) (pc := 1) dX4_add_1 sc_X4_isFull ml_X4_19 im_X4_isFull se_X4_isFull rfl rfl rfl (Nat.le_of_ble_eq_true rfl) hP0 (fun x_1 h_2 hP1 => ?_)
  clear hP0
  refine bz_if_ne (tgt := 57) (pc := 4) dX4_add_4 rfl (fun c => ?_) (fun c => ?_)
  · have hP2 := hP1.1 c
    clear hP1
    refine bz_aload_n (pc := 57) dX4_add_57 rfl rfl ?_
    refine bz_rw_rI (pc := 58) dX4_add_58 fl_X4_15 hP2 (fun x_3 hP3 => ?_)
    clear hP2
    exact bz_retI (pc := 61) dX4_add_61 rfl rfl hP3
  · have hP4 := hP1.2 c
    clear hP1
    refine bz_aload_n (pc := 7) dX4_add_7 rfl rfl ?_
    refine bz_rw_rR (pc := 8) dX4_add_8 fl_X4_9 hP4 (fun r_4 hP5 => ?_)
    clear hP4
    refine bz_iconst (pc := 11) dX4_add_11 ci_3 ?_
    refine bz_aload_n (pc := 12) dX4_add_12 rfl rfl ?_
    refine bz_rw_rI (pc := 13) dX4_add_13 fl_X4_15 hP5 (fun x_5 hP6 => ?_)
    clear hP5
    refine bz_imul (pc := 16) dX4_add_16 ?_
    refine bz_iload_n (pc := 17) dX4_add_17 rfl rfl ?_
    obtain ⟨a_6, rfl, hP7⟩ := hP6
    refine bz_rw_wA (pc := 18) dX4_add_18 hP7 (fun h_7 hP8 => ?_)
    clear hP7
    refine bz_aload_n (pc := 19) dX4_add_19 rfl rfl ?_
    refine bz_rw_rR (pc := 20) dX4_add_20 fl_X4_9 hP8 (fun r_8 hP9 => ?_)
    clear hP8
    refine bz_iconst (pc := 23) dX4_add_23 ci_3 ?_
    refine bz_aload_n (pc := 24) dX4_add_24 rfl rfl ?_
    refine bz_rw_rI (pc := 25) dX4_add_25 fl_X4_15 hP9 (fun x_9 hP10 => ?_)
    clear hP9
    refine bz_imul (pc := 28) dX4_add_28 ?_
    refine bz_iconst (pc := 29) dX4_add_29 ci_1 ?_
    refine bz_iadd (pc := 30) dX4_add_30 ?_
    refine bz_iload_n (pc := 31) dX4_add_31 rfl rfl ?_
    obtain ⟨a_10, rfl, hP11⟩ := hP10
    refine bz_rw_wA (pc := 32) dX4_add_32 hP11 (fun h_11 hP12 => ?_)
    clear hP11
    refine bz_aload_n (pc := 33) dX4_add_33 rfl rfl ?_
    refine bz_rw_rR (pc := 34) dX4_add_34 fl_X4_9 hP12 (fun r_12 hP13 => ?_)
    clear hP12
    refine bz_iconst (pc := 37) dX4_add_37 ci_3 ?_
    refine bz_aload_n (pc := 38) dX4_add_38 rfl rfl ?_
    refine bz_rw_rI (pc := 39) dX4_add_39 fl_X4_15 hP13 (fun x_13 hP14 => ?_)
    clear hP13
    refine bz_imul (pc := 42) dX4_add_42 ?_
    refine bz_iconst (pc := 43) dX4_add_43 ci_2 ?_
    refine bz_iadd (pc := 44) dX4_add_44 ?_
    refine bz_iload_n (pc := 45) dX4_add_45 rfl rfl ?_
    obtain ⟨a_14, rfl, hP15⟩ := hP14
    refine bz_rw_wA (pc := 46) dX4_add_46 hP15 (fun h_15 hP16 => ?_)
    clear hP15
    refine bz_aload_n (pc := 47) dX4_add_47 rfl rfl ?_
    refine bz_dup (pc := 48) dX4_add_48 ?_
    refine bz_rw_rI (pc := 49) dX4_add_49 fl_X4_15 hP16 (fun x_16 hP17 => ?_)
    clear hP16
    refine bz_iconst (pc := 52) dX4_add_52 ci_1 ?_
    refine bz_iadd (pc := 53) dX4_add_53 ?_
    refine bz_rw_wI (pc := 54) dX4_add_54 fl_X4_15 (fun q h9 => by cases h9; rfl) rfl hP17 (fun h_17 hP18 => ?_)
    clear hP17
    refine bz_aload_n (pc := 57) dX4_add_57 rfl rfl ?_
    refine bz_rw_rI (pc := 58) dX4_add_58 fl_X4_15 hP18 (fun x_18 hP19 => ?_)
    clear hP18
    exact bz_retI (pc := 61) dX4_add_61 rfl rfl hP19
theorem m_X4_add {G : bz_G} {l : Launch} {d mc ms : Nat} {F : Option bz_V → bz_H → Prop} (a0 : Nat) (x1 : Int32) (x2 : Int32) (x3 : Int32) (h : bz_H) (hP : w_X4_add_0 G l d F a0 x1 x2 x3 h) : bz_Call G l (d + 1) kX4_add [.inr (some a0), .inl x1, .inl x2, .inl x3] h mc ms F :=
  bz_body (by decide) (Nat.le_of_ble_eq_true rfl) (fun κ hl => g_X4_add_0 hl a0 x1 x2 x3 h hP)
def w_X4_becomeLike_0 (G : bz_G) (l : Launch) (d : Nat) (F : Option bz_V → bz_H → Prop) (a0 : Nat) (r1 : Option Nat) (h : bz_H) : Prop := bz_nn r1 (fun a_1 => bz_rR h a_1 4 0 (fun r_2 => bz_rR h a0 4 0 (fun r_3 => bz_rR h a0 4 0 (fun r_4 => bz_nn r_4 (fun a_5 => bz_rN h a_5 (fun x_6 => bz_rR h a_1 4 0 (fun r_7 => bz_nn r_7 (fun a_8 => bz_rN h a_8 (fun x_9 => bz_nn r_3 (fun a_10 => bz_nn r_2 (fun a_11 => bz_cp h a_11 0 a_10 0 (if x_9 < x_6 then x_9 else x_6) (fun h_12 => bz_rI h_12 a_1 4 1 (fun x_13 => bz_wI h_12 a0 4 1 x_13 (fun h_14 => F none h_14))))))))))))))
set_option maxRecDepth 20000 in
set_option maxHeartbeats 4000000 in
theorem g_X4_becomeLike_0 {G : bz_G} {κ : bz_K} {l : Launch} {d : Nat} {F : Option bz_V → bz_H → Prop} {bc bs : Nat} (hl : κ.2.1 = l) (a0 : Nat) (r1 : Option Nat) (h : bz_H) (hP0 : w_X4_becomeLike_0 G l d F a0 r1 h) : bz_J G κ kX4_becomeLike (d + 1) F bc bs 0 [some (.inr (some a0)), some (.inr r1)] [] h := by
  subst hl
  unfold w_X4_becomeLike_0 at hP0
  refine bz_aload_n (pc := 0) dX4_becomeLike_0 rfl rfl ?_
  obtain ⟨a_1, rfl, hP1⟩ := hP0
  refine bz_rw_rR (pc := 1) dX4_becomeLike_1 fl_X4_9 hP1 (fun r_2 hP2 => ?_)
  clear hP1
  refine bz_iconst (pc := 4) dX4_becomeLike_4 ci_0 ?_
  refine bz_aload_n (pc := 5) dX4_becomeLike_5 rfl rfl ?_
  refine bz_rw_rR (pc := 6) dX4_becomeLike_6 fl_X4_9 hP2 (fun r_3 hP3 => ?_)
  clear hP2
  refine bz_iconst (pc := 9) dX4_becomeLike_9 ci_0 ?_
  refine bz_aload_n (pc := 10) dX4_becomeLike_10 rfl rfl ?_
  refine bz_rw_rR (pc := 11) dX4_becomeLike_11 fl_X4_9 hP3 (fun r_4 hP4 => ?_)
  clear hP3
  obtain ⟨a_5, rfl, hP5⟩ := hP4
  refine bz_rw_rN (pc := 14) dX4_becomeLike_14 hP5 (fun x_6 hP6 => ?_)
  clear hP5
  refine bz_aload_n (pc := 15) dX4_becomeLike_15 rfl rfl ?_
  refine bz_rw_rR (pc := 16) dX4_becomeLike_16 fl_X4_9 hP6 (fun r_7 hP7 => ?_)
  clear hP6
  obtain ⟨a_8, rfl, hP8⟩ := hP7
  refine bz_rw_rN (pc := 19) dX4_becomeLike_19 hP8 (fun x_9 hP9 => ?_)
  clear hP8
  refine bz_mmin (pc := 20) dX4_becomeLike_20 ml_X4_31 mt_min mt_init mt_code_min (Nat.succ_pos d) (Nat.le_of_ble_eq_true rfl) ?_
  obtain ⟨a_10, rfl, hP10⟩ := hP9
  obtain ⟨a_11, rfl, hP11⟩ := hP10
  refine bz_rw_cp (pc := 23) dX4_becomeLike_23 ml_X4_36 ac_n ac_s ac_i (Nat.le_of_ble_eq_true rfl) hP11 (fun h_12 hP12 => ?_)
  clear hP11
  refine bz_aload_n (pc := 26) dX4_becomeLike_26 rfl rfl ?_
  refine bz_aload_n (pc := 27) dX4_becomeLike_27 rfl rfl ?_
  refine bz_rw_rI (pc := 28) dX4_becomeLike_28 fl_X4_15 hP12 (fun x_13 hP13 => ?_)
  clear hP12
  refine bz_rw_wI (pc := 31) dX4_becomeLike_31 fl_X4_15 (fun q h9 => by cases h9; rfl) rfl hP13 (fun h_14 hP14 => ?_)
  clear hP13
  exact bz_retV (pc := 34) dX4_becomeLike_34 rfl hP14
theorem m_X4_becomeLike {G : bz_G} {l : Launch} {d mc ms : Nat} {F : Option bz_V → bz_H → Prop} (a0 : Nat) (r1 : Option Nat) (h : bz_H) (hP : w_X4_becomeLike_0 G l d F a0 r1 h) : bz_Call G l (d + 1) kX4_becomeLike [.inr (some a0), .inr r1] h mc ms F :=
  bz_body (by decide) (Nat.le_of_ble_eq_true rfl) (fun κ hl => g_X4_becomeLike_0 hl a0 r1 h hP)
def w_X4_cell_0 (G : bz_G) (l : Launch) (d : Nat) (F : Option bz_V → bz_H → Prop) (a0 : Nat) (x1 : Int32) (x2 : Int32) (h : bz_H) : Prop := bz_rR h a0 4 0 (fun r_1 => bz_nn r_1 (fun a_2 => bz_rN h a_2 (fun x_3 => bz_cI G l d kX11_isWithin [.inl ((3 * x1) + x2), .inl 0, .inl (x_3 - 1)] h 0 0 (fun x_4 h_5 => (x_4 = 0 → F (some (.inl 0)) h_5) ∧ (¬ (x_4 = 0) → bz_rR h_5 a0 4 0 (fun r_6 => bz_nn r_6 (fun a_7 => bz_rA h_5 a_7 ((3 * x1) + x2) (fun x_8 => F (some (.inl x_8)) h_5))))))))
set_option maxRecDepth 20000 in
set_option maxHeartbeats 4000000 in
theorem g_X4_cell_0 {G : bz_G} {κ : bz_K} {l : Launch} {d : Nat} {F : Option bz_V → bz_H → Prop} {bc bs : Nat} (hl : κ.2.1 = l) (a0 : Nat) (x1 : Int32) (x2 : Int32) (h : bz_H) (hP0 : w_X4_cell_0 G l d F a0 x1 x2 h) : bz_J G κ kX4_cell (d + 1) F bc bs 0 [some (.inr (some a0)), some (.inl x1), some (.inl x2), none] [] h := by
  subst hl
  unfold w_X4_cell_0 at hP0
  refine bz_iconst (pc := 0) dX4_cell_0 ci_3 ?_
  refine bz_iload_n (pc := 1) dX4_cell_1 rfl rfl ?_
  refine bz_imul (pc := 2) dX4_cell_2 ?_
  refine bz_iload_n (pc := 3) dX4_cell_3 rfl rfl ?_
  refine bz_iadd (pc := 4) dX4_cell_4 ?_
  refine bz_s_istore_n (pc := 5) dX4_cell_5 rfl (Nat.le_of_ble_eq_true rfl) [some (.inr (some a0)), some (.inl x1), some (.inl x2), some (.inl ((3 * x1) + x2))] rfl ?_
  refine bz_iload_n (pc := 6) dX4_cell_6 rfl rfl ?_
  refine bz_iconst (pc := 7) dX4_cell_7 ci_0 ?_
  refine bz_aload_n (pc := 8) dX4_cell_8 rfl rfl ?_
  refine bz_rw_rR (pc := 9) dX4_cell_9 fl_X4_9 hP0 (fun r_1 hP1 => ?_)
  clear hP0
  obtain ⟨a_2, rfl, hP2⟩ := hP1
  refine bz_rw_rN (pc := 12) dX4_cell_12 hP2 (fun x_3 hP3 => ?_)
  clear hP2
  refine bz_iconst (pc := 13) dX4_cell_13 ci_1 ?_
  refine bz_isub (pc := 14) dX4_cell_14 ?_
  refine bz_kISN (as := [.inl ((3 * x1) + x2), .inl 0, .inl (x_3 - 1)]) (st := []) (n := 3) (mc := 0) (ms := 0) (bc := bc) (bs := bs) (yc := kX11_isWithin) (host := RX11) (pc := 15) dX4_cell_15 sc_X11_isWithin ml_X4_23 ss_X11_isWithin rfl (Nat.le_of_ble_eq_true rfl) hP3 (fun x_4 h_5 hP4 => ?_)
  clear hP3
  refine bz_if_eq (tgt := 30) (pc := 18) dX4_cell_18 rfl (fun c => ?_) (fun c => ?_)
  · have hP5 := hP4.1 c
    clear hP4
    refine bz_iconst (pc := 30) dX4_cell_30 ci_0 ?_
    exact bz_retI (pc := 31) dX4_cell_31 rfl rfl hP5
  · have hP6 := hP4.2 c
    clear hP4
    refine bz_aload_n (pc := 21) dX4_cell_21 rfl rfl ?_
    refine bz_rw_rR (pc := 22) dX4_cell_22 fl_X4_9 hP6 (fun r_6 hP7 => ?_)
    clear hP6
    refine bz_iload_n (pc := 25) dX4_cell_25 rfl rfl ?_
    obtain ⟨a_7, rfl, hP8⟩ := hP7
    refine bz_rw_rA (pc := 26) dX4_cell_26 hP8 (fun x_8 hP9 => ?_)
    clear hP8
    refine bz_goto (tgt := 31) (pc := 27) dX4_cell_27 rfl ?_
    exact bz_retI (pc := 31) dX4_cell_31 rfl rfl hP9
theorem m_X4_cell {G : bz_G} {l : Launch} {d mc ms : Nat} {F : Option bz_V → bz_H → Prop} (a0 : Nat) (x1 : Int32) (x2 : Int32) (h : bz_H) (hP : w_X4_cell_0 G l d F a0 x1 x2 h) : bz_Call G l (d + 1) kX4_cell [.inr (some a0), .inl x1, .inl x2] h mc ms F :=
  bz_body (by decide) (Nat.le_of_ble_eq_true rfl) (fun κ hl => g_X4_cell_0 hl a0 x1 x2 h hP)
def w_X4_isFull_0 (G : bz_G) (l : Launch) (d : Nat) (F : Option bz_V → bz_H → Prop) (a0 : Nat) (h : bz_H) : Prop := bz_rI h a0 4 1 (fun x_1 => bz_rR h a0 4 0 (fun r_2 => bz_nn r_2 (fun a_3 => bz_rN h a_3 (fun x_4 => F (some (.inl (if ((3 * x_1) + 2) < x_4 then 0 else 1))) h))))
set_option maxRecDepth 20000 in
set_option maxHeartbeats 4000000 in
theorem g_X4_isFull_0 {G : bz_G} {κ : bz_K} {l : Launch} {d : Nat} {F : Option bz_V → bz_H → Prop} {bc bs : Nat} (hl : κ.2.1 = l) (a0 : Nat) (h : bz_H) (hP0 : w_X4_isFull_0 G l d F a0 h) : bz_J G κ kX4_isFull (d + 1) F bc bs 0 [some (.inr (some a0))] [] h := by
  subst hl
  unfold w_X4_isFull_0 at hP0
  refine bz_iconst (pc := 0) dX4_isFull_0 ci_3 ?_
  refine bz_aload_n (pc := 1) dX4_isFull_1 rfl rfl ?_
  refine bz_rw_rI (pc := 2) dX4_isFull_2 fl_X4_15 hP0 (fun x_1 hP1 => ?_)
  clear hP0
  refine bz_imul (pc := 5) dX4_isFull_5 ?_
  refine bz_iconst (pc := 6) dX4_isFull_6 ci_2 ?_
  refine bz_iadd (pc := 7) dX4_isFull_7 ?_
  refine bz_aload_n (pc := 8) dX4_isFull_8 rfl rfl ?_
  refine bz_rw_rR (pc := 9) dX4_isFull_9 fl_X4_9 hP1 (fun r_2 hP2 => ?_)
  clear hP1
  obtain ⟨a_3, rfl, hP3⟩ := hP2
  refine bz_rw_rN (pc := 12) dX4_isFull_12 hP3 (fun x_4 hP4 => ?_)
  clear hP3
  have hJ : bz_J G κ kX4_isFull (d + 1) F bc bs 21 [some (.inr (some a0))] [.inl (if ((3 * x_1) + 2) < x_4 then 0 else 1)] h := by
    exact bz_retI (pc := 21) dX4_isFull_21 rfl (by (repeat' split) <;> rfl) hP4
  refine bz_icmp_lt (tgt := 20) (pc := 13) dX4_isFull_13 rfl (fun c => ?_) (fun c => ?_)
  · have e9 : ((if ((3 * x_1) + 2) < x_4 then 0 else 1) : Int32) = (0) := if_pos c
    rw [e9] at hJ
    refine bz_iconst (pc := 20) dX4_isFull_20 ci_0 ?_
    exact hJ
  · have e9 : ((if ((3 * x_1) + 2) < x_4 then 0 else 1) : Int32) = (1) := if_neg c
    rw [e9] at hJ
    refine bz_iconst (pc := 16) dX4_isFull_16 ci_1 ?_
    refine bz_goto (tgt := 21) (pc := 17) dX4_isFull_17 rfl ?_
    exact hJ
theorem m_X4_isFull {G : bz_G} {l : Launch} {d mc ms : Nat} {F : Option bz_V → bz_H → Prop} (a0 : Nat) (h : bz_H) (hP : w_X4_isFull_0 G l d F a0 h) : bz_Call G l (d + 1) kX4_isFull [.inr (some a0)] h mc ms F :=
  bz_body (by decide) (Nat.le_of_ble_eq_true rfl) (fun κ hl => g_X4_isFull_0 hl a0 h hP)
def w_X4_spans_0 (G : bz_G) (l : Launch) (d : Nat) (F : Option bz_V → bz_H → Prop) (a0 : Nat) (x1 : Int32) (x2 : Int32) (h : bz_H) : Prop := bz_rc h a0 4 (bz_cI G l d kX4_cell [.inr (some a0), .inl x1, .inl 0] h 0 0 (fun x_1 h_2 => (x2 < x_1 → F (some (.inl 0)) h_2) ∧ (¬ (x2 < x_1) → bz_rc h_2 a0 4 (bz_cI G l d kX4_cell [.inr (some a0), .inl x1, .inl 1] h_2 0 0 (fun x_3 h_4 => F (some (.inl (if x_3 < x2 then 0 else 1))) h_4)))))
set_option maxRecDepth 20000 in
set_option maxHeartbeats 4000000 in
theorem g_X4_spans_0 {G : bz_G} {κ : bz_K} {l : Launch} {d : Nat} {F : Option bz_V → bz_H → Prop} {bc bs : Nat} (hl : κ.2.1 = l) (a0 : Nat) (x1 : Int32) (x2 : Int32) (h : bz_H) (hP0 : w_X4_spans_0 G l d F a0 x1 x2 h) : bz_J G κ kX4_spans (d + 1) F bc bs 0 [some (.inr (some a0)), some (.inl x1), some (.inl x2)] [] h := by
  subst hl
  unfold w_X4_spans_0 at hP0
  refine bz_aload_n (pc := 0) dX4_spans_0 rfl rfl ?_
  refine bz_iload_n (pc := 1) dX4_spans_1 rfl rfl ?_
  refine bz_iconst (pc := 2) dX4_spans_2 ci_0 ?_
  refine bz_kIV (as := [.inl x1, .inl 0]) (st := []) (ci := 4) (n := 2) (mc := 0) (ms := 0) (bc := bc) (bs := bs) (yc := kX4_cell) (q := (RX4, TX4, 2)) (b := a0) (pc := 3) dX4_spans_3 sc_X4_cell ml_X4_27 im_X4_cell se_X4_cell rfl rfl rfl (Nat.le_of_ble_eq_true rfl) hP0 (fun x_1 h_2 hP1 => ?_)
  clear hP0
  refine bz_iload_n (pc := 6) dX4_spans_6 rfl rfl ?_
  refine bz_icmp_gt (tgt := 24) (pc := 7) dX4_spans_7 rfl (fun c => ?_) (fun c => ?_)
  · have hP2 := hP1.1 c
    clear hP1
    refine bz_iconst (pc := 24) dX4_spans_24 ci_0 ?_
    exact bz_retI (pc := 25) dX4_spans_25 rfl rfl hP2
  · have hP3 := hP1.2 c
    clear hP1
    refine bz_iload_n (pc := 10) dX4_spans_10 rfl rfl ?_
    refine bz_aload_n (pc := 11) dX4_spans_11 rfl rfl ?_
    refine bz_iload_n (pc := 12) dX4_spans_12 rfl rfl ?_
    refine bz_iconst (pc := 13) dX4_spans_13 ci_1 ?_
    refine bz_kIV (as := [.inl x1, .inl 1]) (st := [.inl x2]) (ci := 4) (n := 2) (mc := 0) (ms := 0) (bc := bc) (bs := bs) (yc := kX4_cell) (q := (RX4, TX4, 2)) (b := a0) (pc := 14) dX4_spans_14 sc_X4_cell ml_X4_27 im_X4_cell se_X4_cell rfl rfl rfl (Nat.le_of_ble_eq_true rfl) hP3 (fun x_3 h_4 hP4 => ?_)
    clear hP3
    have hJ : bz_J G κ kX4_spans (d + 1) F bc bs 25 [some (.inr (some a0)), some (.inl x1), some (.inl x2)] [.inl (if x_3 < x2 then 0 else 1)] h_4 := by
      exact bz_retI (pc := 25) dX4_spans_25 rfl (by (repeat' split) <;> rfl) hP4
    refine bz_icmp_gt (tgt := 24) (pc := 17) dX4_spans_17 rfl (fun c => ?_) (fun c => ?_)
    · have e9 : ((if x_3 < x2 then 0 else 1) : Int32) = (0) := if_pos c
      rw [e9] at hJ
      refine bz_iconst (pc := 24) dX4_spans_24 ci_0 ?_
      exact hJ
    · have e9 : ((if x_3 < x2 then 0 else 1) : Int32) = (1) := if_neg c
      rw [e9] at hJ
      refine bz_iconst (pc := 20) dX4_spans_20 ci_1 ?_
      refine bz_goto (tgt := 25) (pc := 21) dX4_spans_21 rfl ?_
      exact hJ
theorem m_X4_spans {G : bz_G} {l : Launch} {d mc ms : Nat} {F : Option bz_V → bz_H → Prop} (a0 : Nat) (x1 : Int32) (x2 : Int32) (h : bz_H) (hP : w_X4_spans_0 G l d F a0 x1 x2 h) : bz_Call G l (d + 1) kX4_spans [.inr (some a0), .inl x1, .inl x2] h mc ms F :=
  bz_body (by decide) (Nat.le_of_ble_eq_true rfl) (fun κ hl => g_X4_spans_0 hl a0 x1 x2 h hP)
def w_X5_begin_0 (G : bz_G) (l : Launch) (d : Nat) (F : Option bz_V → bz_H → Prop) (a0 : Nat) (x1 : Int32) (x2 : Int32) (h : bz_H) : Prop := bz_wI h a0 5 1 x1 (fun h_1 => bz_wI h_1 a0 5 2 (if x1 = 0 then 0 else x2) (fun h_2 => bz_rR h_2 a0 5 0 (fun r_3 => bz_cV G l d kJ7_fill_53178 [.inr r_3, .inl 0] h_2 0 0 (fun h_5 => F none h_5))))
set_option maxRecDepth 20000 in
set_option maxHeartbeats 4000000 in
theorem g_X5_begin_0 {G : bz_G} {κ : bz_K} {l : Launch} {d : Nat} {F : Option bz_V → bz_H → Prop} {bc bs : Nat} (hl : κ.2.1 = l) (a0 : Nat) (x1 : Int32) (x2 : Int32) (h : bz_H) (hP0 : w_X5_begin_0 G l d F a0 x1 x2 h) : bz_J G κ kX5_begin (d + 1) F bc bs 0 [some (.inr (some a0)), some (.inl x1), some (.inl x2)] [] h := by
  subst hl
  unfold w_X5_begin_0 at hP0
  refine bz_aload_n (pc := 0) dX5_begin_0 rfl rfl ?_
  refine bz_iload_n (pc := 1) dX5_begin_1 rfl rfl ?_
  refine bz_rw_wI (pc := 2) dX5_begin_2 fl_X5_15 (fun q h9 => by cases h9; rfl) rfl hP0 (fun h_1 hP1 => ?_)
  clear hP0
  refine bz_aload_n (pc := 5) dX5_begin_5 rfl rfl ?_
  refine bz_iload_n (pc := 6) dX5_begin_6 rfl rfl ?_
  have hJ : bz_J G κ kX5_begin (d + 1) F bc bs 15 [some (.inr (some a0)), some (.inl x1), some (.inl x2)] [.inl (if x1 = 0 then 0 else x2), .inr (some a0)] h_1 := by
    refine bz_rw_wI (pc := 15) dX5_begin_15 fl_X5_19 (fun q h9 => by cases h9; rfl) rfl hP1 (fun h_2 hP2 => ?_)
    clear hP1
    refine bz_aload_n (pc := 18) dX5_begin_18 rfl rfl ?_
    refine bz_rw_rR (pc := 19) dX5_begin_19 fl_X5_9 hP2 (fun r_3 hP3 => ?_)
    clear hP2
    refine bz_iconst (pc := 22) dX5_begin_22 ci_0 ?_
    refine bz_kVS (as := [.inr r_3, .inl 0]) (st := []) (n := 2) (mc := 0) (ms := 0) (bc := bc) (bs := bs) (yc := kJ7_fill_53178) (pc := 23) dX5_begin_23 sc_J7_fill_53178 ml_X5_22 ss_J7_fill_53178 rfl (Nat.le_of_ble_eq_true rfl) hP3 (fun h_5 hP4 => ?_)
    clear hP3
    exact bz_retV (pc := 26) dX5_begin_26 rfl hP4
  refine bz_if_ne (tgt := 14) (pc := 7) dX5_begin_7 rfl (fun c => ?_) (fun c => ?_)
  · have e9 : ((if x1 = 0 then 0 else x2) : Int32) = (x2) := if_neg c
    rw [e9] at hJ
    refine bz_iload_n (pc := 14) dX5_begin_14 rfl rfl ?_
    exact hJ
  · have e9 : ((if x1 = 0 then 0 else x2) : Int32) = (0) := if_pos c
    rw [e9] at hJ
    refine bz_iconst (pc := 10) dX5_begin_10 ci_0 ?_
    refine bz_goto (tgt := 15) (pc := 11) dX5_begin_11 rfl ?_
    exact hJ
theorem m_X5_begin {G : bz_G} {l : Launch} {d mc ms : Nat} {F : Option bz_V → bz_H → Prop} (a0 : Nat) (x1 : Int32) (x2 : Int32) (h : bz_H) (hP : w_X5_begin_0 G l d F a0 x1 x2 h) : bz_Call G l (d + 1) kX5_begin [.inr (some a0), .inl x1, .inl x2] h mc ms F :=
  bz_body (by decide) (Nat.le_of_ble_eq_true rfl) (fun κ hl => g_X5_begin_0 hl a0 x1 x2 h hP)
def w_X5_hasRun_0 (G : bz_G) (l : Launch) (d : Nat) (F : Option bz_V → bz_H → Prop) (a0 : Nat) (x1 : Int32) (x2 : Int32) (h : bz_H) : Prop := (x1 < 0 → F (some (.inl 0)) h) ∧ (¬ (x1 < 0) → (x2 < 0 → F (some (.inl 0)) h) ∧ (¬ (x2 < 0) → bz_rI h a0 5 2 (fun x_1 => (x_1 < x2 → F (some (.inl 0)) h) ∧ (¬ (x_1 < x2) → bz_rI h a0 5 2 (fun x_2 => F (some (.inl (if (x_2 - x2) < x1 then 0 else 1))) h)))))
set_option maxRecDepth 20000 in
set_option maxHeartbeats 4000000 in
theorem g_X5_hasRun_0 {G : bz_G} {κ : bz_K} {l : Launch} {d : Nat} {F : Option bz_V → bz_H → Prop} {bc bs : Nat} (hl : κ.2.1 = l) (a0 : Nat) (x1 : Int32) (x2 : Int32) (h : bz_H) (hP0 : w_X5_hasRun_0 G l d F a0 x1 x2 h) : bz_J G κ kX5_hasRun (d + 1) F bc bs 0 [some (.inr (some a0)), some (.inl x1), some (.inl x2)] [] h := by
  subst hl
  unfold w_X5_hasRun_0 at hP0
  refine bz_iload_n (pc := 0) dX5_hasRun_0 rfl rfl ?_
  refine bz_if_lt (tgt := 30) (pc := 1) dX5_hasRun_1 rfl (fun c => ?_) (fun c => ?_)
  · have hP1 := hP0.1 c
    clear hP0
    refine bz_iconst (pc := 30) dX5_hasRun_30 ci_0 ?_
    exact bz_retI (pc := 31) dX5_hasRun_31 rfl rfl hP1
  · have hP2 := hP0.2 c
    clear hP0
    refine bz_iload_n (pc := 4) dX5_hasRun_4 rfl rfl ?_
    refine bz_if_lt (tgt := 30) (pc := 5) dX5_hasRun_5 rfl (fun c => ?_) (fun c => ?_)
    · have hP3 := hP2.1 c
      clear hP2
      refine bz_iconst (pc := 30) dX5_hasRun_30 ci_0 ?_
      exact bz_retI (pc := 31) dX5_hasRun_31 rfl rfl hP3
    · have hP4 := hP2.2 c
      clear hP2
      refine bz_iload_n (pc := 8) dX5_hasRun_8 rfl rfl ?_
      refine bz_aload_n (pc := 9) dX5_hasRun_9 rfl rfl ?_
      refine bz_rw_rI (pc := 10) dX5_hasRun_10 fl_X5_19 hP4 (fun x_1 hP5 => ?_)
      clear hP4
      refine bz_icmp_gt (tgt := 30) (pc := 13) dX5_hasRun_13 rfl (fun c => ?_) (fun c => ?_)
      · have hP6 := hP5.1 c
        clear hP5
        refine bz_iconst (pc := 30) dX5_hasRun_30 ci_0 ?_
        exact bz_retI (pc := 31) dX5_hasRun_31 rfl rfl hP6
      · have hP7 := hP5.2 c
        clear hP5
        refine bz_iload_n (pc := 16) dX5_hasRun_16 rfl rfl ?_
        refine bz_aload_n (pc := 17) dX5_hasRun_17 rfl rfl ?_
        refine bz_rw_rI (pc := 18) dX5_hasRun_18 fl_X5_19 hP7 (fun x_2 hP8 => ?_)
        clear hP7
        refine bz_iload_n (pc := 21) dX5_hasRun_21 rfl rfl ?_
        refine bz_isub (pc := 22) dX5_hasRun_22 ?_
        have hJ : bz_J G κ kX5_hasRun (d + 1) F bc bs 31 [some (.inr (some a0)), some (.inl x1), some (.inl x2)] [.inl (if (x_2 - x2) < x1 then 0 else 1)] h := by
          exact bz_retI (pc := 31) dX5_hasRun_31 rfl (by (repeat' split) <;> rfl) hP8
        refine bz_icmp_gt (tgt := 30) (pc := 23) dX5_hasRun_23 rfl (fun c => ?_) (fun c => ?_)
        · have e9 : ((if (x_2 - x2) < x1 then 0 else 1) : Int32) = (0) := if_pos c
          rw [e9] at hJ
          refine bz_iconst (pc := 30) dX5_hasRun_30 ci_0 ?_
          exact hJ
        · have e9 : ((if (x_2 - x2) < x1 then 0 else 1) : Int32) = (1) := if_neg c
          rw [e9] at hJ
          refine bz_iconst (pc := 26) dX5_hasRun_26 ci_1 ?_
          refine bz_goto (tgt := 31) (pc := 27) dX5_hasRun_27 rfl ?_
          exact hJ
theorem m_X5_hasRun {G : bz_G} {l : Launch} {d mc ms : Nat} {F : Option bz_V → bz_H → Prop} (a0 : Nat) (x1 : Int32) (x2 : Int32) (h : bz_H) (hP : w_X5_hasRun_0 G l d F a0 x1 x2 h) : bz_Call G l (d + 1) kX5_hasRun [.inr (some a0), .inl x1, .inl x2] h mc ms F :=
  bz_body (by decide) (Nat.le_of_ble_eq_true rfl) (fun κ hl => g_X5_hasRun_0 hl a0 x1 x2 h hP)
def w_X5_isMissing_0 (G : bz_G) (l : Launch) (d : Nat) (F : Option bz_V → bz_H → Prop) (a0 : Nat) (h : bz_H) : Prop := bz_rI h a0 5 1 (fun x_1 => F (some (.inl (if x_1 = 0 then 1 else 0))) h)
set_option maxRecDepth 20000 in
set_option maxHeartbeats 4000000 in
theorem g_X5_isMissing_0 {G : bz_G} {κ : bz_K} {l : Launch} {d : Nat} {F : Option bz_V → bz_H → Prop} {bc bs : Nat} (hl : κ.2.1 = l) (a0 : Nat) (h : bz_H) (hP0 : w_X5_isMissing_0 G l d F a0 h) : bz_J G κ kX5_isMissing (d + 1) F bc bs 0 [some (.inr (some a0))] [] h := by
  subst hl
  unfold w_X5_isMissing_0 at hP0
  refine bz_aload_n (pc := 0) dX5_isMissing_0 rfl rfl ?_
  refine bz_rw_rI (pc := 1) dX5_isMissing_1 fl_X5_15 hP0 (fun x_1 hP1 => ?_)
  clear hP0
  have hJ : bz_J G κ kX5_isMissing (d + 1) F bc bs 12 [some (.inr (some a0))] [.inl (if x_1 = 0 then 1 else 0)] h := by
    exact bz_retI (pc := 12) dX5_isMissing_12 rfl (by (repeat' split) <;> rfl) hP1
  refine bz_if_ne (tgt := 11) (pc := 4) dX5_isMissing_4 rfl (fun c => ?_) (fun c => ?_)
  · have e9 : ((if x_1 = 0 then 1 else 0) : Int32) = (0) := if_neg c
    rw [e9] at hJ
    refine bz_iconst (pc := 11) dX5_isMissing_11 ci_0 ?_
    exact hJ
  · have e9 : ((if x_1 = 0 then 1 else 0) : Int32) = (1) := if_pos c
    rw [e9] at hJ
    refine bz_iconst (pc := 7) dX5_isMissing_7 ci_1 ?_
    refine bz_goto (tgt := 12) (pc := 8) dX5_isMissing_8 rfl ?_
    exact hJ
theorem m_X5_isMissing {G : bz_G} {l : Launch} {d mc ms : Nat} {F : Option bz_V → bz_H → Prop} (a0 : Nat) (h : bz_H) (hP : w_X5_isMissing_0 G l d F a0 h) : bz_Call G l (d + 1) kX5_isMissing [.inr (some a0)] h mc ms F :=
  bz_body (by decide) (Nat.le_of_ble_eq_true rfl) (fun κ hl => g_X5_isMissing_0 hl a0 h hP)
def w_X5_put_0 (G : bz_G) (l : Launch) (d : Nat) (F : Option bz_V → bz_H → Prop) (a0 : Nat) (x1 : Int32) (x2 : Int32) (h : bz_H) : Prop := bz_rI h a0 5 1 (fun x_1 => (x_1 = 8 → bz_rR h a0 5 0 (fun r_2 => bz_nn r_2 (fun a_3 => bz_wA h a_3 x1 x2.toInt8.toInt32 (fun h_4 => F none h_4)))) ∧ (¬ x_1 = 8 → (x_1 = 16 → bz_rR h a0 5 0 (fun r_5 => bz_nn r_5 (fun a_6 => bz_wA h a_6 x1 x2.toInt16.toInt32 (fun h_7 => F none h_7)))) ∧ (¬ x_1 = 16 → bz_rR h a0 5 0 (fun r_8 => bz_nn r_8 (fun a_9 => bz_wA h a_9 x1 x2 (fun h_10 => F none h_10))))))
set_option maxRecDepth 20000 in
set_option maxHeartbeats 4000000 in
theorem g_X5_put_0 {G : bz_G} {κ : bz_K} {l : Launch} {d : Nat} {F : Option bz_V → bz_H → Prop} {bc bs : Nat} (hl : κ.2.1 = l) (a0 : Nat) (x1 : Int32) (x2 : Int32) (h : bz_H) (hP0 : w_X5_put_0 G l d F a0 x1 x2 h) : bz_J G κ kX5_put (d + 1) F bc bs 0 [some (.inr (some a0)), some (.inl x1), some (.inl x2)] [] h := by
  subst hl
  unfold w_X5_put_0 at hP0
  refine bz_aload_n (pc := 0) dX5_put_0 rfl rfl ?_
  refine bz_rw_rI (pc := 1) dX5_put_1 fl_X5_15 hP0 (fun x_1 hP1 => ?_)
  clear hP0
  refine bz_lookup (pc := 4) [(8, 28), (16, 39)] dX5_put_4 (by decide) (by decide) (by decide) (by decide) ?_
  refine ⟨fun c => ?_, fun c => ?_⟩
  · have hP2 := hP1.1 c
    clear hP1
    show bz_J G κ kX5_put (d + 1) F bc bs 32 [some (.inr (some a0)), some (.inl x1), some (.inl x2)] [] h
    refine bz_aload_n (pc := 32) dX5_put_32 rfl rfl ?_
    refine bz_rw_rR (pc := 33) dX5_put_33 fl_X5_9 hP2 (fun r_2 hP3 => ?_)
    clear hP2
    refine bz_iload_n (pc := 36) dX5_put_36 rfl rfl ?_
    refine bz_iload_n (pc := 37) dX5_put_37 rfl rfl ?_
    refine bz_i2b (pc := 38) dX5_put_38 ?_
    obtain ⟨a_3, rfl, hP4⟩ := hP3
    refine bz_rw_wA (pc := 39) dX5_put_39 hP4 (fun h_4 hP5 => ?_)
    clear hP4
    refine bz_goto (tgt := 61) (pc := 40) dX5_put_40 rfl ?_
    exact bz_retV (pc := 61) dX5_put_61 rfl hP5
  · have hP6 := hP1.2 c
    clear hP1
    refine ⟨fun c => ?_, fun c => ?_⟩
    · have hP7 := hP6.1 c
      clear hP6
      show bz_J G κ kX5_put (d + 1) F bc bs 43 [some (.inr (some a0)), some (.inl x1), some (.inl x2)] [] h
      refine bz_aload_n (pc := 43) dX5_put_43 rfl rfl ?_
      refine bz_rw_rR (pc := 44) dX5_put_44 fl_X5_9 hP7 (fun r_5 hP8 => ?_)
      clear hP7
      refine bz_iload_n (pc := 47) dX5_put_47 rfl rfl ?_
      refine bz_iload_n (pc := 48) dX5_put_48 rfl rfl ?_
      refine bz_i2s (pc := 49) dX5_put_49 ?_
      obtain ⟨a_6, rfl, hP9⟩ := hP8
      refine bz_rw_wA (pc := 50) dX5_put_50 hP9 (fun h_7 hP10 => ?_)
      clear hP9
      refine bz_goto (tgt := 61) (pc := 51) dX5_put_51 rfl ?_
      exact bz_retV (pc := 61) dX5_put_61 rfl hP10
    · have hP11 := hP6.2 c
      clear hP6
      show bz_J G κ kX5_put (d + 1) F bc bs 54 [some (.inr (some a0)), some (.inl x1), some (.inl x2)] [] h
      refine bz_aload_n (pc := 54) dX5_put_54 rfl rfl ?_
      refine bz_rw_rR (pc := 55) dX5_put_55 fl_X5_9 hP11 (fun r_8 hP12 => ?_)
      clear hP11
      refine bz_iload_n (pc := 58) dX5_put_58 rfl rfl ?_
      refine bz_iload_n (pc := 59) dX5_put_59 rfl rfl ?_
      obtain ⟨a_9, rfl, hP13⟩ := hP12
      refine bz_rw_wA (pc := 60) dX5_put_60 hP13 (fun h_10 hP14 => ?_)
      clear hP13
      exact bz_retV (pc := 61) dX5_put_61 rfl hP14
theorem m_X5_put {G : bz_G} {l : Launch} {d mc ms : Nat} {F : Option bz_V → bz_H → Prop} (a0 : Nat) (x1 : Int32) (x2 : Int32) (h : bz_H) (hP : w_X5_put_0 G l d F a0 x1 x2 h) : bz_Call G l (d + 1) kX5_put [.inr (some a0), .inl x1, .inl x2] h mc ms F :=
  bz_body (by decide) (Nat.le_of_ble_eq_true rfl) (fun κ hl => g_X5_put_0 hl a0 x1 x2 h hP)
