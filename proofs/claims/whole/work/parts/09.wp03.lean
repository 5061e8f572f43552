def w_X11_copy_0 (G : bz_G) (l : Launch) (d : Nat) (F : Option bz_V → bz_H → Prop) (a0 : Nat) (x1 : Int32) (x2 : Int32) (x3 : Int32) (x4 : Int32) (x5 : Int32) (h : bz_H) : Prop := bz_rc h a0 11 (bz_cR G l d kX11_sheetAt [.inr (some a0), .inl x1] h 0 0 (fun r_1 h_2 => bz_rc h_2 a0 11 (bz_cR G l d kX11_sheetAt [.inr (some a0), .inl x3] h_2 0 0 (fun r_3 h_4 => (r_1 = none → bz_rc h_4 a0 11 (bz_cI G l d kX11_finding [.inr (some a0), .inl (-1000001)] h_4 0 0 (fun x_6 h_7 => F (some (.inl x_6)) h_7))) ∧ (∀ a_5, r_1 = some a_5 → (∀ a_8, r_3 = some a_8 → bz_rc h_4 a_5 5 (bz_cI G l d kX5_isMissing [.inr (some a_5)] h_4 0 0 (fun x_11 h_12 => (¬ x_11 = 0 → bz_rc h_12 a0 11 (bz_cI G l d kX11_finding [.inr (some a0), .inl (-1000006)] h_12 0 0 (fun x_13 h_14 => F (some (.inl x_13)) h_14))) ∧ (x_11 = 0 → bz_rc h_12 a_8 5 (bz_cI G l d kX5_isMissing [.inr (some a_8)] h_12 0 0 (fun x_15 h_16 => (x_15 = 0 → bz_rI h_16 a_5 5 1 (fun x_17 => bz_rI h_16 a_8 5 1 (fun x_18 => (x_17 = x_18 → bz_rc h_16 a_5 5 (bz_cI G l d kX5_hasRun [.inr (some a_5), .inl x2, .inl x5] h_16 0 0 (fun x_19 h_20 => (x_19 = 0 → bz_rc h_20 a0 11 (bz_cI G l d kX11_finding [.inr (some a0), .inl (-1000001)] h_20 0 0 (fun x_21 h_22 => F (some (.inl x_21)) h_22))) ∧ (¬ (x_19 = 0) → bz_rc h_20 a_8 5 (bz_cI G l d kX5_hasRun [.inr (some a_8), .inl x4, .inl x5] h_20 0 0 (fun x_23 h_24 => (¬ x_23 = 0 → bz_rR h_24 a_5 5 0 (fun r_25 => bz_rR h_24 a_8 5 0 (fun r_26 => bz_nn r_26 (fun a_27 => bz_nn r_25 (fun a_28 => bz_cp h_24 a_28 x2 a_27 x4 x5 (fun h_29 => F (some (.inl x5)) h_29)))))) ∧ (x_23 = 0 → bz_rc h_24 a0 11 (bz_cI G l d kX11_finding [.inr (some a0), .inl (-1000001)] h_24 0 0 (fun x_30 h_31 => F (some (.inl x_30)) h_31))))))))) ∧ (¬ (x_17 = x_18) → bz_rc h_16 a0 11 (bz_cI G l d kX11_finding [.inr (some a0), .inl (-1000003)] h_16 0 0 (fun x_32 h_33 => F (some (.inl x_32)) h_33)))))) ∧ (¬ (x_15 = 0) → bz_rc h_16 a0 11 (bz_cI G l d kX11_finding [.inr (some a0), .inl (-1000006)] h_16 0 0 (fun x_34 h_35 => F (some (.inl x_34)) h_35))))))))) ∧ (r_3 = none → bz_rc h_4 a0 11 (bz_cI G l d kX11_finding [.inr (some a0), .inl (-1000001)] h_4 0 0 (fun x_9 h_10 => F (some (.inl x_9)) h_10))))))))
set_option maxRecDepth 20000 in
set_option maxHeartbeats 4000000 in
theorem g_X11_copy_0 {G : bz_G} {κ : bz_K} {l : Launch} {d : Nat} {F : Option bz_V → bz_H → Prop} {bc bs : Nat} (hl : κ.2.1 = l) (a0 : Nat) (x1 : Int32) (x2 : Int32) (x3 : Int32) (x4 : Int32) (x5 : Int32) (h : bz_H) (hP0 : w_X11_copy_0 G l d F a0 x1 x2 x3 x4 x5 h) : bz_J G κ kX11_copy (d + 1) F bc bs 0 [some (.inr (some a0)), some (.inl x1), some (.inl x2), some (.inl x3), some (.inl x4), some (.inl x5), none, none] [] h := by
  subst hl
  unfold w_X11_copy_0 at hP0
  refine bz_aload_n (pc := 0) dX11_copy_0 rfl rfl ?_
  refine bz_iload_n (pc := 1) dX11_copy_1 rfl rfl ?_
  refine bz_kRV (as := [.inl x1]) (st := []) (ci := 11) (n := 1) (mc := 0) (ms := 0) (bc := bc) (bs := bs) (yc := kX11_sheetAt) (q := (RX11, TX11, 9)) (b := a0) (pc := 2) dX11_copy_2 sc_X11_sheetAt ml_X11_380 im_X11_sheetAt se_X11_sheetAt rfl rfl rfl (Nat.le_of_ble_eq_true rfl) hP0 (fun r_1 h_2 hP1 => ?_)
  clear hP0
  refine bz_s_astore (pc := 5) dX11_copy_5 (Nat.le_of_ble_eq_true rfl) [some (.inr (some a0)), some (.inl x1), some (.inl x2), some (.inl x3), some (.inl x4), some (.inl x5), some (.inr r_1), none] rfl ?_
  refine bz_aload_n (pc := 7) dX11_copy_7 rfl rfl ?_
  refine bz_iload_n (pc := 8) dX11_copy_8 rfl rfl ?_
  refine bz_kRV (as := [.inl x3]) (st := []) (ci := 11) (n := 1) (mc := 0) (ms := 0) (bc := bc) (bs := bs) (yc := kX11_sheetAt) (q := (RX11, TX11, 9)) (b := a0) (pc := 9) dX11_copy_9 sc_X11_sheetAt ml_X11_380 im_X11_sheetAt se_X11_sheetAt rfl rfl rfl (Nat.le_of_ble_eq_true rfl) hP1 (fun r_3 h_4 hP2 => ?_)
  clear hP1
  refine bz_s_astore (pc := 12) dX11_copy_12 (Nat.le_of_ble_eq_true rfl) [some (.inr (some a0)), some (.inl x1), some (.inl x2), some (.inl x3), some (.inl x4), some (.inl x5), some (.inr r_1), some (.inr r_3)] rfl ?_
  refine bz_aload (pc := 14) dX11_copy_14 rfl ?_
  refine bz_ifnull (tgt := 24) (pc := 16) dX11_copy_16 rfl (fun c => ?_) (fun a_5 c => ?_)
  · have hP3 := hP2.1 c
    clear hP2
    subst c
    refine bz_aload_n (pc := 24) dX11_copy_24 rfl rfl ?_
    refine bz_ldc (pc := 25) dX11_copy_25 ct_X11_78 ?_
    refine bz_kIV (as := [.inl (-1000001)]) (st := []) (ci := 11) (n := 1) (mc := 0) (ms := 0) (bc := bc) (bs := bs) (yc := kX11_finding) (q := (RX11, TX11, 9)) (b := a0) (pc := 27) dX11_copy_27 sc_X11_finding ml_X11_79 im_X11_finding se_X11_finding rfl rfl rfl (Nat.le_of_ble_eq_true rfl) hP3 (fun x_6 h_7 hP4 => ?_)
    clear hP3
    exact bz_retI (pc := 30) dX11_copy_30 rfl rfl hP4
  · have hP5 := hP2.2 a_5 c
    clear hP2
    subst c
    refine bz_aload (pc := 19) dX11_copy_19 rfl ?_
    refine bz_ifnonnull (tgt := 31) (pc := 21) dX11_copy_21 rfl (fun a_8 c => ?_) (fun c => ?_)
    · have hP6 := hP5.1 a_8 c
      clear hP5
      subst c
      refine bz_aload (pc := 31) dX11_copy_31 rfl ?_
      refine bz_kIV (as := []) (st := []) (ci := 5) (n := 0) (mc := 0) (ms := 0) (bc := bc) (bs := bs) (yc := kX5_isMissing) (q := (RX5, TX5, 3)) (b := a_5) (pc := 33) dX11_copy_33 sc_X5_isMissing ml_X11_389 im_X5_isMissing se_X5_isMissing rfl rfl rfl (Nat.le_of_ble_eq_true rfl) hP6 (fun x_11 h_12 hP7 => ?_)
      clear hP6
      refine bz_if_ne (tgt := 47) (pc := 36) dX11_copy_36 rfl (fun c => ?_) (fun c => ?_)
      · have hP8 := hP7.1 c
        clear hP7
        refine bz_aload_n (pc := 47) dX11_copy_47 rfl rfl ?_
        refine bz_ldcw (pc := 48) dX11_copy_48 ct_X11_374 ?_
        refine bz_kIV (as := [.inl (-1000006)]) (st := []) (ci := 11) (n := 1) (mc := 0) (ms := 0) (bc := bc) (bs := bs) (yc := kX11_finding) (q := (RX11, TX11, 9)) (b := a0) (pc := 51) dX11_copy_51 sc_X11_finding ml_X11_79 im_X11_finding se_X11_finding rfl rfl rfl (Nat.le_of_ble_eq_true rfl) hP8 (fun x_13 h_14 hP9 => ?_)
        clear hP8
        exact bz_retI (pc := 54) dX11_copy_54 rfl rfl hP9
      · have hP10 := hP7.2 c
        clear hP7
        refine bz_aload (pc := 39) dX11_copy_39 rfl ?_
        refine bz_kIV (as := []) (st := []) (ci := 5) (n := 0) (mc := 0) (ms := 0) (bc := bc) (bs := bs) (yc := kX5_isMissing) (q := (RX5, TX5, 3)) (b := a_8) (pc := 41) dX11_copy_41 sc_X5_isMissing ml_X11_389 im_X5_isMissing se_X5_isMissing rfl rfl rfl (Nat.le_of_ble_eq_true rfl) hP10 (fun x_15 h_16 hP11 => ?_)
        clear hP10
        refine bz_if_eq (tgt := 55) (pc := 44) dX11_copy_44 rfl (fun c => ?_) (fun c => ?_)
        · have hP12 := hP11.1 c
          clear hP11
          refine bz_aload (pc := 55) dX11_copy_55 rfl ?_
          refine bz_rw_rI (pc := 57) dX11_copy_57 fl_X11_395 hP12 (fun x_17 hP13 => ?_)
          clear hP12
          refine bz_aload (pc := 60) dX11_copy_60 rfl ?_
          refine bz_rw_rI (pc := 62) dX11_copy_62 fl_X11_395 hP13 (fun x_18 hP14 => ?_)
          clear hP13
          refine bz_icmp_eq (tgt := 76) (pc := 65) dX11_copy_65 rfl (fun c => ?_) (fun c => ?_)
          · have hP15 := hP14.1 c
            clear hP14
            refine bz_aload (pc := 76) dX11_copy_76 rfl ?_
            refine bz_iload_n (pc := 78) dX11_copy_78 rfl rfl ?_
            refine bz_iload (pc := 79) dX11_copy_79 rfl ?_
            refine bz_kIV (as := [.inl x2, .inl x5]) (st := []) (ci := 5) (n := 2) (mc := 0) (ms := 0) (bc := bc) (bs := bs) (yc := kX5_hasRun) (q := (RX5, TX5, 3)) (b := a_5) (pc := 81) dX11_copy_81 sc_X5_hasRun ml_X11_398 im_X5_hasRun se_X5_hasRun rfl rfl rfl (Nat.le_of_ble_eq_true rfl) hP15 (fun x_19 h_20 hP16 => ?_)
            clear hP15
            refine bz_if_eq (tgt := 99) (pc := 84) dX11_copy_84 rfl (fun c => ?_) (fun c => ?_)
            · have hP17 := hP16.1 c
              clear hP16
              refine bz_aload_n (pc := 99) dX11_copy_99 rfl rfl ?_
              refine bz_ldc (pc := 100) dX11_copy_100 ct_X11_78 ?_
              refine bz_kIV (as := [.inl (-1000001)]) (st := []) (ci := 11) (n := 1) (mc := 0) (ms := 0) (bc := bc) (bs := bs) (yc := kX11_finding) (q := (RX11, TX11, 9)) (b := a0) (pc := 102) dX11_copy_102 sc_X11_finding ml_X11_79 im_X11_finding se_X11_finding rfl rfl rfl (Nat.le_of_ble_eq_true rfl) hP17 (fun x_21 h_22 hP18 => ?_)
              clear hP17
              exact bz_retI (pc := 105) dX11_copy_105 rfl rfl hP18
            · have hP19 := hP16.2 c
              clear hP16
              refine bz_aload (pc := 87) dX11_copy_87 rfl ?_
              refine bz_iload (pc := 89) dX11_copy_89 rfl ?_
              refine bz_iload (pc := 91) dX11_copy_91 rfl ?_
              refine bz_kIV (as := [.inl x4, .inl x5]) (st := []) (ci := 5) (n := 2) (mc := 0) (ms := 0) (bc := bc) (bs := bs) (yc := kX5_hasRun) (q := (RX5, TX5, 3)) (b := a_8) (pc := 93) dX11_copy_93 sc_X5_hasRun ml_X11_398 im_X5_hasRun se_X5_hasRun rfl rfl rfl (Nat.le_of_ble_eq_true rfl) hP19 (fun x_23 h_24 hP20 => ?_)
              clear hP19
              refine bz_if_ne (tgt := 106) (pc := 96) dX11_copy_96 rfl (fun c => ?_) (fun c => ?_)
              · have hP21 := hP20.1 c
                clear hP20
                refine bz_aload (pc := 106) dX11_copy_106 rfl ?_
                refine bz_rw_rR (pc := 108) dX11_copy_108 fl_X11_401 hP21 (fun r_25 hP22 => ?_)
                clear hP21
                refine bz_iload_n (pc := 111) dX11_copy_111 rfl rfl ?_
                refine bz_aload (pc := 112) dX11_copy_112 rfl ?_
                refine bz_rw_rR (pc := 114) dX11_copy_114 fl_X11_401 hP22 (fun r_26 hP23 => ?_)
                clear hP22
                refine bz_iload (pc := 117) dX11_copy_117 rfl ?_
                refine bz_iload (pc := 119) dX11_copy_119 rfl ?_
                obtain ⟨a_27, rfl, hP24⟩ := hP23
                obtain ⟨a_28, rfl, hP25⟩ := hP24
                refine bz_rw_cp (pc := 121) dX11_copy_121 ml_X11_404 ac_n ac_s ac_i (Nat.le_of_ble_eq_true rfl) hP25 (fun h_29 hP26 => ?_)
                clear hP25
                refine bz_iload (pc := 124) dX11_copy_124 rfl ?_
                exact bz_retI (pc := 126) dX11_copy_126 rfl rfl hP26
              · have hP27 := hP20.2 c
                clear hP20
                refine bz_aload_n (pc := 99) dX11_copy_99 rfl rfl ?_
                refine bz_ldc (pc := 100) dX11_copy_100 ct_X11_78 ?_
                refine bz_kIV (as := [.inl (-1000001)]) (st := []) (ci := 11) (n := 1) (mc := 0) (ms := 0) (bc := bc) (bs := bs) (yc := kX11_finding) (q := (RX11, TX11, 9)) (b := a0) (pc := 102) dX11_copy_102 sc_X11_finding ml_X11_79 im_X11_finding se_X11_finding rfl rfl rfl (Nat.le_of_ble_eq_true rfl) hP27 (fun x_30 h_31 hP28 => ?_)
                clear hP27
                exact bz_retI (pc := 105) dX11_copy_105 rfl rfl hP28
          · have hP29 := hP14.2 c
            clear hP14
            refine bz_aload_n (pc := 68) dX11_copy_68 rfl rfl ?_
            refine bz_ldcw (pc := 69) dX11_copy_69 ct_X11_379 ?_
            refine bz_kIV (as := [.inl (-1000003)]) (st := []) (ci := 11) (n := 1) (mc := 0) (ms := 0) (bc := bc) (bs := bs) (yc := kX11_finding) (q := (RX11, TX11, 9)) (b := a0) (pc := 72) dX11_copy_72 sc_X11_finding ml_X11_79 im_X11_finding se_X11_finding rfl rfl rfl (Nat.le_of_ble_eq_true rfl) hP29 (fun x_32 h_33 hP30 => ?_)
            clear hP29
            exact bz_retI (pc := 75) dX11_copy_75 rfl rfl hP30
        · have hP31 := hP11.2 c
          clear hP11
          refine bz_aload_n (pc := 47) dX11_copy_47 rfl rfl ?_
          refine bz_ldcw (pc := 48) dX11_copy_48 ct_X11_374 ?_
          refine bz_kIV (as := [.inl (-1000006)]) (st := []) (ci := 11) (n := 1) (mc := 0) (ms := 0) (bc := bc) (bs := bs) (yc := kX11_finding) (q := (RX11, TX11, 9)) (b := a0) (pc := 51) dX11_copy_51 sc_X11_finding ml_X11_79 im_X11_finding se_X11_finding rfl rfl rfl (Nat.le_of_ble_eq_true rfl) hP31 (fun x_34 h_35 hP32 => ?_)
          clear hP31
          exact bz_retI (pc := 54) dX11_copy_54 rfl rfl hP32
    · have hP33 := hP5.2 c
      clear hP5
      subst c
      refine bz_aload_n (pc := 24) dX11_copy_24 rfl rfl ?_
      refine bz_ldc (pc := 25) dX11_copy_25 ct_X11_78 ?_
      refine bz_kIV (as := [.inl (-1000001)]) (st := []) (ci := 11) (n := 1) (mc := 0) (ms := 0) (bc := bc) (bs := bs) (yc := kX11_finding) (q := (RX11, TX11, 9)) (b := a0) (pc := 27) dX11_copy_27 sc_X11_finding ml_X11_79 im_X11_finding se_X11_finding rfl rfl rfl (Nat.le_of_ble_eq_true rfl) hP33 (fun x_9 h_10 hP34 => ?_)
      clear hP33
      exact bz_retI (pc := 30) dX11_copy_30 rfl rfl hP34
theorem m_X11_copy {G : bz_G} {l : Launch} {d mc ms : Nat} {F : Option bz_V → bz_H → Prop} (a0 : Nat) (x1 : Int32) (x2 : Int32) (x3 : Int32) (x4 : Int32) (x5 : Int32) (h : bz_H) (hP : w_X11_copy_0 G l d F a0 x1 x2 x3 x4 x5 h) : bz_Call G l (d + 1) kX11_copy [.inr (some a0), .inl x1, .inl x2, .inl x3, .inl x4, .inl x5] h mc ms F :=
  bz_body (by decide) (Nat.le_of_ble_eq_true rfl) (fun κ hl => g_X11_copy_0 hl a0 x1 x2 x3 x4 x5 h hP)
def w_X11_count_0 (G : bz_G) (l : Launch) (d : Nat) (F : Option bz_V → bz_H → Prop) (a0 : Nat) (x1 : Int32) (h : bz_H) : Prop := (x1 = 0 → bz_rR h a0 11 0 (fun r_1 => bz_nn r_1 (fun a_2 => bz_rI h a_2 10 12 (fun x_3 => F (some (.inl x_3)) h)))) ∧ (¬ x1 = 0 → (x1 = 1 → bz_rR h a0 11 0 (fun r_4 => bz_nn r_4 (fun a_5 => bz_rR h a_5 10 1 (fun r_6 => bz_nn r_6 (fun a_7 => bz_rI h a_7 4 1 (fun x_8 => F (some (.inl x_8)) h)))))) ∧ (¬ x1 = 1 → (x1 = 2 → bz_rR h a0 11 0 (fun r_9 => bz_nn r_9 (fun a_10 => bz_rI h a_10 10 9 (fun x_11 => F (some (.inl x_11)) h)))) ∧ (¬ x1 = 2 → (x1 = 3 → bz_rR h a0 11 0 (fun r_12 => bz_nn r_12 (fun a_15 => bz_rc h a_15 10 (bz_cI G l d kX10_waitingOrders [.inr (some a_15)] h 0 0 (fun x_13 h_14 => F (some (.inl x_13)) h_14))))) ∧ (¬ x1 = 3 → (x1 = 4 → bz_rR h a0 11 0 (fun r_16 => bz_nn r_16 (fun a_17 => bz_rI h a_17 10 10 (fun x_18 => F (some (.inl x_18)) h)))) ∧ (¬ x1 = 4 → (x1 = 5 → bz_rR h a0 11 0 (fun r_19 => bz_nn r_19 (fun a_20 => bz_rI h a_20 10 11 (fun x_21 => F (some (.inl x_21)) h)))) ∧ (¬ x1 = 5 → (x1 = 6 → bz_rR h a0 11 3 (fun r_22 => bz_nn r_22 (fun a_23 => bz_rI h a_23 6 1 (fun x_24 => F (some (.inl x_24)) h)))) ∧ (¬ x1 = 6 → bz_rc h a0 11 (bz_cI G l d kX11_finding [.inr (some a0), .inl (-1000001)] h 0 0 (fun x_25 h_26 => F (some (.inl x_25)) h_26)))))))))
set_option maxRecDepth 20000 in
set_option maxHeartbeats 4000000 in
theorem g_X11_count_0 {G : bz_G} {κ : bz_K} {l : Launch} {d : Nat} {F : Option bz_V → bz_H → Prop} {bc bs : Nat} (hl : κ.2.1 = l) (a0 : Nat) (x1 : Int32) (h : bz_H) (hP0 : w_X11_count_0 G l d F a0 x1 h) : bz_J G κ kX11_count (d + 1) F bc bs 0 [some (.inr (some a0)), some (.inl x1)] [] h := by
  subst hl
  unfold w_X11_count_0 at hP0
  refine bz_iload_n (pc := 0) dX11_count_0 rfl rfl ?_
  refine bz_table (pc := 1) [(0, 43), (1, 51), (2, 62), (3, 70), (4, 78), (5, 86), (6, 94)] dX11_count_1 (by decide) (by decide) (by decide) (by decide) (by decide) ?_
  refine ⟨fun c => ?_, fun c => ?_⟩
  · have hP1 := hP0.1 c
    clear hP0
    show bz_J G κ kX11_count (d + 1) F bc bs 44 [some (.inr (some a0)), some (.inl x1)] [] h
    refine bz_aload_n (pc := 44) dX11_count_44 rfl rfl ?_
    refine bz_rw_rR (pc := 45) dX11_count_45 fl_X11_12 hP1 (fun r_1 hP2 => ?_)
    clear hP1
    obtain ⟨a_2, rfl, hP3⟩ := hP2
    refine bz_rw_rI (pc := 48) dX11_count_48 fl_X11_103 hP3 (fun x_3 hP4 => ?_)
    clear hP3
    exact bz_retI (pc := 51) dX11_count_51 rfl rfl hP4
  · have hP5 := hP0.2 c
    clear hP0
    refine ⟨fun c => ?_, fun c => ?_⟩
    · have hP6 := hP5.1 c
      clear hP5
      show bz_J G κ kX11_count (d + 1) F bc bs 52 [some (.inr (some a0)), some (.inl x1)] [] h
      refine bz_aload_n (pc := 52) dX11_count_52 rfl rfl ?_
      refine bz_rw_rR (pc := 53) dX11_count_53 fl_X11_12 hP6 (fun r_4 hP7 => ?_)
      clear hP6
      obtain ⟨a_5, rfl, hP8⟩ := hP7
      refine bz_rw_rR (pc := 56) dX11_count_56 fl_X11_108 hP8 (fun r_6 hP9 => ?_)
      clear hP8
      obtain ⟨a_7, rfl, hP10⟩ := hP9
      refine bz_rw_rI (pc := 59) dX11_count_59 fl_X11_122 hP10 (fun x_8 hP11 => ?_)
      clear hP10
      exact bz_retI (pc := 62) dX11_count_62 rfl rfl hP11
    · have hP12 := hP5.2 c
      clear hP5
      refine ⟨fun c => ?_, fun c => ?_⟩
      · have hP13 := hP12.1 c
        clear hP12
        show bz_J G κ kX11_count (d + 1) F bc bs 63 [some (.inr (some a0)), some (.inl x1)] [] h
        refine bz_aload_n (pc := 63) dX11_count_63 rfl rfl ?_
        refine bz_rw_rR (pc := 64) dX11_count_64 fl_X11_12 hP13 (fun r_9 hP14 => ?_)
        clear hP13
        obtain ⟨a_10, rfl, hP15⟩ := hP14
        refine bz_rw_rI (pc := 67) dX11_count_67 fl_X11_125 hP15 (fun x_11 hP16 => ?_)
        clear hP15
        exact bz_retI (pc := 70) dX11_count_70 rfl rfl hP16
      · have hP17 := hP12.2 c
        clear hP12
        refine ⟨fun c => ?_, fun c => ?_⟩
        · have hP18 := hP17.1 c
          clear hP17
          show bz_J G κ kX11_count (d + 1) F bc bs 71 [some (.inr (some a0)), some (.inl x1)] [] h
          refine bz_aload_n (pc := 71) dX11_count_71 rfl rfl ?_
          refine bz_rw_rR (pc := 72) dX11_count_72 fl_X11_12 hP18 (fun r_12 hP19 => ?_)
          clear hP18
          obtain ⟨a_15, rfl, hP20⟩ := hP19
          refine bz_kIV (as := []) (st := []) (ci := 10) (n := 0) (mc := 0) (ms := 0) (bc := bc) (bs := bs) (yc := kX10_waitingOrders) (q := (RX10, TX10, 16)) (b := a_15) (pc := 75) dX11_count_75 sc_X10_waitingOrders ml_X11_417 im_X10_waitingOrders se_X10_waitingOrders rfl rfl rfl (Nat.le_of_ble_eq_true rfl) hP20 (fun x_13 h_14 hP21 => ?_)
          clear hP20
          exact bz_retI (pc := 78) dX11_count_78 rfl rfl hP21
        · have hP22 := hP17.2 c
          clear hP17
          refine ⟨fun c => ?_, fun c => ?_⟩
          · have hP23 := hP22.1 c
            clear hP22
            show bz_J G κ kX11_count (d + 1) F bc bs 79 [some (.inr (some a0)), some (.inl x1)] [] h
            refine bz_aload_n (pc := 79) dX11_count_79 rfl rfl ?_
            refine bz_rw_rR (pc := 80) dX11_count_80 fl_X11_12 hP23 (fun r_16 hP24 => ?_)
            clear hP23
            obtain ⟨a_17, rfl, hP25⟩ := hP24
            refine bz_rw_rI (pc := 83) dX11_count_83 fl_X11_172 hP25 (fun x_18 hP26 => ?_)
            clear hP25
            exact bz_retI (pc := 86) dX11_count_86 rfl rfl hP26
          · have hP27 := hP22.2 c
            clear hP22
            refine ⟨fun c => ?_, fun c => ?_⟩
            · have hP28 := hP27.1 c
              clear hP27
              show bz_J G κ kX11_count (d + 1) F bc bs 87 [some (.inr (some a0)), some (.inl x1)] [] h
              refine bz_aload_n (pc := 87) dX11_count_87 rfl rfl ?_
              refine bz_rw_rR (pc := 88) dX11_count_88 fl_X11_12 hP28 (fun r_19 hP29 => ?_)
              clear hP28
              obtain ⟨a_20, rfl, hP30⟩ := hP29
              refine bz_rw_rI (pc := 91) dX11_count_91 fl_X11_247 hP30 (fun x_21 hP31 => ?_)
              clear hP30
              exact bz_retI (pc := 94) dX11_count_94 rfl rfl hP31
            · have hP32 := hP27.2 c
              clear hP27
              refine ⟨fun c => ?_, fun c => ?_⟩
              · have hP33 := hP32.1 c
                clear hP32
                show bz_J G κ kX11_count (d + 1) F bc bs 95 [some (.inr (some a0)), some (.inl x1)] [] h
                refine bz_aload_n (pc := 95) dX11_count_95 rfl rfl ?_
                refine bz_rw_rR (pc := 96) dX11_count_96 fl_X11_26 hP33 (fun r_22 hP34 => ?_)
                clear hP33
                obtain ⟨a_23, rfl, hP35⟩ := hP34
                refine bz_rw_rI (pc := 99) dX11_count_99 fl_X11_240 hP35 (fun x_24 hP36 => ?_)
                clear hP35
                exact bz_retI (pc := 102) dX11_count_102 rfl rfl hP36
              · have hP37 := hP32.2 c
                clear hP32
                show bz_J G κ kX11_count (d + 1) F bc bs 103 [some (.inr (some a0)), some (.inl x1)] [] h
                refine bz_aload_n (pc := 103) dX11_count_103 rfl rfl ?_
                refine bz_ldc (pc := 104) dX11_count_104 ct_X11_78 ?_
                refine bz_kIV (as := [.inl (-1000001)]) (st := []) (ci := 11) (n := 1) (mc := 0) (ms := 0) (bc := bc) (bs := bs) (yc := kX11_finding) (q := (RX11, TX11, 9)) (b := a0) (pc := 106) dX11_count_106 sc_X11_finding ml_X11_79 im_X11_finding se_X11_finding rfl rfl rfl (Nat.le_of_ble_eq_true rfl) hP37 (fun x_25 h_26 hP38 => ?_)
                clear hP37
                exact bz_retI (pc := 109) dX11_count_109 rfl rfl hP38
theorem m_X11_count {G : bz_G} {l : Launch} {d mc ms : Nat} {F : Option bz_V → bz_H → Prop} (a0 : Nat) (x1 : Int32) (h : bz_H) (hP : w_X11_count_0 G l d F a0 x1 h) : bz_Call G l (d + 1) kX11_count [.inr (some a0), .inl x1] h mc ms F :=
  bz_body (by decide) (Nat.le_of_ble_eq_true rfl) (fun κ hl => g_X11_count_0 hl a0 x1 h hP)
def w_X11_crossing_0 (G : bz_G) (κ : bz_K) (l : Launch) (d : Nat) (F : Option bz_V → bz_H → Prop) (bc bs : Nat) (a0 : Nat) (x1 : Int32) (x2 : Int32) (x3 : Int32) (h : bz_H) : Prop := bz_J G κ kX11_crossing (d + 1) F bc bs 10 [some (.inr (some a0)), some (.inl x1), some (.inl x2), some (.inl x3), none] [.inl (if x2 = 0 then 9 else 3)] h
set_option maxRecDepth 20000 in
set_option maxHeartbeats 4000000 in
theorem g_X11_crossing_0 {G : bz_G} {κ : bz_K} {l : Launch} {d : Nat} {F : Option bz_V → bz_H → Prop} {bc bs : Nat} (hl : κ.2.1 = l) (a0 : Nat) (x1 : Int32) (x2 : Int32) (x3 : Int32) (h : bz_H) (hP0 : w_X11_crossing_0 G κ l d F bc bs a0 x1 x2 x3 h) : bz_J G κ kX11_crossing (d + 1) F bc bs 0 [some (.inr (some a0)), some (.inl x1), some (.inl x2), some (.inl x3), none] [] h := by
  subst hl
  unfold w_X11_crossing_0 at hP0
  refine bz_iload_n (pc := 0) dX11_crossing_0 rfl rfl ?_
  have hJ : bz_J G κ kX11_crossing (d + 1) F bc bs 10 [some (.inr (some a0)), some (.inl x1), some (.inl x2), some (.inl x3), none] [.inl (if x2 = 0 then 9 else 3)] h := by
    exact hP0
  refine bz_if_ne (tgt := 9) (pc := 1) dX11_crossing_1 rfl (fun c => ?_) (fun c => ?_)
  · have e9 : ((if x2 = 0 then 9 else 3) : Int32) = (3) := if_neg c
    rw [e9] at hJ
    refine bz_iconst (pc := 9) dX11_crossing_9 ci_3 ?_
    exact hJ
  · have e9 : ((if x2 = 0 then 9 else 3) : Int32) = (9) := if_pos c
    rw [e9] at hJ
    refine bz_bipush (pc := 4) dX11_crossing_4 cb_9 ?_
    refine bz_goto (tgt := 10) (pc := 6) dX11_crossing_6 rfl ?_
    exact hJ
def w_X11_crossing_10 (G : bz_G) (l : Launch) (d : Nat) (F : Option bz_V → bz_H → Prop) (a0 : Nat) (x1 : Int32) (x2 : Int32) (x3 : Int32) (u4 : Option bz_V) (y0 : Int32) (h : bz_H) : Prop := bz_cI G l d kX11_isCrossing [.inl x1] h 0 0 (fun x_1 h_2 => (x_1 = 0 → bz_rc h_2 a0 11 (bz_cI G l d kX11_finding [.inr (some a0), .inl (-1000001)] h_2 0 0 (fun x_3 h_4 => F (some (.inl x_3)) h_4))) ∧ (¬ (x_1 = 0) → bz_cI G l d kX11_isWithin [.inl x2, .inl 0, .inl 1] h_2 0 0 (fun x_5 h_6 => (x_5 = 0 → bz_rc h_6 a0 11 (bz_cI G l d kX11_finding [.inr (some a0), .inl (-1000001)] h_6 0 0 (fun x_7 h_8 => F (some (.inl x_7)) h_8))) ∧ (¬ (x_5 = 0) → bz_cI G l d kX11_isWithin [.inl x3, .inl 0, .inl y0] h_6 0 0 (fun x_9 h_10 => (¬ x_9 = 0 → (¬ x2 = 0 → bz_rR h_10 a0 11 0 (fun r_11 => bz_nn r_11 (fun a_12 => bz_rR h_10 a_12 10 0 (fun r_13 => bz_nn r_13 (fun a_16 => bz_rc h_10 a_16 8 (bz_cI G l d kX8_putZone [.inr (some a_16), .inl x1, .inl x3] h_10 0 0 (fun x_14 h_15 => F (some (.inl x_14)) h_15))))))) ∧ (x2 = 0 → bz_rR h_10 a0 11 0 (fun r_17 => bz_nn r_17 (fun a_18 => bz_rR h_10 a_18 10 0 (fun r_19 => bz_nn r_19 (fun a_22 => bz_rc h_10 a_22 8 (bz_cI G l d kX8_putHeight [.inr (some a_22), .inl x1, .inl x3] h_10 0 0 (fun x_20 h_21 => F (some (.inl x_20)) h_21)))))))) ∧ (x_9 = 0 → bz_rc h_10 a0 11 (bz_cI G l d kX11_finding [.inr (some a0), .inl (-1000001)] h_10 0 0 (fun x_23 h_24 => F (some (.inl x_23)) h_24))))))))
set_option maxRecDepth 20000 in
set_option maxHeartbeats 4000000 in
theorem g_X11_crossing_10 {G : bz_G} {κ : bz_K} {l : Launch} {d : Nat} {F : Option bz_V → bz_H → Prop} {bc bs : Nat} (hl : κ.2.1 = l) (a0 : Nat) (x1 : Int32) (x2 : Int32) (x3 : Int32) (u4 : Option bz_V) (y0 : Int32) (h : bz_H) (hP0 : w_X11_crossing_10 G l d F a0 x1 x2 x3 u4 y0 h) : bz_J G κ kX11_crossing (d + 1) F bc bs 10 [some (.inr (some a0)), some (.inl x1), some (.inl x2), some (.inl x3), u4] [.inl y0] h := by
  subst hl
  unfold w_X11_crossing_10 at hP0
  refine bz_s_istore (pc := 10) dX11_crossing_10 (Nat.le_of_ble_eq_true rfl) [some (.inr (some a0)), some (.inl x1), some (.inl x2), some (.inl x3), some (.inl y0)] rfl ?_
  refine bz_iload_n (pc := 12) dX11_crossing_12 rfl rfl ?_
  refine bz_kIS (as := [.inl x1]) (st := []) (n := 1) (mc := 0) (ms := 0) (bc := bc) (bs := bs) (yc := kX11_isCrossing) (pc := 13) dX11_crossing_13 sc_X11_isCrossing ml_X11_70 ss_X11_isCrossing rfl (Nat.le_of_ble_eq_true rfl) hP0 (fun x_1 h_2 hP1 => ?_)
  clear hP0
  refine bz_if_eq (tgt := 38) (pc := 16) dX11_crossing_16 rfl (fun c => ?_) (fun c => ?_)
  · have hP2 := hP1.1 c
    clear hP1
    refine bz_aload_n (pc := 38) dX11_crossing_38 rfl rfl ?_
    refine bz_ldc (pc := 39) dX11_crossing_39 ct_X11_78 ?_
    refine bz_kIV (as := [.inl (-1000001)]) (st := []) (ci := 11) (n := 1) (mc := 0) (ms := 0) (bc := bc) (bs := bs) (yc := kX11_finding) (q := (RX11, TX11, 9)) (b := a0) (pc := 41) dX11_crossing_41 sc_X11_finding ml_X11_79 im_X11_finding se_X11_finding rfl rfl rfl (Nat.le_of_ble_eq_true rfl) hP2 (fun x_3 h_4 hP3 => ?_)
    clear hP2
    exact bz_retI (pc := 44) dX11_crossing_44 rfl rfl hP3
  · have hP4 := hP1.2 c
    clear hP1
    refine bz_iload_n (pc := 19) dX11_crossing_19 rfl rfl ?_
    refine bz_iconst (pc := 20) dX11_crossing_20 ci_0 ?_
    refine bz_iconst (pc := 21) dX11_crossing_21 ci_1 ?_
    refine bz_kIS (as := [.inl x2, .inl 0, .inl 1]) (st := []) (n := 3) (mc := 0) (ms := 0) (bc := bc) (bs := bs) (yc := kX11_isWithin) (pc := 22) dX11_crossing_22 sc_X11_isWithin ml_X11_74 ss_X11_isWithin rfl (Nat.le_of_ble_eq_true rfl) hP4 (fun x_5 h_6 hP5 => ?_)
    clear hP4
    refine bz_if_eq (tgt := 38) (pc := 25) dX11_crossing_25 rfl (fun c => ?_) (fun c => ?_)
    · have hP6 := hP5.1 c
      clear hP5
      refine bz_aload_n (pc := 38) dX11_crossing_38 rfl rfl ?_
      refine bz_ldc (pc := 39) dX11_crossing_39 ct_X11_78 ?_
      refine bz_kIV (as := [.inl (-1000001)]) (st := []) (ci := 11) (n := 1) (mc := 0) (ms := 0) (bc := bc) (bs := bs) (yc := kX11_finding) (q := (RX11, TX11, 9)) (b := a0) (pc := 41) dX11_crossing_41 sc_X11_finding ml_X11_79 im_X11_finding se_X11_finding rfl rfl rfl (Nat.le_of_ble_eq_true rfl) hP6 (fun x_7 h_8 hP7 => ?_)
      clear hP6
      exact bz_retI (pc := 44) dX11_crossing_44 rfl rfl hP7
    · have hP8 := hP5.2 c
      clear hP5
      refine bz_iload_n (pc := 28) dX11_crossing_28 rfl rfl ?_
      refine bz_iconst (pc := 29) dX11_crossing_29 ci_0 ?_
      refine bz_iload (pc := 30) dX11_crossing_30 rfl ?_
      refine bz_kIS (as := [.inl x3, .inl 0, .inl y0]) (st := []) (n := 3) (mc := 0) (ms := 0) (bc := bc) (bs := bs) (yc := kX11_isWithin) (pc := 32) dX11_crossing_32 sc_X11_isWithin ml_X11_74 ss_X11_isWithin rfl (Nat.le_of_ble_eq_true rfl) hP8 (fun x_9 h_10 hP9 => ?_)
      clear hP8
      refine bz_if_ne (tgt := 45) (pc := 35) dX11_crossing_35 rfl (fun c => ?_) (fun c => ?_)
      · have hP10 := hP9.1 c
        clear hP9
        refine bz_iload_n (pc := 45) dX11_crossing_45 rfl rfl ?_
        refine bz_if_ne (tgt := 64) (pc := 46) dX11_crossing_46 rfl (fun c => ?_) (fun c => ?_)
        · have hP11 := hP10.1 c
          clear hP10
          refine bz_aload_n (pc := 64) dX11_crossing_64 rfl rfl ?_
          refine bz_rw_rR (pc := 65) dX11_crossing_65 fl_X11_12 hP11 (fun r_11 hP12 => ?_)
          clear hP11
          obtain ⟨a_12, rfl, hP13⟩ := hP12
          refine bz_rw_rR (pc := 68) dX11_crossing_68 fl_X11_43 hP13 (fun r_13 hP14 => ?_)
          clear hP13
          refine bz_iload_n (pc := 71) dX11_crossing_71 rfl rfl ?_
          refine bz_iload_n (pc := 72) dX11_crossing_72 rfl rfl ?_
          obtain ⟨a_16, rfl, hP15⟩ := hP14
          refine bz_kIV (as := [.inl x1, .inl x3]) (st := []) (ci := 8) (n := 2) (mc := 0) (ms := 0) (bc := bc) (bs := bs) (yc := kX8_putZone) (q := (RX8, TX8, 4)) (b := a_16) (pc := 73) dX11_crossing_73 sc_X8_putZone ml_X11_89 im_X8_putZone se_X8_putZone rfl rfl rfl (Nat.le_of_ble_eq_true rfl) hP15 (fun x_14 h_15 hP16 => ?_)
          clear hP15
          exact bz_retI (pc := 76) dX11_crossing_76 rfl rfl hP16
        · have hP17 := hP10.2 c
          clear hP10
          refine bz_aload_n (pc := 49) dX11_crossing_49 rfl rfl ?_
          refine bz_rw_rR (pc := 50) dX11_crossing_50 fl_X11_12 hP17 (fun r_17 hP18 => ?_)
          clear hP17
          obtain ⟨a_18, rfl, hP19⟩ := hP18
          refine bz_rw_rR (pc := 53) dX11_crossing_53 fl_X11_43 hP19 (fun r_19 hP20 => ?_)
          clear hP19
          refine bz_iload_n (pc := 56) dX11_crossing_56 rfl rfl ?_
          refine bz_iload_n (pc := 57) dX11_crossing_57 rfl rfl ?_
          obtain ⟨a_22, rfl, hP21⟩ := hP20
          refine bz_kIV (as := [.inl x1, .inl x3]) (st := []) (ci := 8) (n := 2) (mc := 0) (ms := 0) (bc := bc) (bs := bs) (yc := kX8_putHeight) (q := (RX8, TX8, 4)) (b := a_22) (pc := 58) dX11_crossing_58 sc_X8_putHeight ml_X11_83 im_X8_putHeight se_X8_putHeight rfl rfl rfl (Nat.le_of_ble_eq_true rfl) hP21 (fun x_20 h_21 hP22 => ?_)
          clear hP21
          refine bz_goto (tgt := 76) (pc := 61) dX11_crossing_61 rfl ?_
          exact bz_retI (pc := 76) dX11_crossing_76 rfl rfl hP22
      · have hP23 := hP9.2 c
        clear hP9
        refine bz_aload_n (pc := 38) dX11_crossing_38 rfl rfl ?_
        refine bz_ldc (pc := 39) dX11_crossing_39 ct_X11_78 ?_
        refine bz_kIV (as := [.inl (-1000001)]) (st := []) (ci := 11) (n := 1) (mc := 0) (ms := 0) (bc := bc) (bs := bs) (yc := kX11_finding) (q := (RX11, TX11, 9)) (b := a0) (pc := 41) dX11_crossing_41 sc_X11_finding ml_X11_79 im_X11_finding se_X11_finding rfl rfl rfl (Nat.le_of_ble_eq_true rfl) hP23 (fun x_23 h_24 hP24 => ?_)
        clear hP23
        exact bz_retI (pc := 44) dX11_crossing_44 rfl rfl hP24
theorem m_X11_crossing {G : bz_G} {l : Launch} {d mc ms : Nat} {F : Option bz_V → bz_H → Prop} (a0 : Nat) (x1 : Int32) (x2 : Int32) (x3 : Int32) (h : bz_H) (hP : ∀ (κ : bz_K) (bc bs : Nat), κ.2.1 = l → w_X11_crossing_0 G κ l d F bc bs a0 x1 x2 x3 h) : bz_Call G l (d + 1) kX11_crossing [.inr (some a0), .inl x1, .inl x2, .inl x3] h mc ms F :=
  bz_body (by decide) (Nat.le_of_ble_eq_true rfl) (fun κ hl => g_X11_crossing_0 hl a0 x1 x2 x3 h (hP κ mc ms hl))
def w_X11_doubles_0 (G : bz_G) (κ : bz_K) (l : Launch) (d : Nat) (F : Option bz_V → bz_H → Prop) (bc bs : Nat) (a0 : Nat) (x1 : Int32) (x2 : Int32) (h : bz_H) : Prop := bz_rR h a0 11 0 (fun r_1 => bz_nn r_1 (fun a_4 => bz_rc h a_4 10 (bz_cR G l d kX10_riderAt [.inr (some a_4), .inl x1] h 0 0 (fun r_2 h_3 => (r_2 = none → bz_rc h_3 a0 11 (bz_cI G l d kX11_finding [.inr (some a0), .inl (-1000001)] h_3 0 0 (fun x_6 h_7 => F (some (.inl x_6)) h_7))) ∧ (∀ a_5, r_2 = some a_5 → bz_cI G l d kX11_isWithin [.inl x2, .inl 0, .inl 2] h_3 0 0 (fun x_8 h_9 => (¬ x_8 = 0 → bz_J G κ kX11_doubles (d + 1) F bc bs 32 [some (.inr (some a0)), some (.inl x1), some (.inl x2), some (.inl 0), some (.inl 0), none] [] h_9) ∧ (x_8 = 0 → bz_rc h_9 a0 11 (bz_cI G l d kX11_finding [.inr (some a0), .inl (-1000001)] h_9 0 0 (fun x_10 h_11 => F (some (.inl x_10)) h_11)))))))))
set_option maxRecDepth 20000 in
set_option maxHeartbeats 4000000 in
theorem g_X11_doubles_0 {G : bz_G} {κ : bz_K} {l : Launch} {d : Nat} {F : Option bz_V → bz_H → Prop} {bc bs : Nat} (hl : κ.2.1 = l) (a0 : Nat) (x1 : Int32) (x2 : Int32) (h : bz_H) (hP0 : w_X11_doubles_0 G κ l d F bc bs a0 x1 x2 h) : bz_J G κ kX11_doubles (d + 1) F bc bs 0 [some (.inr (some a0)), some (.inl x1), some (.inl x2), none, none, none] [] h := by
  subst hl
  unfold w_X11_doubles_0 at hP0
  refine bz_aload_n (pc := 0) dX11_doubles_0 rfl rfl ?_
  refine bz_rw_rR (pc := 1) dX11_doubles_1 fl_X11_12 hP0 (fun r_1 hP1 => ?_)
  clear hP0
  refine bz_iload_n (pc := 4) dX11_doubles_4 rfl rfl ?_
  obtain ⟨a_4, rfl, hP2⟩ := hP1
  refine bz_kRV (as := [.inl x1]) (st := []) (ci := 10) (n := 1) (mc := 0) (ms := 0) (bc := bc) (bs := bs) (yc := kX10_riderAt) (q := (RX10, TX10, 16)) (b := a_4) (pc := 5) dX11_doubles_5 sc_X10_riderAt ml_X11_179 im_X10_riderAt se_X10_riderAt rfl rfl rfl (Nat.le_of_ble_eq_true rfl) hP2 (fun r_2 h_3 hP3 => ?_)
  clear hP2
  refine bz_ifnull (tgt := 20) (pc := 8) dX11_doubles_8 rfl (fun c => ?_) (fun a_5 c => ?_)
  · have hP4 := hP3.1 c
    clear hP3
    subst c
    refine bz_aload_n (pc := 20) dX11_doubles_20 rfl rfl ?_
    refine bz_ldc (pc := 21) dX11_doubles_21 ct_X11_78 ?_
    refine bz_kIV (as := [.inl (-1000001)]) (st := []) (ci := 11) (n := 1) (mc := 0) (ms := 0) (bc := bc) (bs := bs) (yc := kX11_finding) (q := (RX11, TX11, 9)) (b := a0) (pc := 23) dX11_doubles_23 sc_X11_finding ml_X11_79 im_X11_finding se_X11_finding rfl rfl rfl (Nat.le_of_ble_eq_true rfl) hP4 (fun x_6 h_7 hP5 => ?_)
    clear hP4
    exact bz_retI (pc := 26) dX11_doubles_26 rfl rfl hP5
  · have hP6 := hP3.2 a_5 c
    clear hP3
    subst c
    refine bz_iload_n (pc := 11) dX11_doubles_11 rfl rfl ?_
    refine bz_iconst (pc := 12) dX11_doubles_12 ci_0 ?_
    refine bz_iconst (pc := 13) dX11_doubles_13 ci_2 ?_
    refine bz_kIS (as := [.inl x2, .inl 0, .inl 2]) (st := []) (n := 3) (mc := 0) (ms := 0) (bc := bc) (bs := bs) (yc := kX11_isWithin) (pc := 14) dX11_doubles_14 sc_X11_isWithin ml_X11_74 ss_X11_isWithin rfl (Nat.le_of_ble_eq_true rfl) hP6 (fun x_8 h_9 hP7 => ?_)
    clear hP6
    refine bz_if_ne (tgt := 27) (pc := 17) dX11_doubles_17 rfl (fun c => ?_) (fun c => ?_)
    · have hP8 := hP7.1 c
      clear hP7
      refine bz_iconst (pc := 27) dX11_doubles_27 ci_0 ?_
      refine bz_s_istore_n (pc := 28) dX11_doubles_28 rfl (Nat.le_of_ble_eq_true rfl) [some (.inr (some a0)), some (.inl x1), some (.inl x2), some (.inl 0), none, none] rfl ?_
      refine bz_iconst (pc := 29) dX11_doubles_29 ci_0 ?_
      refine bz_s_istore (pc := 30) dX11_doubles_30 (Nat.le_of_ble_eq_true rfl) [some (.inr (some a0)), some (.inl x1), some (.inl x2), some (.inl 0), some (.inl 0), none] rfl ?_
      exact hP8
    · have hP9 := hP7.2 c
      clear hP7
      refine bz_aload_n (pc := 20) dX11_doubles_20 rfl rfl ?_
      refine bz_ldc (pc := 21) dX11_doubles_21 ct_X11_78 ?_
      refine bz_kIV (as := [.inl (-1000001)]) (st := []) (ci := 11) (n := 1) (mc := 0) (ms := 0) (bc := bc) (bs := bs) (yc := kX11_finding) (q := (RX11, TX11, 9)) (b := a0) (pc := 23) dX11_doubles_23 sc_X11_finding ml_X11_79 im_X11_finding se_X11_finding rfl rfl rfl (Nat.le_of_ble_eq_true rfl) hP9 (fun x_10 h_11 hP10 => ?_)
      clear hP9
      exact bz_retI (pc := 26) dX11_doubles_26 rfl rfl hP10
def w_X11_doubles_32 (G : bz_G) (κ : bz_K) (l : Launch) (d : Nat) (F : Option bz_V → bz_H → Prop) (bc bs : Nat) (a0 : Nat) (x1 : Int32) (x2 : Int32) (x3 : Int32) (x4 : Int32) (u5 : Option bz_V) (h : bz_H) : Prop := bz_rR h a0 11 0 (fun r_12 => bz_nn r_12 (fun a_13 => bz_rR h a_13 10 7 (fun r_14 => bz_nn r_14 (fun a_15 => bz_rI h a_15 4 1 (fun x_16 => (x_16 ≤ x4 → (x2 ≤ 0 → F (some (.inl x3)) h) ∧ (¬ (x2 ≤ 0) → bz_rc h a0 11 (bz_cI G l d kX11_finding [.inr (some a0), .inl (-1000004)] h 0 0 (fun x_17 h_18 => F (some (.inl x_17)) h_18)))) ∧ (¬ (x_16 ≤ x4) → bz_J G κ kX11_doubles (d + 1) F bc bs 53 [some (.inr (some a0)), some (.inl x1), some (.inl x2), some (.inl x3), some (.inl x4), some (.inl (x4 + 1))] [] h))))))
set_option maxRecDepth 20000 in
set_option maxHeartbeats 4000000 in
theorem g_X11_doubles_32 {G : bz_G} {κ : bz_K} {l : Launch} {d : Nat} {F : Option bz_V → bz_H → Prop} {bc bs : Nat} (hl : κ.2.1 = l) (a0 : Nat) (x1 : Int32) (x2 : Int32) (x3 : Int32) (x4 : Int32) (u5 : Option bz_V) (h : bz_H) (hP0 : w_X11_doubles_32 G κ l d F bc bs a0 x1 x2 x3 x4 u5 h) : bz_J G κ kX11_doubles (d + 1) F bc bs 32 [some (.inr (some a0)), some (.inl x1), some (.inl x2), some (.inl x3), some (.inl x4), u5] [] h := by
  subst hl
  unfold w_X11_doubles_32 at hP0
  refine bz_iload (pc := 32) dX11_doubles_32 rfl ?_
  refine bz_aload_n (pc := 34) dX11_doubles_34 rfl rfl ?_
  refine bz_rw_rR (pc := 35) dX11_doubles_35 fl_X11_12 hP0 (fun r_12 hP1 => ?_)
  clear hP0
  obtain ⟨a_13, rfl, hP2⟩ := hP1
  refine bz_rw_rR (pc := 38) dX11_doubles_38 fl_X11_340 hP2 (fun r_14 hP3 => ?_)
  clear hP2
  obtain ⟨a_15, rfl, hP4⟩ := hP3
  refine bz_rw_rI (pc := 41) dX11_doubles_41 fl_X11_122 hP4 (fun x_16 hP5 => ?_)
  clear hP4
  refine bz_icmp_ge (tgt := 118) (pc := 44) dX11_doubles_44 rfl (fun c => ?_) (fun c => ?_)
  · have hP6 := hP5.1 c
    clear hP5
    refine bz_iload_n (pc := 118) dX11_doubles_118 rfl rfl ?_
    refine bz_if_le (tgt := 131) (pc := 119) dX11_doubles_119 rfl (fun c => ?_) (fun c => ?_)
    · have hP7 := hP6.1 c
      clear hP6
      refine bz_iload_n (pc := 131) dX11_doubles_131 rfl rfl ?_
      exact bz_retI (pc := 132) dX11_doubles_132 rfl rfl hP7
    · have hP8 := hP6.2 c
      clear hP6
      refine bz_aload_n (pc := 122) dX11_doubles_122 rfl rfl ?_
      refine bz_ldc (pc := 123) dX11_doubles_123 ct_X11_102 ?_
      refine bz_kIV (as := [.inl (-1000004)]) (st := []) (ci := 11) (n := 1) (mc := 0) (ms := 0) (bc := bc) (bs := bs) (yc := kX11_finding) (q := (RX11, TX11, 9)) (b := a0) (pc := 125) dX11_doubles_125 sc_X11_finding ml_X11_79 im_X11_finding se_X11_finding rfl rfl rfl (Nat.le_of_ble_eq_true rfl) hP8 (fun x_17 h_18 hP9 => ?_)
      clear hP8
      refine bz_goto (tgt := 132) (pc := 128) dX11_doubles_128 rfl ?_
      exact bz_retI (pc := 132) dX11_doubles_132 rfl rfl hP9
  · have hP10 := hP5.2 c
    clear hP5
    refine bz_iload (pc := 47) dX11_doubles_47 rfl ?_
    refine bz_iconst (pc := 49) dX11_doubles_49 ci_1 ?_
    refine bz_iadd (pc := 50) dX11_doubles_50 ?_
    refine bz_s_istore (pc := 51) dX11_doubles_51 (Nat.le_of_ble_eq_true rfl) [some (.inr (some a0)), some (.inl x1), some (.inl x2), some (.inl x3), some (.inl x4), some (.inl (x4 + 1))] rfl ?_
    exact hP10
def w_X11_doubles_53 (G : bz_G) (κ : bz_K) (l : Launch) (d : Nat) (F : Option bz_V → bz_H → Prop) (bc bs : Nat) (a0 : Nat) (x1 : Int32) (x2 : Int32) (x3 : Int32) (x4 : Int32) (x5 : Int32) (h : bz_H) : Prop := bz_rR h a0 11 0 (fun r_19 => bz_nn r_19 (fun a_20 => bz_rR h a_20 10 7 (fun r_21 => bz_nn r_21 (fun a_22 => bz_rI h a_22 4 1 (fun x_23 => (x_23 ≤ x5 → bz_J G κ kX11_doubles (d + 1) F bc bs 32 [some (.inr (some a0)), some (.inl x1), some (.inl x2), some (.inl x3), some (.inl (x4 + 1)), some (.inl x5)] [] h) ∧ (¬ (x_23 ≤ x5) → bz_rR h a0 11 0 (fun r_24 => bz_nn r_24 (fun a_27 => bz_rc h a_27 10 (bz_cI G l d kX10_isDouble [.inr (some a_27), .inl x1, .inl x4, .inl x5] h 0 0 (fun x_25 h_26 => (¬ x_25 = 0 → (x2 ≤ 0 → bz_J G κ kX11_doubles (d + 1) F bc bs 53 [some (.inr (some a0)), some (.inl x1), some (.inl x2), some (.inl (x3 + 1)), some (.inl x4), some (.inl (x5 + 1))] [] h_26) ∧ (¬ (x2 ≤ 0) → F (some (.inl (if x2 = 1 then x4 else x5))) h_26)) ∧ (x_25 = 0 → bz_J G κ kX11_doubles (d + 1) F bc bs 53 [some (.inr (some a0)), some (.inl x1), some (.inl x2), some (.inl x3), some (.inl x4), some (.inl (x5 + 1))] [] h_26)))))))))))
set_option maxRecDepth 20000 in
set_option maxHeartbeats 4000000 in
theorem g_X11_doubles_53 {G : bz_G} {κ : bz_K} {l : Launch} {d : Nat} {F : Option bz_V → bz_H → Prop} {bc bs : Nat} (hl : κ.2.1 = l) (a0 : Nat) (x1 : Int32) (x2 : Int32) (x3 : Int32) (x4 : Int32) (x5 : Int32) (h : bz_H) (hP0 : w_X11_doubles_53 G κ l d F bc bs a0 x1 x2 x3 x4 x5 h) : bz_J G κ kX11_doubles (d + 1) F bc bs 53 [some (.inr (some a0)), some (.inl x1), some (.inl x2), some (.inl x3), some (.inl x4), some (.inl x5)] [] h := by
  subst hl
  unfold w_X11_doubles_53 at hP0
  refine bz_iload (pc := 53) dX11_doubles_53 rfl ?_
  refine bz_aload_n (pc := 55) dX11_doubles_55 rfl rfl ?_
  refine bz_rw_rR (pc := 56) dX11_doubles_56 fl_X11_12 hP0 (fun r_19 hP1 => ?_)
  clear hP0
  obtain ⟨a_20, rfl, hP2⟩ := hP1
  refine bz_rw_rR (pc := 59) dX11_doubles_59 fl_X11_340 hP2 (fun r_21 hP3 => ?_)
  clear hP2
  obtain ⟨a_22, rfl, hP4⟩ := hP3
  refine bz_rw_rI (pc := 62) dX11_doubles_62 fl_X11_122 hP4 (fun x_23 hP5 => ?_)
  clear hP4
  refine bz_icmp_ge (tgt := 112) (pc := 65) dX11_doubles_65 rfl (fun c => ?_) (fun c => ?_)
  · have hP6 := hP5.1 c
    clear hP5
    refine bz_s_iinc (pc := 112) dX11_doubles_112 (Nat.le_of_ble_eq_true rfl) rfl rfl [some (.inr (some a0)), some (.inl x1), some (.inl x2), some (.inl x3), some (.inl (x4 + 1)), some (.inl x5)] rfl ?_
    refine bz_goto (tgt := 32) (pc := 115) dX11_doubles_115 rfl ?_
    exact hP6
  · have hP7 := hP5.2 c
    clear hP5
    refine bz_aload_n (pc := 68) dX11_doubles_68 rfl rfl ?_
    refine bz_rw_rR (pc := 69) dX11_doubles_69 fl_X11_12 hP7 (fun r_24 hP8 => ?_)
    clear hP7
    refine bz_iload_n (pc := 72) dX11_doubles_72 rfl rfl ?_
    refine bz_iload (pc := 73) dX11_doubles_73 rfl ?_
    refine bz_iload (pc := 75) dX11_doubles_75 rfl ?_
    obtain ⟨a_27, rfl, hP9⟩ := hP8
    refine bz_kIV (as := [.inl x1, .inl x4, .inl x5]) (st := []) (ci := 10) (n := 3) (mc := 0) (ms := 0) (bc := bc) (bs := bs) (yc := kX10_isDouble) (q := (RX10, TX10, 16)) (b := a_27) (pc := 77) dX11_doubles_77 sc_X10_isDouble ml_X11_343 im_X10_isDouble se_X10_isDouble rfl rfl rfl (Nat.le_of_ble_eq_true rfl) hP9 (fun x_25 h_26 hP10 => ?_)
    clear hP9
    refine bz_if_ne (tgt := 86) (pc := 80) dX11_doubles_80 rfl (fun c => ?_) (fun c => ?_)
    · have hP11 := hP10.1 c
      clear hP10
      refine bz_iload_n (pc := 86) dX11_doubles_86 rfl rfl ?_
      refine bz_if_le (tgt := 103) (pc := 87) dX11_doubles_87 rfl (fun c => ?_) (fun c => ?_)
      · have hP12 := hP11.1 c
        clear hP11
        refine bz_s_iinc (pc := 103) dX11_doubles_103 (Nat.le_of_ble_eq_true rfl) rfl rfl [some (.inr (some a0)), some (.inl x1), some (.inl x2), some (.inl (x3 + 1)), some (.inl x4), some (.inl x5)] rfl ?_
        refine bz_s_iinc (pc := 106) dX11_doubles_106 (Nat.le_of_ble_eq_true rfl) rfl rfl [some (.inr (some a0)), some (.inl x1), some (.inl x2), some (.inl (x3 + 1)), some (.inl x4), some (.inl (x5 + 1))] rfl ?_
        refine bz_goto (tgt := 53) (pc := 109) dX11_doubles_109 rfl ?_
        exact hP12
      · have hP13 := hP11.2 c
        clear hP11
        refine bz_iload_n (pc := 90) dX11_doubles_90 rfl rfl ?_
        refine bz_iconst (pc := 91) dX11_doubles_91 ci_1 ?_
        have hJ : bz_J G κ kX11_doubles (d + 1) F bc bs 102 [some (.inr (some a0)), some (.inl x1), some (.inl x2), some (.inl x3), some (.inl x4), some (.inl x5)] [.inl (if x2 = 1 then x4 else x5)] h_26 := by
          exact bz_retI (pc := 102) dX11_doubles_102 rfl rfl hP13
        refine bz_icmp_ne (tgt := 100) (pc := 92) dX11_doubles_92 rfl (fun c => ?_) (fun c => ?_)
        · have e9 : ((if x2 = 1 then x4 else x5) : Int32) = (x5) := if_neg c
          rw [e9] at hJ
          refine bz_iload (pc := 100) dX11_doubles_100 rfl ?_
          exact hJ
        · have e9 : ((if x2 = 1 then x4 else x5) : Int32) = (x4) := if_pos c
          rw [e9] at hJ
          refine bz_iload (pc := 95) dX11_doubles_95 rfl ?_
          refine bz_goto (tgt := 102) (pc := 97) dX11_doubles_97 rfl ?_
          exact hJ
    · have hP14 := hP10.2 c
      clear hP10
      refine bz_goto (tgt := 106) (pc := 83) dX11_doubles_83 rfl ?_
      refine bz_s_iinc (pc := 106) dX11_doubles_106 (Nat.le_of_ble_eq_true rfl) rfl rfl [some (.inr (some a0)), some (.inl x1), some (.inl x2), some (.inl x3), some (.inl x4), some (.inl (x5 + 1))] rfl ?_
      refine bz_goto (tgt := 53) (pc := 109) dX11_doubles_109 rfl ?_
      exact hP14
theorem m_X11_doubles {G : bz_G} {l : Launch} {d mc ms : Nat} {F : Option bz_V → bz_H → Prop} (a0 : Nat) (x1 : Int32) (x2 : Int32) (h : bz_H) (hP : ∀ (κ : bz_K) (bc bs : Nat), κ.2.1 = l → w_X11_doubles_0 G κ l d F bc bs a0 x1 x2 h) : bz_Call G l (d + 1) kX11_doubles [.inr (some a0), .inl x1, .inl x2] h mc ms F :=
  bz_body (by decide) (Nat.le_of_ble_eq_true rfl) (fun κ hl => g_X11_doubles_0 hl a0 x1 x2 h (hP κ mc ms hl))
def w_X11_feed_0 (G : bz_G) (κ : bz_K) (l : Launch) (d : Nat) (F : Option bz_V → bz_H → Prop) (bc bs : Nat) (a0 : Nat) (x1 : Int32) (x2 : Int32) (h : bz_H) : Prop := bz_cI G l d kX11_isWithin [.inl x2, .inl 1, .inl 4] h 0 0 (fun x_1 h_2 => (¬ x_1 = 0 → bz_rR h_2 a0 11 3 (fun r_3 => bz_nn r_3 (fun a_4 => bz_rI h_2 a_4 6 1 (fun x_5 => ((x_5 + x2) ≤ 80 → bz_J G κ kX11_feed (d + 1) F bc bs 41 [some (.inr (some a0)), some (.inl x1), some (.inl x2), some (.inl (x2 - 1))] [] h_2) ∧ (¬ ((x_5 + x2) ≤ 80) → bz_rc h_2 a0 11 (bz_cI G l d kX11_finding [.inr (some a0), .inl (-1000002)] h_2 0 0 (fun x_6 h_7 => F (some (.inl x_6)) h_7))))))) ∧ (x_1 = 0 → bz_rc h_2 a0 11 (bz_cI G l d kX11_finding [.inr (some a0), .inl (-1000001)] h_2 0 0 (fun x_8 h_9 => F (some (.inl x_8)) h_9))))
set_option maxRecDepth 20000 in
set_option maxHeartbeats 4000000 in
theorem g_X11_feed_0 {G : bz_G} {κ : bz_K} {l : Launch} {d : Nat} {F : Option bz_V → bz_H → Prop} {bc bs : Nat} (hl : κ.2.1 = l) (a0 : Nat) (x1 : Int32) (x2 : Int32) (h : bz_H) (hP0 : w_X11_feed_0 G κ l d F bc bs a0 x1 x2 h) : bz_J G κ kX11_feed (d + 1) F bc bs 0 [some (.inr (some a0)), some (.inl x1), some (.inl x2), none] [] h := by
  subst hl
  unfold w_X11_feed_0 at hP0
  refine bz_iload_n (pc := 0) dX11_feed_0 rfl rfl ?_
  refine bz_iconst (pc := 1) dX11_feed_1 ci_1 ?_
  refine bz_iconst (pc := 2) dX11_feed_2 ci_4 ?_
  refine bz_kIS (as := [.inl x2, .inl 1, .inl 4]) (st := []) (n := 3) (mc := 0) (ms := 0) (bc := bc) (bs := bs) (yc := kX11_isWithin) (pc := 3) dX11_feed_3 sc_X11_isWithin ml_X11_74 ss_X11_isWithin rfl (Nat.le_of_ble_eq_true rfl) hP0 (fun x_1 h_2 hP1 => ?_)
  clear hP0
  refine bz_if_ne (tgt := 16) (pc := 6) dX11_feed_6 rfl (fun c => ?_) (fun c => ?_)
  · have hP2 := hP1.1 c
    clear hP1
    refine bz_aload_n (pc := 16) dX11_feed_16 rfl rfl ?_
    refine bz_rw_rR (pc := 17) dX11_feed_17 fl_X11_26 hP2 (fun r_3 hP3 => ?_)
    clear hP2
    obtain ⟨a_4, rfl, hP4⟩ := hP3
    refine bz_rw_rI (pc := 20) dX11_feed_20 fl_X11_240 hP4 (fun x_5 hP5 => ?_)
    clear hP4
    refine bz_iload_n (pc := 23) dX11_feed_23 rfl rfl ?_
    refine bz_iadd (pc := 24) dX11_feed_24 ?_
    refine bz_bipush (pc := 25) dX11_feed_25 cb_80 ?_
    refine bz_icmp_le (tgt := 37) (pc := 27) dX11_feed_27 rfl (fun c => ?_) (fun c => ?_)
    · have hP6 := hP5.1 c
      clear hP5
      refine bz_iload_n (pc := 37) dX11_feed_37 rfl rfl ?_
      refine bz_iconst (pc := 38) dX11_feed_38 ci_1 ?_
      refine bz_isub (pc := 39) dX11_feed_39 ?_
      refine bz_s_istore_n (pc := 40) dX11_feed_40 rfl (Nat.le_of_ble_eq_true rfl) [some (.inr (some a0)), some (.inl x1), some (.inl x2), some (.inl (x2 - 1))] rfl ?_
      exact hP6
    · have hP7 := hP5.2 c
      clear hP5
      refine bz_aload_n (pc := 30) dX11_feed_30 rfl rfl ?_
      refine bz_ldc (pc := 31) dX11_feed_31 ct_X11_118 ?_
      refine bz_kIV (as := [.inl (-1000002)]) (st := []) (ci := 11) (n := 1) (mc := 0) (ms := 0) (bc := bc) (bs := bs) (yc := kX11_finding) (q := (RX11, TX11, 9)) (b := a0) (pc := 33) dX11_feed_33 sc_X11_finding ml_X11_79 im_X11_finding se_X11_finding rfl rfl rfl (Nat.le_of_ble_eq_true rfl) hP7 (fun x_6 h_7 hP8 => ?_)
      clear hP7
      exact bz_retI (pc := 36) dX11_feed_36 rfl rfl hP8
  · have hP9 := hP1.2 c
    clear hP1
    refine bz_aload_n (pc := 9) dX11_feed_9 rfl rfl ?_
    refine bz_ldc (pc := 10) dX11_feed_10 ct_X11_78 ?_
    refine bz_kIV (as := [.inl (-1000001)]) (st := []) (ci := 11) (n := 1) (mc := 0) (ms := 0) (bc := bc) (bs := bs) (yc := kX11_finding) (q := (RX11, TX11, 9)) (b := a0) (pc := 12) dX11_feed_12 sc_X11_finding ml_X11_79 im_X11_finding se_X11_finding rfl rfl rfl (Nat.le_of_ble_eq_true rfl) hP9 (fun x_8 h_9 hP10 => ?_)
    clear hP9
    exact bz_retI (pc := 15) dX11_feed_15 rfl rfl hP10
def w_X11_feed_41 (G : bz_G) (κ : bz_K) (l : Launch) (d : Nat) (F : Option bz_V → bz_H → Prop) (bc bs : Nat) (a0 : Nat) (x1 : Int32) (x2 : Int32) (x3 : Int32) (h : bz_H) : Prop := (x3 < 0 → bz_rR h a0 11 3 (fun r_10 => bz_nn r_10 (fun a_11 => bz_rI h a_11 6 1 (fun x_12 => F (some (.inl x_12)) h)))) ∧ (¬ (x3 < 0) → bz_rR h a0 11 3 (fun r_13 => bz_nn r_13 (fun a_16 => bz_rc h a_16 6 (bz_cV G l d kX6_addByte [.inr (some a_16), .inl (((x1.toUInt32 >>> ((8 * x3).toUInt32 &&& Int32.toUInt32 31)).toInt32) &&& 255)] h 0 0 (fun h_15 => bz_J G κ kX11_feed (d + 1) F bc bs 41 [some (.inr (some a0)), some (.inl x1), some (.inl x2), some (.inl (x3 + (-1)))] [] h_15)))))
set_option maxRecDepth 20000 in
set_option maxHeartbeats 4000000 in
theorem g_X11_feed_41 {G : bz_G} {κ : bz_K} {l : Launch} {d : Nat} {F : Option bz_V → bz_H → Prop} {bc bs : Nat} (hl : κ.2.1 = l) (a0 : Nat) (x1 : Int32) (x2 : Int32) (x3 : Int32) (h : bz_H) (hP0 : w_X11_feed_41 G κ l d F bc bs a0 x1 x2 x3 h) : bz_J G κ kX11_feed (d + 1) F bc bs 41 [some (.inr (some a0)), some (.inl x1), some (.inl x2), some (.inl x3)] [] h := by
  subst hl
  unfold w_X11_feed_41 at hP0
  refine bz_iload_n (pc := 41) dX11_feed_41 rfl rfl ?_
  refine bz_if_lt (tgt := 68) (pc := 42) dX11_feed_42 rfl (fun c => ?_) (fun c => ?_)
  · have hP1 := hP0.1 c
    clear hP0
    refine bz_aload_n (pc := 68) dX11_feed_68 rfl rfl ?_
    refine bz_rw_rR (pc := 69) dX11_feed_69 fl_X11_26 hP1 (fun r_10 hP2 => ?_)
    clear hP1
    obtain ⟨a_11, rfl, hP3⟩ := hP2
    refine bz_rw_rI (pc := 72) dX11_feed_72 fl_X11_240 hP3 (fun x_12 hP4 => ?_)
    clear hP3
    exact bz_retI (pc := 75) dX11_feed_75 rfl rfl hP4
  · have hP5 := hP0.2 c
    clear hP0
    refine bz_aload_n (pc := 45) dX11_feed_45 rfl rfl ?_
    refine bz_rw_rR (pc := 46) dX11_feed_46 fl_X11_26 hP5 (fun r_13 hP6 => ?_)
    clear hP5
    refine bz_iload_n (pc := 49) dX11_feed_49 rfl rfl ?_
    refine bz_bipush (pc := 50) dX11_feed_50 cb_8 ?_
    refine bz_iload_n (pc := 52) dX11_feed_52 rfl rfl ?_
    refine bz_imul (pc := 53) dX11_feed_53 ?_
    refine bz_iushr (pc := 54) dX11_feed_54 ?_
    refine bz_sipush (pc := 55) dX11_feed_55 cs_255 ?_
    refine bz_iand (pc := 58) dX11_feed_58 ?_
    obtain ⟨a_16, rfl, hP7⟩ := hP6
    refine bz_kVV (as := [.inl (((x1.toUInt32 >>> ((8 * x3).toUInt32 &&& Int32.toUInt32 31)).toInt32) &&& 255)]) (st := []) (ci := 6) (n := 1) (mc := 0) (ms := 0) (bc := bc) (bs := bs) (yc := kX6_addByte) (q := (RX6, TX6, 8)) (b := a_16) (pc := 59) dX11_feed_59 sc_X6_addByte ml_X11_243 im_X6_addByte se_X6_addByte rfl rfl rfl (Nat.le_of_ble_eq_true rfl) hP7 (fun h_15 hP8 => ?_)
    clear hP7
    refine bz_s_iinc (pc := 62) dX11_feed_62 (Nat.le_of_ble_eq_true rfl) rfl rfl [some (.inr (some a0)), some (.inl x1), some (.inl x2), some (.inl (x3 + (-1)))] rfl ?_
    refine bz_goto (tgt := 41) (pc := 65) dX11_feed_65 rfl ?_
    exact hP8
theorem m_X11_feed {G : bz_G} {l : Launch} {d mc ms : Nat} {F : Option bz_V → bz_H → Prop} (a0 : Nat) (x1 : Int32) (x2 : Int32) (h : bz_H) (hP : ∀ (κ : bz_K) (bc bs : Nat), κ.2.1 = l → w_X11_feed_0 G κ l d F bc bs a0 x1 x2 h) : bz_Call G l (d + 1) kX11_feed [.inr (some a0), .inl x1, .inl x2] h mc ms F :=
  bz_body (by decide) (Nat.le_of_ble_eq_true rfl) (fun κ hl => g_X11_feed_0 hl a0 x1 x2 h (hP κ mc ms hl))
def w_X11_finding_0 (G : bz_G) (l : Launch) (d : Nat) (F : Option bz_V → bz_H → Prop) (a0 : Nat) (x1 : Int32) (h : bz_H) : Prop := bz_cI G l d kX11_isWithin [.inl ((-1000001) - x1), .inl 0, .inl 6] h 0 0 (fun x_1 h_2 => (x_1 = 0 → F (some (.inl x1)) h_2) ∧ (¬ (x_1 = 0) → bz_rR h_2 a0 11 5 (fun r_3 => bz_nn r_3 (fun a_4 => bz_rA h_2 a_4 ((-1000001) - x1) (fun x_5 => bz_wA h_2 a_4 ((-1000001) - x1) (x_5 + 1) (fun h_6 => F (some (.inl x1)) h_6))))))
set_option maxRecDepth 20000 in
set_option maxHeartbeats 4000000 in
theorem g_X11_finding_0 {G : bz_G} {κ : bz_K} {l : Launch} {d : Nat} {F : Option bz_V → bz_H → Prop} {bc bs : Nat} (hl : κ.2.1 = l) (a0 : Nat) (x1 : Int32) (h : bz_H) (hP0 : w_X11_finding_0 G l d F a0 x1 h) : bz_J G κ kX11_finding (d + 1) F bc bs 0 [some (.inr (some a0)), some (.inl x1), none] [] h := by
  subst hl
  unfold w_X11_finding_0 at hP0
  refine bz_ldc (pc := 0) dX11_finding_0 ct_X11_78 ?_
  refine bz_iload_n (pc := 2) dX11_finding_2 rfl rfl ?_
  refine bz_isub (pc := 3) dX11_finding_3 ?_
  refine bz_s_istore_n (pc := 4) dX11_finding_4 rfl (Nat.le_of_ble_eq_true rfl) [some (.inr (some a0)), some (.inl x1), some (.inl ((-1000001) - x1))] rfl ?_
  refine bz_iload_n (pc := 5) dX11_finding_5 rfl rfl ?_
  refine bz_iconst (pc := 6) dX11_finding_6 ci_0 ?_
  refine bz_bipush (pc := 7) dX11_finding_7 cb_6 ?_
  refine bz_kIS (as := [.inl ((-1000001) - x1), .inl 0, .inl 6]) (st := []) (n := 3) (mc := 0) (ms := 0) (bc := bc) (bs := bs) (yc := kX11_isWithin) (pc := 9) dX11_finding_9 sc_X11_isWithin ml_X11_74 ss_X11_isWithin rfl (Nat.le_of_ble_eq_true rfl) hP0 (fun x_1 h_2 hP1 => ?_)
  clear hP0
  refine bz_if_eq (tgt := 25) (pc := 12) dX11_finding_12 rfl (fun c => ?_) (fun c => ?_)
  · have hP2 := hP1.1 c
    clear hP1
    refine bz_iload_n (pc := 25) dX11_finding_25 rfl rfl ?_
    exact bz_retI (pc := 26) dX11_finding_26 rfl rfl hP2
  · have hP3 := hP1.2 c
    clear hP1
    refine bz_aload_n (pc := 15) dX11_finding_15 rfl rfl ?_
    refine bz_rw_rR (pc := 16) dX11_finding_16 fl_X11_37 hP3 (fun r_3 hP4 => ?_)
    clear hP3
    refine bz_iload_n (pc := 19) dX11_finding_19 rfl rfl ?_
    refine bz_dup2 (pc := 20) dX11_finding_20 ?_
    obtain ⟨a_4, rfl, hP5⟩ := hP4
    refine bz_rw_rA (pc := 21) dX11_finding_21 hP5 (fun x_5 hP6 => ?_)
    clear hP5
    refine bz_iconst (pc := 22) dX11_finding_22 ci_1 ?_
    refine bz_iadd (pc := 23) dX11_finding_23 ?_
    refine bz_rw_wA (pc := 24) dX11_finding_24 hP6 (fun h_6 hP7 => ?_)
    clear hP6
    refine bz_iload_n (pc := 25) dX11_finding_25 rfl rfl ?_
    exact bz_retI (pc := 26) dX11_finding_26 rfl rfl hP7
theorem m_X11_finding {G : bz_G} {l : Launch} {d mc ms : Nat} {F : Option bz_V → bz_H → Prop} (a0 : Nat) (x1 : Int32) (h : bz_H) (hP : w_X11_finding_0 G l d F a0 x1 h) : bz_Call G l (d + 1) kX11_finding [.inr (some a0), .inl x1] h mc ms F :=
  bz_body (by decide) (Nat.le_of_ble_eq_true rfl) (fun κ hl => g_X11_finding_0 hl a0 x1 h hP)
def w_X11_force_0 (G : bz_G) (l : Launch) (d : Nat) (F : Option bz_V → bz_H → Prop) (a0 : Nat) (x1 : Int32) (x2 : Int32) (h : bz_H) : Prop := bz_cI G l d kX11_isWithin [.inl x1, .inl 0, .inl 1] h 0 0 (fun x_1 h_2 => (x_1 = 0 → bz_rc h_2 a0 11 (bz_cI G l d kX11_finding [.inr (some a0), .inl (-1000001)] h_2 0 0 (fun x_3 h_4 => F (some (.inl x_3)) h_4))) ∧ (¬ (x_1 = 0) → bz_rR h_2 a0 11 0 (fun r_5 => bz_nn r_5 (fun a_6 => bz_rI h_2 a_6 10 11 (fun x_7 => bz_cI G l d kX11_isWithin [.inl x2, .inl (-1), .inl (x_7 - 1)] h_2 0 0 (fun x_8 h_9 => (¬ x_8 = 0 → (¬ x1 = 0 → bz_rR h_9 a0 11 0 (fun r_10 => bz_nn r_10 (fun a_11 => bz_rI h_9 a_11 10 14 (fun x_12 => (¬ x1 = 0 → bz_rR h_9 a0 11 0 (fun r_13 => bz_nn r_13 (fun a_14 => bz_wI h_9 a_14 10 14 x2 (fun h_15 => F (some (.inl x_12)) h_15)))) ∧ (x1 = 0 → bz_rR h_9 a0 11 0 (fun r_16 => bz_nn r_16 (fun a_17 => bz_wI h_9 a_17 10 13 x2 (fun h_18 => F (some (.inl x_12)) h_18)))))))) ∧ (x1 = 0 → bz_rR h_9 a0 11 0 (fun r_19 => bz_nn r_19 (fun a_20 => bz_rI h_9 a_20 10 13 (fun x_21 => (¬ x1 = 0 → bz_rR h_9 a0 11 0 (fun r_22 => bz_nn r_22 (fun a_23 => bz_wI h_9 a_23 10 14 x2 (fun h_24 => F (some (.inl x_21)) h_24)))) ∧ (x1 = 0 → bz_rR h_9 a0 11 0 (fun r_25 => bz_nn r_25 (fun a_26 => bz_wI h_9 a_26 10 13 x2 (fun h_27 => F (some (.inl x_21)) h_27))))))))) ∧ (x_8 = 0 → bz_rc h_9 a0 11 (bz_cI G l d kX11_finding [.inr (some a0), .inl (-1000001)] h_9 0 0 (fun x_28 h_29 => F (some (.inl x_28)) h_29)))))))))
set_option maxRecDepth 20000 in
set_option maxHeartbeats 4000000 in
theorem g_X11_force_0 {G : bz_G} {κ : bz_K} {l : Launch} {d : Nat} {F : Option bz_V → bz_H → Prop} {bc bs : Nat} (hl : κ.2.1 = l) (a0 : Nat) (x1 : Int32) (x2 : Int32) (h : bz_H) (hP0 : w_X11_force_0 G l d F a0 x1 x2 h) : bz_J G κ kX11_force (d + 1) F bc bs 0 [some (.inr (some a0)), some (.inl x1), some (.inl x2), none] [] h := by
  subst hl
  unfold w_X11_force_0 at hP0
  refine bz_iload_n (pc := 0) dX11_force_0 rfl rfl ?_
  refine bz_iconst (pc := 1) dX11_force_1 ci_0 ?_
  refine bz_iconst (pc := 2) dX11_force_2 ci_1 ?_
  refine bz_kIS (as := [.inl x1, .inl 0, .inl 1]) (st := []) (n := 3) (mc := 0) (ms := 0) (bc := bc) (bs := bs) (yc := kX11_isWithin) (pc := 3) dX11_force_3 sc_X11_isWithin ml_X11_74 ss_X11_isWithin rfl (Nat.le_of_ble_eq_true rfl) hP0 (fun x_1 h_2 hP1 => ?_)
  clear hP0
  refine bz_if_eq (tgt := 26) (pc := 6) dX11_force_6 rfl (fun c => ?_) (fun c => ?_)
  · have hP2 := hP1.1 c
    clear hP1
    refine bz_aload_n (pc := 26) dX11_force_26 rfl rfl ?_
    refine bz_ldc (pc := 27) dX11_force_27 ct_X11_78 ?_
    refine bz_kIV (as := [.inl (-1000001)]) (st := []) (ci := 11) (n := 1) (mc := 0) (ms := 0) (bc := bc) (bs := bs) (yc := kX11_finding) (q := (RX11, TX11, 9)) (b := a0) (pc := 29) dX11_force_29 sc_X11_finding ml_X11_79 im_X11_finding se_X11_finding rfl rfl rfl (Nat.le_of_ble_eq_true rfl) hP2 (fun x_3 h_4 hP3 => ?_)
    clear hP2
    exact bz_retI (pc := 32) dX11_force_32 rfl rfl hP3
  · have hP4 := hP1.2 c
    clear hP1
    refine bz_iload_n (pc := 9) dX11_force_9 rfl rfl ?_
    refine bz_iconst (pc := 10) dX11_force_10 ci_m1 ?_
    refine bz_aload_n (pc := 11) dX11_force_11 rfl rfl ?_
    refine bz_rw_rR (pc := 12) dX11_force_12 fl_X11_12 hP4 (fun r_5 hP5 => ?_)
    clear hP4
    obtain ⟨a_6, rfl, hP6⟩ := hP5
    refine bz_rw_rI (pc := 15) dX11_force_15 fl_X11_247 hP6 (fun x_7 hP7 => ?_)
    clear hP6
    refine bz_iconst (pc := 18) dX11_force_18 ci_1 ?_
    refine bz_isub (pc := 19) dX11_force_19 ?_
    refine bz_kIS (as := [.inl x2, .inl (-1), .inl (x_7 - 1)]) (st := []) (n := 3) (mc := 0) (ms := 0) (bc := bc) (bs := bs) (yc := kX11_isWithin) (pc := 20) dX11_force_20 sc_X11_isWithin ml_X11_74 ss_X11_isWithin rfl (Nat.le_of_ble_eq_true rfl) hP7 (fun x_8 h_9 hP8 => ?_)
    clear hP7
    refine bz_if_ne (tgt := 33) (pc := 23) dX11_force_23 rfl (fun c => ?_) (fun c => ?_)
    · have hP9 := hP8.1 c
      clear hP8
      refine bz_iload_n (pc := 33) dX11_force_33 rfl rfl ?_
      refine bz_if_ne (tgt := 47) (pc := 34) dX11_force_34 rfl (fun c => ?_) (fun c => ?_)
      · have hP10 := hP9.1 c
        clear hP9
        refine bz_aload_n (pc := 47) dX11_force_47 rfl rfl ?_
        refine bz_rw_rR (pc := 48) dX11_force_48 fl_X11_12 hP10 (fun r_10 hP11 => ?_)
        clear hP10
        obtain ⟨a_11, rfl, hP12⟩ := hP11
        refine bz_rw_rI (pc := 51) dX11_force_51 fl_X11_278 hP12 (fun x_12 hP13 => ?_)
        clear hP12
        refine bz_s_istore_n (pc := 54) dX11_force_54 rfl (Nat.le_of_ble_eq_true rfl) [some (.inr (some a0)), some (.inl x1), some (.inl x2), some (.inl x_12)] rfl ?_
        refine bz_iload_n (pc := 55) dX11_force_55 rfl rfl ?_
        refine bz_if_ne (tgt := 70) (pc := 56) dX11_force_56 rfl (fun c => ?_) (fun c => ?_)
        · have hP14 := hP13.1 c
          clear hP13
          refine bz_aload_n (pc := 70) dX11_force_70 rfl rfl ?_
          refine bz_rw_rR (pc := 71) dX11_force_71 fl_X11_12 hP14 (fun r_13 hP15 => ?_)
          clear hP14
          refine bz_iload_n (pc := 74) dX11_force_74 rfl rfl ?_
          obtain ⟨a_14, rfl, hP16⟩ := hP15
          refine bz_rw_wI (pc := 75) dX11_force_75 fl_X11_278 (fun q h9 => by cases h9; rfl) rfl hP16 (fun h_15 hP17 => ?_)
          clear hP16
          refine bz_iload_n (pc := 78) dX11_force_78 rfl rfl ?_
          exact bz_retI (pc := 79) dX11_force_79 rfl rfl hP17
        · have hP18 := hP13.2 c
          clear hP13
          refine bz_aload_n (pc := 59) dX11_force_59 rfl rfl ?_
          refine bz_rw_rR (pc := 60) dX11_force_60 fl_X11_12 hP18 (fun r_16 hP19 => ?_)
          clear hP18
          refine bz_iload_n (pc := 63) dX11_force_63 rfl rfl ?_
          obtain ⟨a_17, rfl, hP20⟩ := hP19
          refine bz_rw_wI (pc := 64) dX11_force_64 fl_X11_275 (fun q h9 => by cases h9; rfl) rfl hP20 (fun h_18 hP21 => ?_)
          clear hP20
          refine bz_goto (tgt := 78) (pc := 67) dX11_force_67 rfl ?_
          refine bz_iload_n (pc := 78) dX11_force_78 rfl rfl ?_
          exact bz_retI (pc := 79) dX11_force_79 rfl rfl hP21
      · have hP22 := hP9.2 c
        clear hP9
        refine bz_aload_n (pc := 37) dX11_force_37 rfl rfl ?_
        refine bz_rw_rR (pc := 38) dX11_force_38 fl_X11_12 hP22 (fun r_19 hP23 => ?_)
        clear hP22
        obtain ⟨a_20, rfl, hP24⟩ := hP23
        refine bz_rw_rI (pc := 41) dX11_force_41 fl_X11_275 hP24 (fun x_21 hP25 => ?_)
        clear hP24
        refine bz_goto (tgt := 54) (pc := 44) dX11_force_44 rfl ?_
        refine bz_s_istore_n (pc := 54) dX11_force_54 rfl (Nat.le_of_ble_eq_true rfl) [some (.inr (some a0)), some (.inl x1), some (.inl x2), some (.inl x_21)] rfl ?_
        refine bz_iload_n (pc := 55) dX11_force_55 rfl rfl ?_
        refine bz_if_ne (tgt := 70) (pc := 56) dX11_force_56 rfl (fun c => ?_) (fun c => ?_)
        · have hP26 := hP25.1 c
          clear hP25
          refine bz_aload_n (pc := 70) dX11_force_70 rfl rfl ?_
          refine bz_rw_rR (pc := 71) dX11_force_71 fl_X11_12 hP26 (fun r_22 hP27 => ?_)
          clear hP26
          refine bz_iload_n (pc := 74) dX11_force_74 rfl rfl ?_
          obtain ⟨a_23, rfl, hP28⟩ := hP27
          refine bz_rw_wI (pc := 75) dX11_force_75 fl_X11_278 (fun q h9 => by cases h9; rfl) rfl hP28 (fun h_24 hP29 => ?_)
          clear hP28
          refine bz_iload_n (pc := 78) dX11_force_78 rfl rfl ?_
          exact bz_retI (pc := 79) dX11_force_79 rfl rfl hP29
        · have hP30 := hP25.2 c
          clear hP25
          refine bz_aload_n (pc := 59) dX11_force_59 rfl rfl ?_
          refine bz_rw_rR (pc := 60) dX11_force_60 fl_X11_12 hP30 (fun r_25 hP31 => ?_)
          clear hP30
          refine bz_iload_n (pc := 63) dX11_force_63 rfl rfl ?_
          obtain ⟨a_26, rfl, hP32⟩ := hP31
          refine bz_rw_wI (pc := 64) dX11_force_64 fl_X11_275 (fun q h9 => by cases h9; rfl) rfl hP32 (fun h_27 hP33 => ?_)
          clear hP32
          refine bz_goto (tgt := 78) (pc := 67) dX11_force_67 rfl ?_
          refine bz_iload_n (pc := 78) dX11_force_78 rfl rfl ?_
          exact bz_retI (pc := 79) dX11_force_79 rfl rfl hP33
    · have hP34 := hP8.2 c
      clear hP8
      refine bz_aload_n (pc := 26) dX11_force_26 rfl rfl ?_
      refine bz_ldc (pc := 27) dX11_force_27 ct_X11_78 ?_
      refine bz_kIV (as := [.inl (-1000001)]) (st := []) (ci := 11) (n := 1) (mc := 0) (ms := 0) (bc := bc) (bs := bs) (yc := kX11_finding) (q := (RX11, TX11, 9)) (b := a0) (pc := 29) dX11_force_29 sc_X11_finding ml_X11_79 im_X11_finding se_X11_finding rfl rfl rfl (Nat.le_of_ble_eq_true rfl) hP34 (fun x_28 h_29 hP35 => ?_)
      clear hP34
      exact bz_retI (pc := 32) dX11_force_32 rfl rfl hP35
theorem m_X11_force {G : bz_G} {l : Launch} {d mc ms : Nat} {F : Option bz_V → bz_H → Prop} (a0 : Nat) (x1 : Int32) (x2 : Int32) (h : bz_H) (hP : w_X11_force_0 G l d F a0 x1 x2 h) : bz_Call G l (d + 1) kX11_force [.inr (some a0), .inl x1, .inl x2] h mc ms F :=
  bz_body (by decide) (Nat.le_of_ble_eq_true rfl) (fun κ hl => g_X11_force_0 hl a0 x1 x2 h hP)
def w_X11_giveTwo_0 (G : bz_G) (l : Launch) (d : Nat) (F : Option bz_V → bz_H → Prop) (a0 : Nat) (x1 : Int32) (x2 : Int32) (x3 : Int32) (h : bz_H) : Prop := bz_rc h a0 11 (bz_cI G l d kX11_planJoined [.inr (some a0), .inl x1, .inl x2, .inl x3] h 0 0 (fun x_1 h_2 => (x_1 = 0 → bz_rc h_2 a0 11 (bz_cV G l d kX11_handOverTwo [.inr (some a0), .inl x1, .inl x2, .inl x3] h_2 0 0 (fun h_4 => bz_rR h_4 a0 11 6 (fun r_5 => bz_nn r_5 (fun a_6 => bz_rI h_4 a_6 9 7 (fun x_7 => F (some (.inl x_7)) h_4)))))) ∧ (¬ (x_1 = 0) → bz_rc h_2 a0 11 (bz_cI G l d kX11_finding [.inr (some a0), .inl x_1] h_2 0 0 (fun x_8 h_9 => F (some (.inl x_8)) h_9)))))
set_option maxRecDepth 20000 in
set_option maxHeartbeats 4000000 in
theorem g_X11_giveTwo_0 {G : bz_G} {κ : bz_K} {l : Launch} {d : Nat} {F : Option bz_V → bz_H → Prop} {bc bs : Nat} (hl : κ.2.1 = l) (a0 : Nat) (x1 : Int32) (x2 : Int32) (x3 : Int32) (h : bz_H) (hP0 : w_X11_giveTwo_0 G l d F a0 x1 x2 x3 h) : bz_J G κ kX11_giveTwo (d + 1) F bc bs 0 [some (.inr (some a0)), some (.inl x1), some (.inl x2), some (.inl x3), none] [] h := by
  subst hl
  unfold w_X11_giveTwo_0 at hP0
  refine bz_aload_n (pc := 0) dX11_giveTwo_0 rfl rfl ?_
  refine bz_iload_n (pc := 1) dX11_giveTwo_1 rfl rfl ?_
  refine bz_iload_n (pc := 2) dX11_giveTwo_2 rfl rfl ?_
  refine bz_iload_n (pc := 3) dX11_giveTwo_3 rfl rfl ?_
  refine bz_kIV (as := [.inl x1, .inl x2, .inl x3]) (st := []) (ci := 11) (n := 3) (mc := 0) (ms := 0) (bc := bc) (bs := bs) (yc := kX11_planJoined) (q := (RX11, TX11, 9)) (b := a0) (pc := 4) dX11_giveTwo_4 sc_X11_planJoined ml_X11_223 im_X11_planJoined se_X11_planJoined rfl rfl rfl (Nat.le_of_ble_eq_true rfl) hP0 (fun x_1 h_2 hP1 => ?_)
  clear hP0
  refine bz_s_istore (pc := 7) dX11_giveTwo_7 (Nat.le_of_ble_eq_true rfl) [some (.inr (some a0)), some (.inl x1), some (.inl x2), some (.inl x3), some (.inl x_1)] rfl ?_
  refine bz_iload (pc := 9) dX11_giveTwo_9 rfl ?_
  refine bz_if_eq (tgt := 21) (pc := 11) dX11_giveTwo_11 rfl (fun c => ?_) (fun c => ?_)
  · have hP2 := hP1.1 c
    clear hP1
    refine bz_aload_n (pc := 21) dX11_giveTwo_21 rfl rfl ?_
    refine bz_iload_n (pc := 22) dX11_giveTwo_22 rfl rfl ?_
    refine bz_iload_n (pc := 23) dX11_giveTwo_23 rfl rfl ?_
    refine bz_iload_n (pc := 24) dX11_giveTwo_24 rfl rfl ?_
    refine bz_kVV (as := [.inl x1, .inl x2, .inl x3]) (st := []) (ci := 11) (n := 3) (mc := 0) (ms := 0) (bc := bc) (bs := bs) (yc := kX11_handOverTwo) (q := (RX11, TX11, 9)) (b := a0) (pc := 25) dX11_giveTwo_25 sc_X11_handOverTwo ml_X11_236 im_X11_handOverTwo se_X11_handOverTwo rfl rfl rfl (Nat.le_of_ble_eq_true rfl) hP2 (fun h_4 hP3 => ?_)
    clear hP2
    refine bz_aload_n (pc := 28) dX11_giveTwo_28 rfl rfl ?_
    refine bz_rw_rR (pc := 29) dX11_giveTwo_29 fl_X11_50 hP3 (fun r_5 hP4 => ?_)
    clear hP3
    obtain ⟨a_6, rfl, hP5⟩ := hP4
    refine bz_rw_rI (pc := 32) dX11_giveTwo_32 fl_X11_229 hP5 (fun x_7 hP6 => ?_)
    clear hP5
    exact bz_retI (pc := 35) dX11_giveTwo_35 rfl rfl hP6
  · have hP7 := hP1.2 c
    clear hP1
    refine bz_aload_n (pc := 14) dX11_giveTwo_14 rfl rfl ?_
    refine bz_iload (pc := 15) dX11_giveTwo_15 rfl ?_
    refine bz_kIV (as := [.inl x_1]) (st := []) (ci := 11) (n := 1) (mc := 0) (ms := 0) (bc := bc) (bs := bs) (yc := kX11_finding) (q := (RX11, TX11, 9)) (b := a0) (pc := 17) dX11_giveTwo_17 sc_X11_finding ml_X11_79 im_X11_finding se_X11_finding rfl rfl rfl (Nat.le_of_ble_eq_true rfl) hP7 (fun x_8 h_9 hP8 => ?_)
    clear hP7
    exact bz_retI (pc := 20) dX11_giveTwo_20 rfl rfl hP8
theorem m_X11_giveTwo {G : bz_G} {l : Launch} {d mc ms : Nat} {F : Option bz_V → bz_H → Prop} (a0 : Nat) (x1 : Int32) (x2 : Int32) (x3 : Int32) (h : bz_H) (hP : w_X11_giveTwo_0 G l d F a0 x1 x2 x3 h) : bz_Call G l (d + 1) kX11_giveTwo [.inr (some a0), .inl x1, .inl x2, .inl x3] h mc ms F :=
  bz_body (by decide) (Nat.le_of_ble_eq_true rfl) (fun κ hl => g_X11_giveTwo_0 hl a0 x1 x2 x3 h hP)
def w_X11_give_0 (G : bz_G) (l : Launch) (d : Nat) (F : Option bz_V → bz_H → Prop) (a0 : Nat) (x1 : Int32) (x2 : Int32) (h : bz_H) : Prop := bz_rR h a0 11 0 (fun r_1 => bz_nn r_1 (fun a_4 => bz_rc h a_4 10 (bz_cR G l d kX10_riderAt [.inr (some a_4), .inl x1] h 0 0 (fun r_2 h_3 => bz_rR h_3 a0 11 0 (fun r_5 => bz_nn r_5 (fun a_8 => bz_rc h_3 a_8 10 (bz_cR G l d kX10_orderAt [.inr (some a_8), .inl x2] h_3 0 0 (fun r_6 h_7 => (r_2 = none → bz_rc h_7 a0 11 (bz_cI G l d kX11_finding [.inr (some a0), .inl (-1000001)] h_7 0 0 (fun x_10 h_11 => F (some (.inl x_10)) h_11))) ∧ (∀ a_9, r_2 = some a_9 → (∀ a_12, r_6 = some a_12 → bz_rI h_7 a_12 2 7 (fun x_15 => (x_15 = 0 → bz_rR h_7 a0 11 6 (fun r_16 => bz_rI h_7 a_9 3 1 (fun x_17 => bz_rI h_7 a_9 3 4 (fun x_18 => bz_rR h_7 a0 11 0 (fun r_19 => bz_nn r_19 (fun a_20 => bz_rI h_7 a_20 10 12 (fun x_21 => bz_rc h_7 a_9 3 (bz_cI G l d kX3_startFrom [.inr (some a_9), .inl x_21] h_7 0 0 (fun x_22 h_23 => bz_nn r_16 (fun a_26 => bz_rc h_23 a_26 9 (bz_cI G l d kX9_planOne [.inr (some a_26), .inl x_17, .inl x_18, .inl x_22, .inr (some a_12)] h_23 0 0 (fun x_24 h_25 => (¬ x_24 = 0 → bz_rc h_25 a0 11 (bz_cV G l d kX11_handOver [.inr (some a0), .inl x1, .inr (some a_12)] h_25 0 0 (fun h_28 => bz_rI h_28 a_12 2 10 (fun x_29 => F (some (.inl x_29)) h_28)))) ∧ (x_24 = 0 → bz_rc h_25 a0 11 (bz_cI G l d kX11_finding [.inr (some a0), .inl (-1000004)] h_25 0 0 (fun x_30 h_31 => F (some (.inl x_30)) h_31))))))))))))))) ∧ (¬ (x_15 = 0) → bz_rc h_7 a0 11 (bz_cI G l d kX11_finding [.inr (some a0), .inl (-1000005)] h_7 0 0 (fun x_32 h_33 => F (some (.inl x_32)) h_33))))) ∧ (r_6 = none → bz_rc h_7 a0 11 (bz_cI G l d kX11_finding [.inr (some a0), .inl (-1000001)] h_7 0 0 (fun x_13 h_14 => F (some (.inl x_13)) h_14))))))))))))
set_option maxRecDepth 20000 in
set_option maxHeartbeats 4000000 in
theorem g_X11_give_0 {G : bz_G} {κ : bz_K} {l : Launch} {d : Nat} {F : Option bz_V → bz_H → Prop} {bc bs : Nat} (hl : κ.2.1 = l) (a0 : Nat) (x1 : Int32) (x2 : Int32) (h : bz_H) (hP0 : w_X11_give_0 G l d F a0 x1 x2 h) : bz_J G κ kX11_give (d + 1) F bc bs 0 [some (.inr (some a0)), some (.inl x1), some (.inl x2), none, none] [] h := by
  subst hl
  unfold w_X11_give_0 at hP0
  refine bz_aload_n (pc := 0) dX11_give_0 rfl rfl ?_
  refine bz_rw_rR (pc := 1) dX11_give_1 fl_X11_12 hP0 (fun r_1 hP1 => ?_)
  clear hP0
  refine bz_iload_n (pc := 4) dX11_give_4 rfl rfl ?_
  obtain ⟨a_4, rfl, hP2⟩ := hP1
  refine bz_kRV (as := [.inl x1]) (st := []) (ci := 10) (n := 1) (mc := 0) (ms := 0) (bc := bc) (bs := bs) (yc := kX10_riderAt) (q := (RX10, TX10, 16)) (b := a_4) (pc := 5) dX11_give_5 sc_X10_riderAt ml_X11_179 im_X10_riderAt se_X10_riderAt rfl rfl rfl (Nat.le_of_ble_eq_true rfl) hP2 (fun r_2 h_3 hP3 => ?_)
  clear hP2
  refine bz_s_astore_n (pc := 8) dX11_give_8 rfl (Nat.le_of_ble_eq_true rfl) [some (.inr (some a0)), some (.inl x1), some (.inl x2), some (.inr r_2), none] rfl ?_
  refine bz_aload_n (pc := 9) dX11_give_9 rfl rfl ?_
  refine bz_rw_rR (pc := 10) dX11_give_10 fl_X11_12 hP3 (fun r_5 hP4 => ?_)
  clear hP3
  refine bz_iload_n (pc := 13) dX11_give_13 rfl rfl ?_
  obtain ⟨a_8, rfl, hP5⟩ := hP4
  refine bz_kRV (as := [.inl x2]) (st := []) (ci := 10) (n := 1) (mc := 0) (ms := 0) (bc := bc) (bs := bs) (yc := kX10_orderAt) (q := (RX10, TX10, 16)) (b := a_8) (pc := 14) dX11_give_14 sc_X10_orderAt ml_X11_132 im_X10_orderAt se_X10_orderAt rfl rfl rfl (Nat.le_of_ble_eq_true rfl) hP5 (fun r_6 h_7 hP6 => ?_)
  clear hP5
  refine bz_s_astore (pc := 17) dX11_give_17 (Nat.le_of_ble_eq_true rfl) [some (.inr (some a0)), some (.inl x1), some (.inl x2), some (.inr r_2), some (.inr r_6)] rfl ?_
  refine bz_aload_n (pc := 19) dX11_give_19 rfl rfl ?_
  refine bz_ifnull (tgt := 28) (pc := 20) dX11_give_20 rfl (fun c => ?_) (fun a_9 c => ?_)
  · have hP7 := hP6.1 c
    clear hP6
    subst c
    refine bz_aload_n (pc := 28) dX11_give_28 rfl rfl ?_
    refine bz_ldc (pc := 29) dX11_give_29 ct_X11_78 ?_
    refine bz_kIV (as := [.inl (-1000001)]) (st := []) (ci := 11) (n := 1) (mc := 0) (ms := 0) (bc := bc) (bs := bs) (yc := kX11_finding) (q := (RX11, TX11, 9)) (b := a0) (pc := 31) dX11_give_31 sc_X11_finding ml_X11_79 im_X11_finding se_X11_finding rfl rfl rfl (Nat.le_of_ble_eq_true rfl) hP7 (fun x_10 h_11 hP8 => ?_)
    clear hP7
    exact bz_retI (pc := 34) dX11_give_34 rfl rfl hP8
  · have hP9 := hP6.2 a_9 c
    clear hP6
    subst c
    refine bz_aload (pc := 23) dX11_give_23 rfl ?_
    refine bz_ifnonnull (tgt := 35) (pc := 25) dX11_give_25 rfl (fun a_12 c => ?_) (fun c => ?_)
    · have hP10 := hP9.1 a_12 c
      clear hP9
      subst c
      refine bz_aload (pc := 35) dX11_give_35 rfl ?_
      refine bz_rw_rI (pc := 37) dX11_give_37 fl_X11_136 hP10 (fun x_15 hP11 => ?_)
      clear hP10
      refine bz_if_eq (tgt := 50) (pc := 40) dX11_give_40 rfl (fun c => ?_) (fun c => ?_)
      · have hP12 := hP11.1 c
        clear hP11
        refine bz_aload_n (pc := 50) dX11_give_50 rfl rfl ?_
        refine bz_rw_rR (pc := 51) dX11_give_51 fl_X11_50 hP12 (fun r_16 hP13 => ?_)
        clear hP12
        refine bz_aload_n (pc := 54) dX11_give_54 rfl rfl ?_
        refine bz_rw_rI (pc := 55) dX11_give_55 fl_X11_183 hP13 (fun x_17 hP14 => ?_)
        clear hP13
        refine bz_aload_n (pc := 58) dX11_give_58 rfl rfl ?_
        refine bz_rw_rI (pc := 59) dX11_give_59 fl_X11_188 hP14 (fun x_18 hP15 => ?_)
        clear hP14
        refine bz_aload_n (pc := 62) dX11_give_62 rfl rfl ?_
        refine bz_aload_n (pc := 63) dX11_give_63 rfl rfl ?_
        refine bz_rw_rR (pc := 64) dX11_give_64 fl_X11_12 hP15 (fun r_19 hP16 => ?_)
        clear hP15
        obtain ⟨a_20, rfl, hP17⟩ := hP16
        refine bz_rw_rI (pc := 67) dX11_give_67 fl_X11_103 hP17 (fun x_21 hP18 => ?_)
        clear hP17
        refine bz_kIV (as := [.inl x_21]) (st := [.inl x_18, .inl x_17, .inr r_16]) (ci := 3) (n := 1) (mc := 0) (ms := 0) (bc := bc) (bs := bs) (yc := kX3_startFrom) (q := (RX3, TX3, 9)) (b := a_9) (pc := 70) dX11_give_70 sc_X3_startFrom ml_X11_212 im_X3_startFrom se_X3_startFrom rfl rfl rfl (Nat.le_of_ble_eq_true rfl) hP18 (fun x_22 h_23 hP19 => ?_)
        clear hP18
        refine bz_aload (pc := 73) dX11_give_73 rfl ?_
        obtain ⟨a_26, rfl, hP20⟩ := hP19
        refine bz_kIV (as := [.inl x_17, .inl x_18, .inl x_22, .inr (some a_12)]) (st := []) (ci := 9) (n := 4) (mc := 0) (ms := 0) (bc := bc) (bs := bs) (yc := kX9_planOne) (q := (RX9, TX9, 11)) (b := a_26) (pc := 75) dX11_give_75 sc_X9_planOne ml_X11_215 im_X9_planOne se_X9_planOne rfl rfl rfl (Nat.le_of_ble_eq_true rfl) hP20 (fun x_24 h_25 hP21 => ?_)
        clear hP20
        refine bz_if_ne (tgt := 88) (pc := 78) dX11_give_78 rfl (fun c => ?_) (fun c => ?_)
        · have hP22 := hP21.1 c
          clear hP21
          refine bz_aload_n (pc := 88) dX11_give_88 rfl rfl ?_
          refine bz_iload_n (pc := 89) dX11_give_89 rfl rfl ?_
          refine bz_aload (pc := 90) dX11_give_90 rfl ?_
          refine bz_kVV (as := [.inl x1, .inr (some a_12)]) (st := []) (ci := 11) (n := 2) (mc := 0) (ms := 0) (bc := bc) (bs := bs) (yc := kX11_handOver) (q := (RX11, TX11, 9)) (b := a0) (pc := 92) dX11_give_92 sc_X11_handOver ml_X11_232 im_X11_handOver se_X11_handOver rfl rfl rfl (Nat.le_of_ble_eq_true rfl) hP22 (fun h_28 hP23 => ?_)
          clear hP22
          refine bz_aload (pc := 95) dX11_give_95 rfl ?_
          refine bz_rw_rI (pc := 97) dX11_give_97 fl_X11_159 hP23 (fun x_29 hP24 => ?_)
          clear hP23
          exact bz_retI (pc := 100) dX11_give_100 rfl rfl hP24
        · have hP25 := hP21.2 c
          clear hP21
          refine bz_aload_n (pc := 81) dX11_give_81 rfl rfl ?_
          refine bz_ldc (pc := 82) dX11_give_82 ct_X11_102 ?_
          refine bz_kIV (as := [.inl (-1000004)]) (st := []) (ci := 11) (n := 1) (mc := 0) (ms := 0) (bc := bc) (bs := bs) (yc := kX11_finding) (q := (RX11, TX11, 9)) (b := a0) (pc := 84) dX11_give_84 sc_X11_finding ml_X11_79 im_X11_finding se_X11_finding rfl rfl rfl (Nat.le_of_ble_eq_true rfl) hP25 (fun x_30 h_31 hP26 => ?_)
          clear hP25
          exact bz_retI (pc := 87) dX11_give_87 rfl rfl hP26
      · have hP27 := hP11.2 c
        clear hP11
        refine bz_aload_n (pc := 43) dX11_give_43 rfl rfl ?_
        refine bz_ldc (pc := 44) dX11_give_44 ct_X11_107 ?_
        refine bz_kIV (as := [.inl (-1000005)]) (st := []) (ci := 11) (n := 1) (mc := 0) (ms := 0) (bc := bc) (bs := bs) (yc := kX11_finding) (q := (RX11, TX11, 9)) (b := a0) (pc := 46) dX11_give_46 sc_X11_finding ml_X11_79 im_X11_finding se_X11_finding rfl rfl rfl (Nat.le_of_ble_eq_true rfl) hP27 (fun x_32 h_33 hP28 => ?_)
        clear hP27
        exact bz_retI (pc := 49) dX11_give_49 rfl rfl hP28
    · have hP29 := hP9.2 c
      clear hP9
      subst c
      refine bz_aload_n (pc := 28) dX11_give_28 rfl rfl ?_
      refine bz_ldc (pc := 29) dX11_give_29 ct_X11_78 ?_
      refine bz_kIV (as := [.inl (-1000001)]) (st := []) (ci := 11) (n := 1) (mc := 0) (ms := 0) (bc := bc) (bs := bs) (yc := kX11_finding) (q := (RX11, TX11, 9)) (b := a0) (pc := 31) dX11_give_31 sc_X11_finding ml_X11_79 im_X11_finding se_X11_finding rfl rfl rfl (Nat.le_of_ble_eq_true rfl) hP29 (fun x_13 h_14 hP30 => ?_)
      clear hP29
      exact bz_retI (pc := 34) dX11_give_34 rfl rfl hP30
theorem m_X11_give {G : bz_G} {l : Launch} {d mc ms : Nat} {F : Option bz_V → bz_H → Prop} (a0 : Nat) (x1 : Int32) (x2 : Int32) (h : bz_H) (hP : w_X11_give_0 G l d F a0 x1 x2 h) : bz_Call G l (d + 1) kX11_give [.inr (some a0), .inl x1, .inl x2] h mc ms F :=
  bz_body (by decide) (Nat.le_of_ble_eq_true rfl) (fun κ hl => g_X11_give_0 hl a0 x1 x2 h hP)
def w_X11_goes_0 (G : bz_G) (l : Launch) (d : Nat) (F : Option bz_V → bz_H → Prop) (a0 : Nat) (x1 : Int32) (x2 : Int32) (x3 : Int32) (h : bz_H) : Prop := bz_rR h a0 11 0 (fun r_1 => bz_nn r_1 (fun a_4 => bz_rc h a_4 10 (bz_cR G l d kX10_riderAt [.inr (some a_4), .inl x1] h 0 0 (fun r_2 h_3 => (r_2 = none → bz_rc h_3 a0 11 (bz_cI G l d kX11_finding [.inr (some a0), .inl (-1000001)] h_3 0 0 (fun x_6 h_7 => F (some (.inl x_6)) h_7))) ∧ (∀ a_5, r_2 = some a_5 → bz_cI G l d kX11_isCrossing [.inl x2] h_3 0 0 (fun x_8 h_9 => (x_8 = 0 → bz_rc h_9 a0 11 (bz_cI G l d kX11_finding [.inr (some a0), .inl (-1000001)] h_9 0 0 (fun x_10 h_11 => F (some (.inl x_10)) h_11))) ∧ (¬ (x_8 = 0) → bz_cI G l d kX11_isCrossing [.inl x3] h_9 0 0 (fun x_12 h_13 => (¬ x_12 = 0 → bz_rI h_13 a_5 3 1 (fun x_14 => bz_rR h_13 a0 11 0 (fun r_15 => bz_nn r_15 (fun a_16 => bz_rR h_13 a_16 10 0 (fun r_17 => bz_nn r_17 (fun a_20 => bz_rc h_13 a_20 8 (bz_cI G l d kX8_wayBetween [.inr (some a_20), .inl x2, .inl x3] h_13 0 0 (fun x_18 h_19 => bz_cI G l d kX11_legFor [.inl x_14, .inl x_18] h_19 0 0 (fun x_21 h_22 => (¬ x_21 = (-1) → F (some (.inl x_21)) h_22) ∧ (x_21 = (-1) → bz_rc h_22 a0 11 (bz_cI G l d kX11_finding [.inr (some a0), .inl (-1000004)] h_22 0 0 (fun x_23 h_24 => F (some (.inl x_23)) h_24)))))))))))) ∧ (x_12 = 0 → bz_rc h_13 a0 11 (bz_cI G l d kX11_finding [.inr (some a0), .inl (-1000001)] h_13 0 0 (fun x_25 h_26 => F (some (.inl x_25)) h_26)))))))))))
set_option maxRecDepth 20000 in
set_option maxHeartbeats 4000000 in
theorem g_X11_goes_0 {G : bz_G} {κ : bz_K} {l : Launch} {d : Nat} {F : Option bz_V → bz_H → Prop} {bc bs : Nat} (hl : κ.2.1 = l) (a0 : Nat) (x1 : Int32) (x2 : Int32) (x3 : Int32) (h : bz_H) (hP0 : w_X11_goes_0 G l d F a0 x1 x2 x3 h) : bz_J G κ kX11_goes (d + 1) F bc bs 0 [some (.inr (some a0)), some (.inl x1), some (.inl x2), some (.inl x3), none, none] [] h := by
  subst hl
  unfold w_X11_goes_0 at hP0
  refine bz_aload_n (pc := 0) dX11_goes_0 rfl rfl ?_
  refine bz_rw_rR (pc := 1) dX11_goes_1 fl_X11_12 hP0 (fun r_1 hP1 => ?_)
  clear hP0
  refine bz_iload_n (pc := 4) dX11_goes_4 rfl rfl ?_
  obtain ⟨a_4, rfl, hP2⟩ := hP1
  refine bz_kRV (as := [.inl x1]) (st := []) (ci := 10) (n := 1) (mc := 0) (ms := 0) (bc := bc) (bs := bs) (yc := kX10_riderAt) (q := (RX10, TX10, 16)) (b := a_4) (pc := 5) dX11_goes_5 sc_X10_riderAt ml_X11_179 im_X10_riderAt se_X10_riderAt rfl rfl rfl (Nat.le_of_ble_eq_true rfl) hP2 (fun r_2 h_3 hP3 => ?_)
  clear hP2
  refine bz_s_astore (pc := 8) dX11_goes_8 (Nat.le_of_ble_eq_true rfl) [some (.inr (some a0)), some (.inl x1), some (.inl x2), some (.inl x3), some (.inr r_2), none] rfl ?_
  refine bz_aload (pc := 10) dX11_goes_10 rfl ?_
  refine bz_ifnull (tgt := 29) (pc := 12) dX11_goes_12 rfl (fun c => ?_) (fun a_5 c => ?_)
  · have hP4 := hP3.1 c
    clear hP3
    subst c
    refine bz_aload_n (pc := 29) dX11_goes_29 rfl rfl ?_
    refine bz_ldc (pc := 30) dX11_goes_30 ct_X11_78 ?_
    refine bz_kIV (as := [.inl (-1000001)]) (st := []) (ci := 11) (n := 1) (mc := 0) (ms := 0) (bc := bc) (bs := bs) (yc := kX11_finding) (q := (RX11, TX11, 9)) (b := a0) (pc := 32) dX11_goes_32 sc_X11_finding ml_X11_79 im_X11_finding se_X11_finding rfl rfl rfl (Nat.le_of_ble_eq_true rfl) hP4 (fun x_6 h_7 hP5 => ?_)
    clear hP4
    exact bz_retI (pc := 35) dX11_goes_35 rfl rfl hP5
  · have hP6 := hP3.2 a_5 c
    clear hP3
    subst c
    refine bz_iload_n (pc := 15) dX11_goes_15 rfl rfl ?_
    refine bz_kIS (as := [.inl x2]) (st := []) (n := 1) (mc := 0) (ms := 0) (bc := bc) (bs := bs) (yc := kX11_isCrossing) (pc := 16) dX11_goes_16 sc_X11_isCrossing ml_X11_70 ss_X11_isCrossing rfl (Nat.le_of_ble_eq_true rfl) hP6 (fun x_8 h_9 hP7 => ?_)
    clear hP6
    refine bz_if_eq (tgt := 29) (pc := 19) dX11_goes_19 rfl (fun c => ?_) (fun c => ?_)
    · have hP8 := hP7.1 c
      clear hP7
      refine bz_aload_n (pc := 29) dX11_goes_29 rfl rfl ?_
      refine bz_ldc (pc := 30) dX11_goes_30 ct_X11_78 ?_
      refine bz_kIV (as := [.inl (-1000001)]) (st := []) (ci := 11) (n := 1) (mc := 0) (ms := 0) (bc := bc) (bs := bs) (yc := kX11_finding) (q := (RX11, TX11, 9)) (b := a0) (pc := 32) dX11_goes_32 sc_X11_finding ml_X11_79 im_X11_finding se_X11_finding rfl rfl rfl (Nat.le_of_ble_eq_true rfl) hP8 (fun x_10 h_11 hP9 => ?_)
      clear hP8
      exact bz_retI (pc := 35) dX11_goes_35 rfl rfl hP9
    · have hP10 := hP7.2 c
      clear hP7
      refine bz_iload_n (pc := 22) dX11_goes_22 rfl rfl ?_
      refine bz_kIS (as := [.inl x3]) (st := []) (n := 1) (mc := 0) (ms := 0) (bc := bc) (bs := bs) (yc := kX11_isCrossing) (pc := 23) dX11_goes_23 sc_X11_isCrossing ml_X11_70 ss_X11_isCrossing rfl (Nat.le_of_ble_eq_true rfl) hP10 (fun x_12 h_13 hP11 => ?_)
      clear hP10
      refine bz_if_ne (tgt := 36) (pc := 26) dX11_goes_26 rfl (fun c => ?_) (fun c => ?_)
      · have hP12 := hP11.1 c
        clear hP11
        refine bz_aload (pc := 36) dX11_goes_36 rfl ?_
        refine bz_rw_rI (pc := 38) dX11_goes_38 fl_X11_183 hP12 (fun x_14 hP13 => ?_)
        clear hP12
        refine bz_aload_n (pc := 41) dX11_goes_41 rfl rfl ?_
        refine bz_rw_rR (pc := 42) dX11_goes_42 fl_X11_12 hP13 (fun r_15 hP14 => ?_)
        clear hP13
        obtain ⟨a_16, rfl, hP15⟩ := hP14
        refine bz_rw_rR (pc := 45) dX11_goes_45 fl_X11_43 hP15 (fun r_17 hP16 => ?_)
        clear hP15
        refine bz_iload_n (pc := 48) dX11_goes_48 rfl rfl ?_
        refine bz_iload_n (pc := 49) dX11_goes_49 rfl rfl ?_
        obtain ⟨a_20, rfl, hP17⟩ := hP16
        refine bz_kIV (as := [.inl x2, .inl x3]) (st := [.inl x_14]) (ci := 8) (n := 2) (mc := 0) (ms := 0) (bc := bc) (bs := bs) (yc := kX8_wayBetween) (q := (RX8, TX8, 4)) (b := a_20) (pc := 50) dX11_goes_50 sc_X8_wayBetween ml_X11_99 im_X8_wayBetween se_X8_wayBetween rfl rfl rfl (Nat.le_of_ble_eq_true rfl) hP17 (fun x_18 h_19 hP18 => ?_)
        clear hP17
        refine bz_kIS (as := [.inl x_14, .inl x_18]) (st := []) (n := 2) (mc := 0) (ms := 0) (bc := bc) (bs := bs) (yc := kX11_legFor) (pc := 53) dX11_goes_53 sc_X11_legFor ml_X11_209 ss_X11_legFor rfl (Nat.le_of_ble_eq_true rfl) hP18 (fun x_21 h_22 hP19 => ?_)
        clear hP18
        refine bz_s_istore (pc := 56) dX11_goes_56 (Nat.le_of_ble_eq_true rfl) [some (.inr (some a0)), some (.inl x1), some (.inl x2), some (.inl x3), some (.inr (some a_5)), some (.inl x_21)] rfl ?_
        refine bz_iload (pc := 58) dX11_goes_58 rfl ?_
        refine bz_iconst (pc := 60) dX11_goes_60 ci_m1 ?_
        refine bz_icmp_ne (tgt := 73) (pc := 61) dX11_goes_61 rfl (fun c => ?_) (fun c => ?_)
        · have hP20 := hP19.1 c
          clear hP19
          refine bz_iload (pc := 73) dX11_goes_73 rfl ?_
          exact bz_retI (pc := 75) dX11_goes_75 rfl rfl hP20
        · have hP21 := hP19.2 c
          clear hP19
          refine bz_aload_n (pc := 64) dX11_goes_64 rfl rfl ?_
          refine bz_ldc (pc := 65) dX11_goes_65 ct_X11_102 ?_
          refine bz_kIV (as := [.inl (-1000004)]) (st := []) (ci := 11) (n := 1) (mc := 0) (ms := 0) (bc := bc) (bs := bs) (yc := kX11_finding) (q := (RX11, TX11, 9)) (b := a0) (pc := 67) dX11_goes_67 sc_X11_finding ml_X11_79 im_X11_finding se_X11_finding rfl rfl rfl (Nat.le_of_ble_eq_true rfl) hP21 (fun x_23 h_24 hP22 => ?_)
          clear hP21
          refine bz_goto (tgt := 75) (pc := 70) dX11_goes_70 rfl ?_
          exact bz_retI (pc := 75) dX11_goes_75 rfl rfl hP22
      · have hP23 := hP11.2 c
        clear hP11
        refine bz_aload_n (pc := 29) dX11_goes_29 rfl rfl ?_
        refine bz_ldc (pc := 30) dX11_goes_30 ct_X11_78 ?_
        refine bz_kIV (as := [.inl (-1000001)]) (st := []) (ci := 11) (n := 1) (mc := 0) (ms := 0) (bc := bc) (bs := bs) (yc := kX11_finding) (q := (RX11, TX11, 9)) (b := a0) (pc := 32) dX11_goes_32 sc_X11_finding ml_X11_79 im_X11_finding se_X11_finding rfl rfl rfl (Nat.le_of_ble_eq_true rfl) hP23 (fun x_25 h_26 hP24 => ?_)
        clear hP23
        exact bz_retI (pc := 35) dX11_goes_35 rfl rfl hP24
theorem m_X11_goes {G : bz_G} {l : Launch} {d mc ms : Nat} {F : Option bz_V → bz_H → Prop} (a0 : Nat) (x1 : Int32) (x2 : Int32) (x3 : Int32) (h : bz_H) (hP : w_X11_goes_0 G l d F a0 x1 x2 x3 h) : bz_Call G l (d + 1) kX11_goes [.inr (some a0), .inl x1, .inl x2, .inl x3] h mc ms F :=
  bz_body (by decide) (Nat.le_of_ble_eq_true rfl) (fun κ hl => g_X11_goes_0 hl a0 x1 x2 x3 h hP)
def w_X11_handOverTwo_0 (G : bz_G) (l : Launch) (d : Nat) (F : Option bz_V → bz_H → Prop) (a0 : Nat) (x1 : Int32) (x2 : Int32) (x3 : Int32) (h : bz_H) : Prop := bz_rR h a0 11 0 (fun r_1 => bz_nn r_1 (fun a_2 => bz_rR h a_2 10 2 (fun r_3 => bz_nn r_3 (fun a_4 => bz_rQ h a_4 x2 (fun r_5 => bz_rR h a0 11 0 (fun r_6 => bz_nn r_6 (fun a_7 => bz_rR h a_7 10 2 (fun r_8 => bz_nn r_8 (fun a_9 => bz_rQ h a_9 x3 (fun r_10 => bz_rR h a0 11 6 (fun r_11 => bz_nn r_11 (fun a_12 => bz_rR h a_12 9 1 (fun r_13 => bz_nn r_13 (fun a_14 => bz_rA h a_14 0 (fun x_15 => bz_rA h a_14 1 (fun x_16 => bz_rc h a0 11 (bz_cI G l d kX11_wageFor [.inr (some a0), .inl x1, .inr r_5, .inl x_15, .inl x_16] h 0 0 (fun x_17 h_18 => bz_rA h_18 a_14 2 (fun x_19 => bz_rA h_18 a_14 3 (fun x_20 => bz_rc h_18 a0 11 (bz_cI G l d kX11_wageFor [.inr (some a0), .inl x1, .inr r_10, .inl x_19, .inl x_20] h_18 0 0 (fun x_21 h_22 => bz_rA h_22 a_14 0 (fun x_23 => bz_rA h_22 a_14 1 (fun x_24 => bz_nn r_5 (fun a_27 => bz_rc h_22 a_27 2 (bz_cV G l d kX2_becomeGiven [.inr (some a_27), .inl x1, .inl x_23, .inl x_24, .inl x_17] h_22 0 0 (fun h_26 => bz_rA h_26 a_14 2 (fun x_28 => bz_rA h_26 a_14 3 (fun x_29 => bz_nn r_10 (fun a_32 => bz_rc h_26 a_32 2 (bz_cV G l d kX2_becomeGiven [.inr (some a_32), .inl x1, .inl x_28, .inl x_29, .inl x_21] h_26 0 0 (fun h_31 => bz_rR h_31 a0 11 0 (fun r_33 => bz_rR h_31 a0 11 6 (fun r_34 => bz_nn r_33 (fun a_37 => bz_rc h_31 a_37 10 (bz_cV G l d kX10_engage [.inr (some a_37), .inl x1, .inr r_34, .inl 2] h_31 0 0 (fun h_36 => F none h_36)))))))))))))))))))))))))))))))))))))
set_option maxRecDepth 20000 in
set_option maxHeartbeats 4000000 in
theorem g_X11_handOverTwo_0 {G : bz_G} {κ : bz_K} {l : Launch} {d : Nat} {F : Option bz_V → bz_H → Prop} {bc bs : Nat} (hl : κ.2.1 = l) (a0 : Nat) (x1 : Int32) (x2 : Int32) (x3 : Int32) (h : bz_H) (hP0 : w_X11_handOverTwo_0 G l d F a0 x1 x2 x3 h) : bz_J G κ kX11_handOverTwo (d + 1) F bc bs 0 [some (.inr (some a0)), some (.inl x1), some (.inl x2), some (.inl x3), none, none, none, none, none] [] h := by
  subst hl
  unfold w_X11_handOverTwo_0 at hP0
  refine bz_aload_n (pc := 0) dX11_handOverTwo_0 rfl rfl ?_
  refine bz_rw_rR (pc := 1) dX11_handOverTwo_1 fl_X11_12 hP0 (fun r_1 hP1 => ?_)
  clear hP0
  obtain ⟨a_2, rfl, hP2⟩ := hP1
  refine bz_rw_rR (pc := 4) dX11_handOverTwo_4 fl_X11_306 hP2 (fun r_3 hP3 => ?_)
  clear hP2
  refine bz_iload_n (pc := 7) dX11_handOverTwo_7 rfl rfl ?_
  obtain ⟨a_4, rfl, hP4⟩ := hP3
  refine bz_rw_ldq (pc := 8) dX11_handOverTwo_8 hP4 (fun r_5 hP5 => ?_)
  clear hP4
  refine bz_s_astore (pc := 9) dX11_handOverTwo_9 (Nat.le_of_ble_eq_true rfl) [some (.inr (some a0)), some (.inl x1), some (.inl x2), some (.inl x3), some (.inr r_5), none, none, none, none] rfl ?_
  refine bz_aload_n (pc := 11) dX11_handOverTwo_11 rfl rfl ?_
  refine bz_rw_rR (pc := 12) dX11_handOverTwo_12 fl_X11_12 hP5 (fun r_6 hP6 => ?_)
  clear hP5
  obtain ⟨a_7, rfl, hP7⟩ := hP6
  refine bz_rw_rR (pc := 15) dX11_handOverTwo_15 fl_X11_306 hP7 (fun r_8 hP8 => ?_)
  clear hP7
  refine bz_iload_n (pc := 18) dX11_handOverTwo_18 rfl rfl ?_
  obtain ⟨a_9, rfl, hP9⟩ := hP8
  refine bz_rw_ldq (pc := 19) dX11_handOverTwo_19 hP9 (fun r_10 hP10 => ?_)
  clear hP9
  refine bz_s_astore (pc := 20) dX11_handOverTwo_20 (Nat.le_of_ble_eq_true rfl) [some (.inr (some a0)), some (.inl x1), some (.inl x2), some (.inl x3), some (.inr r_5), some (.inr r_10), none, none, none] rfl ?_
  refine bz_aload_n (pc := 22) dX11_handOverTwo_22 rfl rfl ?_
  refine bz_rw_rR (pc := 23) dX11_handOverTwo_23 fl_X11_50 hP10 (fun r_11 hP11 => ?_)
  clear hP10
  obtain ⟨a_12, rfl, hP12⟩ := hP11
  refine bz_rw_rR (pc := 26) dX11_handOverTwo_26 fl_X11_219 hP12 (fun r_13 hP13 => ?_)
  clear hP12
  refine bz_s_astore (pc := 29) dX11_handOverTwo_29 (Nat.le_of_ble_eq_true rfl) [some (.inr (some a0)), some (.inl x1), some (.inl x2), some (.inl x3), some (.inr r_5), some (.inr r_10), some (.inr r_13), none, none] rfl ?_
  refine bz_aload_n (pc := 31) dX11_handOverTwo_31 rfl rfl ?_
  refine bz_iload_n (pc := 32) dX11_handOverTwo_32 rfl rfl ?_
  refine bz_aload (pc := 33) dX11_handOverTwo_33 rfl ?_
  refine bz_aload (pc := 35) dX11_handOverTwo_35 rfl ?_
  refine bz_iconst (pc := 37) dX11_handOverTwo_37 ci_0 ?_
  obtain ⟨a_14, rfl, hP14⟩ := hP13
  refine bz_rw_rA (pc := 38) dX11_handOverTwo_38 hP14 (fun x_15 hP15 => ?_)
  clear hP14
  refine bz_aload (pc := 39) dX11_handOverTwo_39 rfl ?_
  refine bz_iconst (pc := 41) dX11_handOverTwo_41 ci_1 ?_
  refine bz_rw_rA (pc := 42) dX11_handOverTwo_42 hP15 (fun x_16 hP16 => ?_)
  clear hP15
  refine bz_kIV (as := [.inl x1, .inr r_5, .inl x_15, .inl x_16]) (st := []) (ci := 11) (n := 4) (mc := 0) (ms := 0) (bc := bc) (bs := bs) (yc := kX11_wageFor) (q := (RX11, TX11, 9)) (b := a0) (pc := 43) dX11_handOverTwo_43 sc_X11_wageFor ml_X11_434 im_X11_wageFor se_X11_wageFor rfl rfl rfl (Nat.le_of_ble_eq_true rfl) hP16 (fun x_17 h_18 hP17 => ?_)
  clear hP16
  refine bz_s_istore (pc := 46) dX11_handOverTwo_46 (Nat.le_of_ble_eq_true rfl) [some (.inr (some a0)), some (.inl x1), some (.inl x2), some (.inl x3), some (.inr r_5), some (.inr r_10), some (.inr (some a_14)), some (.inl x_17), none] rfl ?_
  refine bz_aload_n (pc := 48) dX11_handOverTwo_48 rfl rfl ?_
  refine bz_iload_n (pc := 49) dX11_handOverTwo_49 rfl rfl ?_
  refine bz_aload (pc := 50) dX11_handOverTwo_50 rfl ?_
  refine bz_aload (pc := 52) dX11_handOverTwo_52 rfl ?_
  refine bz_iconst (pc := 54) dX11_handOverTwo_54 ci_2 ?_
  refine bz_rw_rA (pc := 55) dX11_handOverTwo_55 hP17 (fun x_19 hP18 => ?_)
  clear hP17
  refine bz_aload (pc := 56) dX11_handOverTwo_56 rfl ?_
  refine bz_iconst (pc := 58) dX11_handOverTwo_58 ci_3 ?_
  refine bz_rw_rA (pc := 59) dX11_handOverTwo_59 hP18 (fun x_20 hP19 => ?_)
  clear hP18
  refine bz_kIV (as := [.inl x1, .inr r_10, .inl x_19, .inl x_20]) (st := []) (ci := 11) (n := 4) (mc := 0) (ms := 0) (bc := bc) (bs := bs) (yc := kX11_wageFor) (q := (RX11, TX11, 9)) (b := a0) (pc := 60) dX11_handOverTwo_60 sc_X11_wageFor ml_X11_434 im_X11_wageFor se_X11_wageFor rfl rfl rfl (Nat.le_of_ble_eq_true rfl) hP19 (fun x_21 h_22 hP20 => ?_)
  clear hP19
  refine bz_s_istore (pc := 63) dX11_handOverTwo_63 (Nat.le_of_ble_eq_true rfl) [some (.inr (some a0)), some (.inl x1), some (.inl x2), some (.inl x3), some (.inr r_5), some (.inr r_10), some (.inr (some a_14)), some (.inl x_17), some (.inl x_21)] rfl ?_
  refine bz_aload (pc := 65) dX11_handOverTwo_65 rfl ?_
  refine bz_iload_n (pc := 67) dX11_handOverTwo_67 rfl rfl ?_
  refine bz_aload (pc := 68) dX11_handOverTwo_68 rfl ?_
  refine bz_iconst (pc := 70) dX11_handOverTwo_70 ci_0 ?_
  refine bz_rw_rA (pc := 71) dX11_handOverTwo_71 hP20 (fun x_23 hP21 => ?_)
  clear hP20
  refine bz_aload (pc := 72) dX11_handOverTwo_72 rfl ?_
  refine bz_iconst (pc := 74) dX11_handOverTwo_74 ci_1 ?_
  refine bz_rw_rA (pc := 75) dX11_handOverTwo_75 hP21 (fun x_24 hP22 => ?_)
  clear hP21
  refine bz_iload (pc := 76) dX11_handOverTwo_76 rfl ?_
  obtain ⟨a_27, rfl, hP23⟩ := hP22
  refine bz_kVV (as := [.inl x1, .inl x_23, .inl x_24, .inl x_17]) (st := []) (ci := 2) (n := 4) (mc := 0) (ms := 0) (bc := bc) (bs := bs) (yc := kX2_becomeGiven) (q := (RX2, TX2, 15)) (b := a_27) (pc := 78) dX11_handOverTwo_78 sc_X2_becomeGiven ml_X11_438 im_X2_becomeGiven se_X2_becomeGiven rfl rfl rfl (Nat.le_of_ble_eq_true rfl) hP23 (fun h_26 hP24 => ?_)
  clear hP23
  refine bz_aload (pc := 81) dX11_handOverTwo_81 rfl ?_
  refine bz_iload_n (pc := 83) dX11_handOverTwo_83 rfl rfl ?_
  refine bz_aload (pc := 84) dX11_handOverTwo_84 rfl ?_
  refine bz_iconst (pc := 86) dX11_handOverTwo_86 ci_2 ?_
  refine bz_rw_rA (pc := 87) dX11_handOverTwo_87 hP24 (fun x_28 hP25 => ?_)
  clear hP24
  refine bz_aload (pc := 88) dX11_handOverTwo_88 rfl ?_
  refine bz_iconst (pc := 90) dX11_handOverTwo_90 ci_3 ?_
  refine bz_rw_rA (pc := 91) dX11_handOverTwo_91 hP25 (fun x_29 hP26 => ?_)
  clear hP25
  refine bz_iload (pc := 92) dX11_handOverTwo_92 rfl ?_
  obtain ⟨a_32, rfl, hP27⟩ := hP26
  refine bz_kVV (as := [.inl x1, .inl x_28, .inl x_29, .inl x_21]) (st := []) (ci := 2) (n := 4) (mc := 0) (ms := 0) (bc := bc) (bs := bs) (yc := kX2_becomeGiven) (q := (RX2, TX2, 15)) (b := a_32) (pc := 94) dX11_handOverTwo_94 sc_X2_becomeGiven ml_X11_438 im_X2_becomeGiven se_X2_becomeGiven rfl rfl rfl (Nat.le_of_ble_eq_true rfl) hP27 (fun h_31 hP28 => ?_)
  clear hP27
  refine bz_aload_n (pc := 97) dX11_handOverTwo_97 rfl rfl ?_
  refine bz_rw_rR (pc := 98) dX11_handOverTwo_98 fl_X11_12 hP28 (fun r_33 hP29 => ?_)
  clear hP28
  refine bz_iload_n (pc := 101) dX11_handOverTwo_101 rfl rfl ?_
  refine bz_aload_n (pc := 102) dX11_handOverTwo_102 rfl rfl ?_
  refine bz_rw_rR (pc := 103) dX11_handOverTwo_103 fl_X11_50 hP29 (fun r_34 hP30 => ?_)
  clear hP29
  refine bz_iconst (pc := 106) dX11_handOverTwo_106 ci_2 ?_
  obtain ⟨a_37, rfl, hP31⟩ := hP30
  refine bz_kVV (as := [.inl x1, .inr r_34, .inl 2]) (st := []) (ci := 10) (n := 3) (mc := 0) (ms := 0) (bc := bc) (bs := bs) (yc := kX10_engage) (q := (RX10, TX10, 16)) (b := a_37) (pc := 107) dX11_handOverTwo_107 sc_X10_engage ml_X11_441 im_X10_engage se_X10_engage rfl rfl rfl (Nat.le_of_ble_eq_true rfl) hP31 (fun h_36 hP32 => ?_)
  clear hP31
  exact bz_retV (pc := 110) dX11_handOverTwo_110 rfl hP32
theorem m_X11_handOverTwo {G : bz_G} {l : Launch} {d mc ms : Nat} {F : Option bz_V → bz_H → Prop} (a0 : Nat) (x1 : Int32) (x2 : Int32) (x3 : Int32) (h : bz_H) (hP : w_X11_handOverTwo_0 G l d F a0 x1 x2 x3 h) : bz_Call G l (d + 1) kX11_handOverTwo [.inr (some a0), .inl x1, .inl x2, .inl x3] h mc ms F :=
  bz_body (by decide) (Nat.le_of_ble_eq_true rfl) (fun κ hl => g_X11_handOverTwo_0 hl a0 x1 x2 x3 h hP)
def w_X11_handOver_0 (G : bz_G) (l : Launch) (d : Nat) (F : Option bz_V → bz_H → Prop) (a0 : Nat) (x1 : Int32) (r2 : Option Nat) (h : bz_H) : Prop := bz_rR h a0 11 6 (fun r_1 => bz_nn r_1 (fun a_2 => bz_rR h a_2 9 1 (fun r_3 => bz_nn r_3 (fun a_4 => bz_rA h a_4 0 (fun x_5 => bz_rR h a0 11 6 (fun r_6 => bz_nn r_6 (fun a_7 => bz_rR h a_7 9 1 (fun r_8 => bz_nn r_8 (fun a_9 => bz_rA h a_9 1 (fun x_10 => bz_rc h a0 11 (bz_cI G l d kX11_wageFor [.inr (some a0), .inl x1, .inr r2, .inl x_5, .inl x_10] h 0 0 (fun x_11 h_12 => bz_nn r2 (fun a_15 => bz_rc h_12 a_15 2 (bz_cV G l d kX2_becomeGiven [.inr (some a_15), .inl x1, .inl x_5, .inl x_10, .inl x_11] h_12 0 0 (fun h_14 => bz_rR h_14 a0 11 0 (fun r_16 => bz_rR h_14 a0 11 6 (fun r_17 => bz_nn r_16 (fun a_20 => bz_rc h_14 a_20 10 (bz_cV G l d kX10_engage [.inr (some a_20), .inl x1, .inr r_17, .inl 1] h_14 0 0 (fun h_19 => F none h_19))))))))))))))))))))
set_option maxRecDepth 20000 in
set_option maxHeartbeats 4000000 in
theorem g_X11_handOver_0 {G : bz_G} {κ : bz_K} {l : Launch} {d : Nat} {F : Option bz_V → bz_H → Prop} {bc bs : Nat} (hl : κ.2.1 = l) (a0 : Nat) (x1 : Int32) (r2 : Option Nat) (h : bz_H) (hP0 : w_X11_handOver_0 G l d F a0 x1 r2 h) : bz_J G κ kX11_handOver (d + 1) F bc bs 0 [some (.inr (some a0)), some (.inl x1), some (.inr r2), none, none, none] [] h := by
  subst hl
  unfold w_X11_handOver_0 at hP0
  refine bz_aload_n (pc := 0) dX11_handOver_0 rfl rfl ?_
  refine bz_rw_rR (pc := 1) dX11_handOver_1 fl_X11_50 hP0 (fun r_1 hP1 => ?_)
  clear hP0
  obtain ⟨a_2, rfl, hP2⟩ := hP1
  refine bz_rw_rR (pc := 4) dX11_handOver_4 fl_X11_219 hP2 (fun r_3 hP3 => ?_)
  clear hP2
  refine bz_iconst (pc := 7) dX11_handOver_7 ci_0 ?_
  obtain ⟨a_4, rfl, hP4⟩ := hP3
  refine bz_rw_rA (pc := 8) dX11_handOver_8 hP4 (fun x_5 hP5 => ?_)
  clear hP4
  refine bz_s_istore_n (pc := 9) dX11_handOver_9 rfl (Nat.le_of_ble_eq_true rfl) [some (.inr (some a0)), some (.inl x1), some (.inr r2), some (.inl x_5), none, none] rfl ?_
  refine bz_aload_n (pc := 10) dX11_handOver_10 rfl rfl ?_
  refine bz_rw_rR (pc := 11) dX11_handOver_11 fl_X11_50 hP5 (fun r_6 hP6 => ?_)
  clear hP5
  obtain ⟨a_7, rfl, hP7⟩ := hP6
  refine bz_rw_rR (pc := 14) dX11_handOver_14 fl_X11_219 hP7 (fun r_8 hP8 => ?_)
  clear hP7
  refine bz_iconst (pc := 17) dX11_handOver_17 ci_1 ?_
  obtain ⟨a_9, rfl, hP9⟩ := hP8
  refine bz_rw_rA (pc := 18) dX11_handOver_18 hP9 (fun x_10 hP10 => ?_)
  clear hP9
  refine bz_s_istore (pc := 19) dX11_handOver_19 (Nat.le_of_ble_eq_true rfl) [some (.inr (some a0)), some (.inl x1), some (.inr r2), some (.inl x_5), some (.inl x_10), none] rfl ?_
  refine bz_aload_n (pc := 21) dX11_handOver_21 rfl rfl ?_
  refine bz_iload_n (pc := 22) dX11_handOver_22 rfl rfl ?_
  refine bz_aload_n (pc := 23) dX11_handOver_23 rfl rfl ?_
  refine bz_iload_n (pc := 24) dX11_handOver_24 rfl rfl ?_
  refine bz_iload (pc := 25) dX11_handOver_25 rfl ?_
  refine bz_kIV (as := [.inl x1, .inr r2, .inl x_5, .inl x_10]) (st := []) (ci := 11) (n := 4) (mc := 0) (ms := 0) (bc := bc) (bs := bs) (yc := kX11_wageFor) (q := (RX11, TX11, 9)) (b := a0) (pc := 27) dX11_handOver_27 sc_X11_wageFor ml_X11_434 im_X11_wageFor se_X11_wageFor rfl rfl rfl (Nat.le_of_ble_eq_true rfl) hP10 (fun x_11 h_12 hP11 => ?_)
  clear hP10
  refine bz_s_istore (pc := 30) dX11_handOver_30 (Nat.le_of_ble_eq_true rfl) [some (.inr (some a0)), some (.inl x1), some (.inr r2), some (.inl x_5), some (.inl x_10), some (.inl x_11)] rfl ?_
  refine bz_aload_n (pc := 32) dX11_handOver_32 rfl rfl ?_
  refine bz_iload_n (pc := 33) dX11_handOver_33 rfl rfl ?_
  refine bz_iload_n (pc := 34) dX11_handOver_34 rfl rfl ?_
  refine bz_iload (pc := 35) dX11_handOver_35 rfl ?_
  refine bz_iload (pc := 37) dX11_handOver_37 rfl ?_
  obtain ⟨a_15, rfl, hP12⟩ := hP11
  refine bz_kVV (as := [.inl x1, .inl x_5, .inl x_10, .inl x_11]) (st := []) (ci := 2) (n := 4) (mc := 0) (ms := 0) (bc := bc) (bs := bs) (yc := kX2_becomeGiven) (q := (RX2, TX2, 15)) (b := a_15) (pc := 39) dX11_handOver_39 sc_X2_becomeGiven ml_X11_438 im_X2_becomeGiven se_X2_becomeGiven rfl rfl rfl (Nat.le_of_ble_eq_true rfl) hP12 (fun h_14 hP13 => ?_)
  clear hP12
  refine bz_aload_n (pc := 42) dX11_handOver_42 rfl rfl ?_
  refine bz_rw_rR (pc := 43) dX11_handOver_43 fl_X11_12 hP13 (fun r_16 hP14 => ?_)
  clear hP13
  refine bz_iload_n (pc := 46) dX11_handOver_46 rfl rfl ?_
  refine bz_aload_n (pc := 47) dX11_handOver_47 rfl rfl ?_
  refine bz_rw_rR (pc := 48) dX11_handOver_48 fl_X11_50 hP14 (fun r_17 hP15 => ?_)
  clear hP14
  refine bz_iconst (pc := 51) dX11_handOver_51 ci_1 ?_
  obtain ⟨a_20, rfl, hP16⟩ := hP15
  refine bz_kVV (as := [.inl x1, .inr r_17, .inl 1]) (st := []) (ci := 10) (n := 3) (mc := 0) (ms := 0) (bc := bc) (bs := bs) (yc := kX10_engage) (q := (RX10, TX10, 16)) (b := a_20) (pc := 52) dX11_handOver_52 sc_X10_engage ml_X11_441 im_X10_engage se_X10_engage rfl rfl rfl (Nat.le_of_ble_eq_true rfl) hP16 (fun h_19 hP17 => ?_)
  clear hP16
  exact bz_retV (pc := 55) dX11_handOver_55 rfl hP17
theorem m_X11_handOver {G : bz_G} {l : Launch} {d mc ms : Nat} {F : Option bz_V → bz_H → Prop} (a0 : Nat) (x1 : Int32) (r2 : Option Nat) (h : bz_H) (hP : w_X11_handOver_0 G l d F a0 x1 r2 h) : bz_Call G l (d + 1) kX11_handOver [.inr (some a0), .inl x1, .inr r2] h mc ms F :=
  bz_body (by decide) (Nat.le_of_ble_eq_true rfl) (fun κ hl => g_X11_handOver_0 hl a0 x1 r2 h hP)
def w_X11_hold_0 (G : bz_G) (l : Launch) (d : Nat) (F : Option bz_V → bz_H → Prop) (a0 : Nat) (x1 : Int32) (x2 : Int32) (h : bz_H) : Prop := bz_cI G l d kX11_isWithin [.inl x1, .inl 0, .inl 9] h 0 0 (fun x_1 h_2 => (x_1 = 0 → bz_rc h_2 a0 11 (bz_cI G l d kX11_finding [.inr (some a0), .inl (-1000001)] h_2 0 0 (fun x_3 h_4 => F (some (.inl x_3)) h_4))) ∧ (¬ (x_1 = 0) → bz_rR h_2 a0 11 0 (fun r_5 => bz_nn r_5 (fun a_6 => bz_rI h_2 a_6 10 10 (fun x_7 => bz_cI G l d kX11_isWithin [.inl x2, .inl (-1), .inl (x_7 - 1)] h_2 0 0 (fun x_8 h_9 => (¬ x_8 = 0 → bz_rR h_9 a0 11 0 (fun r_10 => bz_nn r_10 (fun a_11 => bz_rR h_9 a_11 10 8 (fun r_12 => bz_nn r_12 (fun a_13 => bz_wA h_9 a_13 x1 x2 (fun h_14 => F (some (.inl 1)) h_14)))))) ∧ (x_8 = 0 → bz_rc h_9 a0 11 (bz_cI G l d kX11_finding [.inr (some a0), .inl (-1000001)] h_9 0 0 (fun x_15 h_16 => F (some (.inl x_15)) h_16)))))))))
set_option maxRecDepth 20000 in
set_option maxHeartbeats 4000000 in
theorem g_X11_hold_0 {G : bz_G} {κ : bz_K} {l : Launch} {d : Nat} {F : Option bz_V → bz_H → Prop} {bc bs : Nat} (hl : κ.2.1 = l) (a0 : Nat) (x1 : Int32) (x2 : Int32) (h : bz_H) (hP0 : w_X11_hold_0 G l d F a0 x1 x2 h) : bz_J G κ kX11_hold (d + 1) F bc bs 0 [some (.inr (some a0)), some (.inl x1), some (.inl x2)] [] h := by
  subst hl
  unfold w_X11_hold_0 at hP0
  refine bz_iload_n (pc := 0) dX11_hold_0 rfl rfl ?_
  refine bz_iconst (pc := 1) dX11_hold_1 ci_0 ?_
  refine bz_bipush (pc := 2) dX11_hold_2 cb_9 ?_
  refine bz_kIS (as := [.inl x1, .inl 0, .inl 9]) (st := []) (n := 3) (mc := 0) (ms := 0) (bc := bc) (bs := bs) (yc := kX11_isWithin) (pc := 4) dX11_hold_4 sc_X11_isWithin ml_X11_74 ss_X11_isWithin rfl (Nat.le_of_ble_eq_true rfl) hP0 (fun x_1 h_2 hP1 => ?_)
  clear hP0
  refine bz_if_eq (tgt := 27) (pc := 7) dX11_hold_7 rfl (fun c => ?_) (fun c => ?_)
  · have hP2 := hP1.1 c
    clear hP1
    refine bz_aload_n (pc := 27) dX11_hold_27 rfl rfl ?_
    refine bz_ldc (pc := 28) dX11_hold_28 ct_X11_78 ?_
    refine bz_kIV (as := [.inl (-1000001)]) (st := []) (ci := 11) (n := 1) (mc := 0) (ms := 0) (bc := bc) (bs := bs) (yc := kX11_finding) (q := (RX11, TX11, 9)) (b := a0) (pc := 30) dX11_hold_30 sc_X11_finding ml_X11_79 im_X11_finding se_X11_finding rfl rfl rfl (Nat.le_of_ble_eq_true rfl) hP2 (fun x_3 h_4 hP3 => ?_)
    clear hP2
    exact bz_retI (pc := 33) dX11_hold_33 rfl rfl hP3
  · have hP4 := hP1.2 c
    clear hP1
    refine bz_iload_n (pc := 10) dX11_hold_10 rfl rfl ?_
    refine bz_iconst (pc := 11) dX11_hold_11 ci_m1 ?_
    refine bz_aload_n (pc := 12) dX11_hold_12 rfl rfl ?_
    refine bz_rw_rR (pc := 13) dX11_hold_13 fl_X11_12 hP4 (fun r_5 hP5 => ?_)
    clear hP4
    obtain ⟨a_6, rfl, hP6⟩ := hP5
    refine bz_rw_rI (pc := 16) dX11_hold_16 fl_X11_172 hP6 (fun x_7 hP7 => ?_)
    clear hP6
    refine bz_iconst (pc := 19) dX11_hold_19 ci_1 ?_
    refine bz_isub (pc := 20) dX11_hold_20 ?_
    refine bz_kIS (as := [.inl x2, .inl (-1), .inl (x_7 - 1)]) (st := []) (n := 3) (mc := 0) (ms := 0) (bc := bc) (bs := bs) (yc := kX11_isWithin) (pc := 21) dX11_hold_21 sc_X11_isWithin ml_X11_74 ss_X11_isWithin rfl (Nat.le_of_ble_eq_true rfl) hP7 (fun x_8 h_9 hP8 => ?_)
    clear hP7
    refine bz_if_ne (tgt := 34) (pc := 24) dX11_hold_24 rfl (fun c => ?_) (fun c => ?_)
    · have hP9 := hP8.1 c
      clear hP8
      refine bz_aload_n (pc := 34) dX11_hold_34 rfl rfl ?_
      refine bz_rw_rR (pc := 35) dX11_hold_35 fl_X11_12 hP9 (fun r_10 hP10 => ?_)
      clear hP9
      obtain ⟨a_11, rfl, hP11⟩ := hP10
      refine bz_rw_rR (pc := 38) dX11_hold_38 fl_X11_371 hP11 (fun r_12 hP12 => ?_)
      clear hP11
      refine bz_iload_n (pc := 41) dX11_hold_41 rfl rfl ?_
      refine bz_iload_n (pc := 42) dX11_hold_42 rfl rfl ?_
      obtain ⟨a_13, rfl, hP13⟩ := hP12
      refine bz_rw_wA (pc := 43) dX11_hold_43 hP13 (fun h_14 hP14 => ?_)
      clear hP13
      refine bz_iconst (pc := 44) dX11_hold_44 ci_1 ?_
      exact bz_retI (pc := 45) dX11_hold_45 rfl rfl hP14
    · have hP15 := hP8.2 c
      clear hP8
      refine bz_aload_n (pc := 27) dX11_hold_27 rfl rfl ?_
      refine bz_ldc (pc := 28) dX11_hold_28 ct_X11_78 ?_
      refine bz_kIV (as := [.inl (-1000001)]) (st := []) (ci := 11) (n := 1) (mc := 0) (ms := 0) (bc := bc) (bs := bs) (yc := kX11_finding) (q := (RX11, TX11, 9)) (b := a0) (pc := 30) dX11_hold_30 sc_X11_finding ml_X11_79 im_X11_finding se_X11_finding rfl rfl rfl (Nat.le_of_ble_eq_true rfl) hP15 (fun x_15 h_16 hP16 => ?_)
      clear hP15
      exact bz_retI (pc := 33) dX11_hold_33 rfl rfl hP16
theorem m_X11_hold {G : bz_G} {l : Launch} {d mc ms : Nat} {F : Option bz_V → bz_H → Prop} (a0 : Nat) (x1 : Int32) (x2 : Int32) (h : bz_H) (hP : w_X11_hold_0 G l d F a0 x1 x2 h) : bz_Call G l (d + 1) kX11_hold [.inr (some a0), .inl x1, .inl x2] h mc ms F :=
  bz_body (by decide) (Nat.le_of_ble_eq_true rfl) (fun κ hl => g_X11_hold_0 hl a0 x1 x2 h hP)
def w_X11_image_0 (G : bz_G) (l : Launch) (d : Nat) (F : Option bz_V → bz_H → Prop) (a0 : Nat) (h : bz_H) : Prop := bz_rR h a0 11 1 (fun r_1 => bz_rR h a0 11 0 (fun r_2 => bz_nn r_1 (fun a_5 => bz_rc h a_5 10 (bz_cV G l d kX10_becomeLike [.inr (some a_5), .inr r_2] h 0 0 (fun h_4 => bz_b 1 (bz_wI h_4 a0 11 2 1 (fun h_6 => F (some (.inl 1)) h_6)))))))
set_option maxRecDepth 20000 in
set_option maxHeartbeats 4000000 in
theorem g_X11_image_0 {G : bz_G} {κ : bz_K} {l : Launch} {d : Nat} {F : Option bz_V → bz_H → Prop} {bc bs : Nat} (hl : κ.2.1 = l) (a0 : Nat) (h : bz_H) (hP0 : w_X11_image_0 G l d F a0 h) : bz_J G κ kX11_image (d + 1) F bc bs 0 [some (.inr (some a0))] [] h := by
  subst hl
  unfold w_X11_image_0 at hP0
  refine bz_aload_n (pc := 0) dX11_image_0 rfl rfl ?_
  refine bz_rw_rR (pc := 1) dX11_image_1 fl_X11_16 hP0 (fun r_1 hP1 => ?_)
  clear hP0
  refine bz_aload_n (pc := 4) dX11_image_4 rfl rfl ?_
  refine bz_rw_rR (pc := 5) dX11_image_5 fl_X11_12 hP1 (fun r_2 hP2 => ?_)
  clear hP1
  obtain ⟨a_5, rfl, hP3⟩ := hP2
  refine bz_kVV (as := [.inr r_2]) (st := []) (ci := 10) (n := 1) (mc := 0) (ms := 0) (bc := bc) (bs := bs) (yc := kX10_becomeLike) (q := (RX10, TX10, 16)) (b := a_5) (pc := 8) dX11_image_8 sc_X10_becomeLike ml_X11_413 im_X10_becomeLike se_X10_becomeLike rfl rfl rfl (Nat.le_of_ble_eq_true rfl) hP3 (fun h_4 hP4 => ?_)
  clear hP3
  refine bz_aload_n (pc := 11) dX11_image_11 rfl rfl ?_
  refine bz_iconst (pc := 12) dX11_image_12 ci_1 ?_
  refine bz_rw_wZ (pc := 13) dX11_image_13 fl_X11_19 (fun q h9 => by cases h9; rfl) rfl hP4 (fun h_6 hP5 => ?_)
  clear hP4
  refine bz_iconst (pc := 16) dX11_image_16 ci_1 ?_
  exact bz_retI (pc := 17) dX11_image_17 rfl rfl hP5
theorem m_X11_image {G : bz_G} {l : Launch} {d mc ms : Nat} {F : Option bz_V → bz_H → Prop} (a0 : Nat) (h : bz_H) (hP : w_X11_image_0 G l d F a0 h) : bz_Call G l (d + 1) kX11_image [.inr (some a0)] h mc ms F :=
  bz_body (by decide) (Nat.le_of_ble_eq_true rfl) (fun κ hl => g_X11_image_0 hl a0 h hP)
def w_X11_isCrossing_0 (G : bz_G) (l : Launch) (d : Nat) (F : Option bz_V → bz_H → Prop) (x0 : Int32) (h : bz_H) : Prop := bz_cI G l d kX11_isWithin [.inl x0, .inl 0, .inl 15] h 0 0 (fun x_1 h_2 => bz_b x_1 (F (some (.inl x_1)) h_2))
set_option maxRecDepth 20000 in
set_option maxHeartbeats 4000000 in
theorem g_X11_isCrossing_0 {G : bz_G} {κ : bz_K} {l : Launch} {d : Nat} {F : Option bz_V → bz_H → Prop} {bc bs : Nat} (hl : κ.2.1 = l) (x0 : Int32) (h : bz_H) (hP0 : w_X11_isCrossing_0 G l d F x0 h) : bz_J G κ kX11_isCrossing (d + 1) F bc bs 0 [some (.inl x0)] [] h := by
  subst hl
  unfold w_X11_isCrossing_0 at hP0
  refine bz_iload_n (pc := 0) dX11_isCrossing_0 rfl rfl ?_
  refine bz_iconst (pc := 1) dX11_isCrossing_1 ci_0 ?_
  refine bz_bipush (pc := 2) dX11_isCrossing_2 cb_15 ?_
  refine bz_kIS (as := [.inl x0, .inl 0, .inl 15]) (st := []) (n := 3) (mc := 0) (ms := 0) (bc := bc) (bs := bs) (yc := kX11_isWithin) (pc := 4) dX11_isCrossing_4 sc_X11_isWithin ml_X11_74 ss_X11_isWithin rfl (Nat.le_of_ble_eq_true rfl) hP0 (fun x_1 h_2 hP1 => ?_)
  clear hP0
  obtain ⟨hb, hP2⟩ := hP1
  exact bz_retI (pc := 7) dX11_isCrossing_7 rfl (by rcases hb with hb | hb <;> rw [hb] <;> rfl) hP2
theorem m_X11_isCrossing {G : bz_G} {l : Launch} {d mc ms : Nat} {F : Option bz_V → bz_H → Prop} (x0 : Int32) (h : bz_H) (hP : w_X11_isCrossing_0 G l d F x0 h) : bz_Call G l (d + 1) kX11_isCrossing [.inl x0] h mc ms F :=
  bz_body (by decide) (Nat.le_of_ble_eq_true rfl) (fun κ hl => g_X11_isCrossing_0 hl x0 h hP)
def w_X11_isMinute_0 (G : bz_G) (l : Launch) (d : Nat) (F : Option bz_V → bz_H → Prop) (x0 : Int32) (h : bz_H) : Prop := bz_cI G l d kX11_isWithin [.inl x0, .inl 0, .inl 1439] h 0 0 (fun x_1 h_2 => bz_b x_1 (F (some (.inl x_1)) h_2))
set_option maxRecDepth 20000 in
set_option maxHeartbeats 4000000 in
theorem g_X11_isMinute_0 {G : bz_G} {κ : bz_K} {l : Launch} {d : Nat} {F : Option bz_V → bz_H → Prop} {bc bs : Nat} (hl : κ.2.1 = l) (x0 : Int32) (h : bz_H) (hP0 : w_X11_isMinute_0 G l d F x0 h) : bz_J G κ kX11_isMinute (d + 1) F bc bs 0 [some (.inl x0)] [] h := by
  subst hl
  unfold w_X11_isMinute_0 at hP0
  refine bz_iload_n (pc := 0) dX11_isMinute_0 rfl rfl ?_
  refine bz_iconst (pc := 1) dX11_isMinute_1 ci_0 ?_
  refine bz_sipush (pc := 2) dX11_isMinute_2 cs_1439 ?_
  refine bz_kIS (as := [.inl x0, .inl 0, .inl 1439]) (st := []) (n := 3) (mc := 0) (ms := 0) (bc := bc) (bs := bs) (yc := kX11_isWithin) (pc := 5) dX11_isMinute_5 sc_X11_isWithin ml_X11_74 ss_X11_isWithin rfl (Nat.le_of_ble_eq_true rfl) hP0 (fun x_1 h_2 hP1 => ?_)
  clear hP0
  obtain ⟨hb, hP2⟩ := hP1
  exact bz_retI (pc := 8) dX11_isMinute_8 rfl (by rcases hb with hb | hb <;> rw [hb] <;> rfl) hP2
theorem m_X11_isMinute {G : bz_G} {l : Launch} {d mc ms : Nat} {F : Option bz_V → bz_H → Prop} (x0 : Int32) (h : bz_H) (hP : w_X11_isMinute_0 G l d F x0 h) : bz_Call G l (d + 1) kX11_isMinute [.inl x0] h mc ms F :=
  bz_body (by decide) (Nat.le_of_ble_eq_true rfl) (fun κ hl => g_X11_isMinute_0 hl x0 h hP)
def w_X11_isOfKind_0 (G : bz_G) (κ : bz_K) (l : Launch) (d : Nat) (F : Option bz_V → bz_H → Prop) (bc bs : Nat) (x0 : Int32) (x1 : Int32) (h : bz_H) : Prop := bz_J G κ kX11_isOfKind (d + 1) F bc bs 4 [some (.inl x0), some (.inl x1), some (.inl x0), some (.inl 0)] [] h
set_option maxRecDepth 20000 in
set_option maxHeartbeats 4000000 in
theorem g_X11_isOfKind_0 {G : bz_G} {κ : bz_K} {l : Launch} {d : Nat} {F : Option bz_V → bz_H → Prop} {bc bs : Nat} (hl : κ.2.1 = l) (x0 : Int32) (x1 : Int32) (h : bz_H) (hP0 : w_X11_isOfKind_0 G κ l d F bc bs x0 x1 h) : bz_J G κ kX11_isOfKind (d + 1) F bc bs 0 [some (.inl x0), some (.inl x1), none, none] [] h := by
  subst hl
  unfold w_X11_isOfKind_0 at hP0
  refine bz_iload_n (pc := 0) dX11_isOfKind_0 rfl rfl ?_
  refine bz_s_istore_n (pc := 1) dX11_isOfKind_1 rfl (Nat.le_of_ble_eq_true rfl) [some (.inl x0), some (.inl x1), some (.inl x0), none] rfl ?_
  refine bz_iconst (pc := 2) dX11_isOfKind_2 ci_0 ?_
  refine bz_s_istore_n (pc := 3) dX11_isOfKind_3 rfl (Nat.le_of_ble_eq_true rfl) [some (.inl x0), some (.inl x1), some (.inl x0), some (.inl 0)] rfl ?_
  exact hP0
def w_X11_isOfKind_4 (G : bz_G) (κ : bz_K) (l : Launch) (d : Nat) (F : Option bz_V → bz_H → Prop) (bc bs : Nat) (x0 : Int32) (x1 : Int32) (x2 : Int32) (x3 : Int32) (h : bz_H) : Prop := (7 ≤ x3 → F (some (.inl 0)) h) ∧ (¬ (7 ≤ x3) → bz_cI G l d kX11_isWithin [.inl x2, .inl 0, .inl 6] h 0 0 (fun x_1 h_2 => (x_1 = 0 → F (some (.inl 0)) h_2) ∧ (¬ (x_1 = 0) → (¬ x2 = x1 → bz_rA h_2 0 x2 (fun x_3 => bz_J G κ kX11_isOfKind (d + 1) F bc bs 4 [some (.inl x0), some (.inl x1), some (.inl x_3), some (.inl (x3 + 1))] [] h_2)) ∧ (x2 = x1 → F (some (.inl 1)) h_2))))
set_option maxRecDepth 20000 in
set_option maxHeartbeats 4000000 in
theorem g_X11_isOfKind_4 {G : bz_G} {κ : bz_K} {l : Launch} {d : Nat} {F : Option bz_V → bz_H → Prop} {bc bs : Nat} (hl : κ.2.1 = l) (x0 : Int32) (x1 : Int32) (x2 : Int32) (x3 : Int32) (h : bz_H) (hP0 : w_X11_isOfKind_4 G κ l d F bc bs x0 x1 x2 x3 h) : bz_J G κ kX11_isOfKind (d + 1) F bc bs 4 [some (.inl x0), some (.inl x1), some (.inl x2), some (.inl x3)] [] h := by
  subst hl
  unfold w_X11_isOfKind_4 at hP0
  refine bz_iload_n (pc := 4) dX11_isOfKind_4 rfl rfl ?_
  refine bz_bipush (pc := 5) dX11_isOfKind_5 cb_7 ?_
  refine bz_icmp_ge (tgt := 39) (pc := 7) dX11_isOfKind_7 rfl (fun c => ?_) (fun c => ?_)
  · have hP1 := hP0.1 c
    clear hP0
    refine bz_iconst (pc := 39) dX11_isOfKind_39 ci_0 ?_
    exact bz_retI (pc := 40) dX11_isOfKind_40 rfl rfl hP1
  · have hP2 := hP0.2 c
    clear hP0
    refine bz_iload_n (pc := 10) dX11_isOfKind_10 rfl rfl ?_
    refine bz_iconst (pc := 11) dX11_isOfKind_11 ci_0 ?_
    refine bz_bipush (pc := 12) dX11_isOfKind_12 cb_6 ?_
    refine bz_kIS (as := [.inl x2, .inl 0, .inl 6]) (st := []) (n := 3) (mc := 0) (ms := 0) (bc := bc) (bs := bs) (yc := kX11_isWithin) (pc := 14) dX11_isOfKind_14 sc_X11_isWithin ml_X11_74 ss_X11_isWithin rfl (Nat.le_of_ble_eq_true rfl) hP2 (fun x_1 h_2 hP3 => ?_)
    clear hP2
    refine bz_if_eq (tgt := 39) (pc := 17) dX11_isOfKind_17 rfl (fun c => ?_) (fun c => ?_)
    · have hP4 := hP3.1 c
      clear hP3
      refine bz_iconst (pc := 39) dX11_isOfKind_39 ci_0 ?_
      exact bz_retI (pc := 40) dX11_isOfKind_40 rfl rfl hP4
    · have hP5 := hP3.2 c
      clear hP3
      refine bz_iload_n (pc := 20) dX11_isOfKind_20 rfl rfl ?_
      refine bz_iload_n (pc := 21) dX11_isOfKind_21 rfl rfl ?_
      refine bz_icmp_ne (tgt := 27) (pc := 22) dX11_isOfKind_22 rfl (fun c => ?_) (fun c => ?_)
      · have hP6 := hP5.1 c
        clear hP5
        refine bz_getsU (pc := 27) dX11_isOfKind_27 fs_X11_445 ?_
        refine bz_iload_n (pc := 30) dX11_isOfKind_30 rfl rfl ?_
        refine bz_rw_rA (pc := 31) dX11_isOfKind_31 hP6 (fun x_3 hP7 => ?_)
        clear hP6
        refine bz_s_istore_n (pc := 32) dX11_isOfKind_32 rfl (Nat.le_of_ble_eq_true rfl) [some (.inl x0), some (.inl x1), some (.inl x_3), some (.inl x3)] rfl ?_
        refine bz_s_iinc (pc := 33) dX11_isOfKind_33 (Nat.le_of_ble_eq_true rfl) rfl rfl [some (.inl x0), some (.inl x1), some (.inl x_3), some (.inl (x3 + 1))] rfl ?_
        refine bz_goto (tgt := 4) (pc := 36) dX11_isOfKind_36 rfl ?_
        exact hP7
      · have hP8 := hP5.2 c
        clear hP5
        refine bz_iconst (pc := 25) dX11_isOfKind_25 ci_1 ?_
        exact bz_retI (pc := 26) dX11_isOfKind_26 rfl rfl hP8
theorem m_X11_isOfKind {G : bz_G} {l : Launch} {d mc ms : Nat} {F : Option bz_V → bz_H → Prop} (x0 : Int32) (x1 : Int32) (h : bz_H) (hP : ∀ (κ : bz_K) (bc bs : Nat), κ.2.1 = l → w_X11_isOfKind_0 G κ l d F bc bs x0 x1 h) : bz_Call G l (d + 1) kX11_isOfKind [.inl x0, .inl x1] h mc ms F :=
  bz_body (by decide) (Nat.le_of_ble_eq_true rfl) (fun κ hl => g_X11_isOfKind_0 hl x0 x1 h (hP κ mc ms hl))
def w_X11_isRoad_0 (G : bz_G) (l : Launch) (d : Nat) (F : Option bz_V → bz_H → Prop) (x0 : Int32) (x1 : Int32) (x2 : Int32) (h : bz_H) : Prop := bz_cI G l d kX11_isCrossing [.inl x0] h 0 0 (fun x_1 h_2 => (x_1 = 0 → F (some (.inl 0)) h_2) ∧ (¬ (x_1 = 0) → bz_cI G l d kX11_isCrossing [.inl x1] h_2 0 0 (fun x_3 h_4 => (x_3 = 0 → F (some (.inl 0)) h_4) ∧ (¬ (x_3 = 0) → (x0 = x1 → F (some (.inl 0)) h_4) ∧ (¬ (x0 = x1) → bz_cI G l d kX11_isWithin [.inl x2, .inl 1, .inl 60] h_4 0 0 (fun x_5 h_6 => F (some (.inl (if x_5 = 0 then 0 else 1))) h_6))))))
set_option maxRecDepth 20000 in
set_option maxHeartbeats 4000000 in
theorem g_X11_isRoad_0 {G : bz_G} {κ : bz_K} {l : Launch} {d : Nat} {F : Option bz_V → bz_H → Prop} {bc bs : Nat} (hl : κ.2.1 = l) (x0 : Int32) (x1 : Int32) (x2 : Int32) (h : bz_H) (hP0 : w_X11_isRoad_0 G l d F x0 x1 x2 h) : bz_J G κ kX11_isRoad (d + 1) F bc bs 0 [some (.inl x0), some (.inl x1), some (.inl x2)] [] h := by
  subst hl
  unfold w_X11_isRoad_0 at hP0
  refine bz_iload_n (pc := 0) dX11_isRoad_0 rfl rfl ?_
  refine bz_kIS (as := [.inl x0]) (st := []) (n := 1) (mc := 0) (ms := 0) (bc := bc) (bs := bs) (yc := kX11_isCrossing) (pc := 1) dX11_isRoad_1 sc_X11_isCrossing ml_X11_70 ss_X11_isCrossing rfl (Nat.le_of_ble_eq_true rfl) hP0 (fun x_1 h_2 hP1 => ?_)
  clear hP0
  refine bz_if_eq (tgt := 33) (pc := 4) dX11_isRoad_4 rfl (fun c => ?_) (fun c => ?_)
  · have hP2 := hP1.1 c
    clear hP1
    refine bz_iconst (pc := 33) dX11_isRoad_33 ci_0 ?_
    exact bz_retI (pc := 34) dX11_isRoad_34 rfl rfl hP2
  · have hP3 := hP1.2 c
    clear hP1
    refine bz_iload_n (pc := 7) dX11_isRoad_7 rfl rfl ?_
    refine bz_kIS (as := [.inl x1]) (st := []) (n := 1) (mc := 0) (ms := 0) (bc := bc) (bs := bs) (yc := kX11_isCrossing) (pc := 8) dX11_isRoad_8 sc_X11_isCrossing ml_X11_70 ss_X11_isCrossing rfl (Nat.le_of_ble_eq_true rfl) hP3 (fun x_3 h_4 hP4 => ?_)
    clear hP3
    refine bz_if_eq (tgt := 33) (pc := 11) dX11_isRoad_11 rfl (fun c => ?_) (fun c => ?_)
    · have hP5 := hP4.1 c
      clear hP4
      refine bz_iconst (pc := 33) dX11_isRoad_33 ci_0 ?_
      exact bz_retI (pc := 34) dX11_isRoad_34 rfl rfl hP5
    · have hP6 := hP4.2 c
      clear hP4
      refine bz_iload_n (pc := 14) dX11_isRoad_14 rfl rfl ?_
      refine bz_iload_n (pc := 15) dX11_isRoad_15 rfl rfl ?_
      refine bz_icmp_eq (tgt := 33) (pc := 16) dX11_isRoad_16 rfl (fun c => ?_) (fun c => ?_)
      · have hP7 := hP6.1 c
        clear hP6
        refine bz_iconst (pc := 33) dX11_isRoad_33 ci_0 ?_
        exact bz_retI (pc := 34) dX11_isRoad_34 rfl rfl hP7
      · have hP8 := hP6.2 c
        clear hP6
        refine bz_iload_n (pc := 19) dX11_isRoad_19 rfl rfl ?_
        refine bz_iconst (pc := 20) dX11_isRoad_20 ci_1 ?_
        refine bz_bipush (pc := 21) dX11_isRoad_21 cb_60 ?_
        refine bz_kIS (as := [.inl x2, .inl 1, .inl 60]) (st := []) (n := 3) (mc := 0) (ms := 0) (bc := bc) (bs := bs) (yc := kX11_isWithin) (pc := 23) dX11_isRoad_23 sc_X11_isWithin ml_X11_74 ss_X11_isWithin rfl (Nat.le_of_ble_eq_true rfl) hP8 (fun x_5 h_6 hP9 => ?_)
        clear hP8
        have hJ : bz_J G κ kX11_isRoad (d + 1) F bc bs 34 [some (.inl x0), some (.inl x1), some (.inl x2)] [.inl (if x_5 = 0 then 0 else 1)] h_6 := by
          exact bz_retI (pc := 34) dX11_isRoad_34 rfl (by (repeat' split) <;> rfl) hP9
        refine bz_if_eq (tgt := 33) (pc := 26) dX11_isRoad_26 rfl (fun c => ?_) (fun c => ?_)
        · have e9 : ((if x_5 = 0 then 0 else 1) : Int32) = (0) := if_pos c
          rw [e9] at hJ
          refine bz_iconst (pc := 33) dX11_isRoad_33 ci_0 ?_
          exact hJ
        · have e9 : ((if x_5 = 0 then 0 else 1) : Int32) = (1) := if_neg c
          rw [e9] at hJ
          refine bz_iconst (pc := 29) dX11_isRoad_29 ci_1 ?_
          refine bz_goto (tgt := 34) (pc := 30) dX11_isRoad_30 rfl ?_
          exact hJ
theorem m_X11_isRoad {G : bz_G} {l : Launch} {d mc ms : Nat} {F : Option bz_V → bz_H → Prop} (x0 : Int32) (x1 : Int32) (x2 : Int32) (h : bz_H) (hP : w_X11_isRoad_0 G l d F x0 x1 x2 h) : bz_Call G l (d + 1) kX11_isRoad [.inl x0, .inl x1, .inl x2] h mc ms F :=
  bz_body (by decide) (Nat.le_of_ble_eq_true rfl) (fun κ hl => g_X11_isRoad_0 hl x0 x1 x2 h hP)
def w_X11_isWithin_0 (G : bz_G) (l : Launch) (d : Nat) (F : Option bz_V → bz_H → Prop) (x0 : Int32) (x1 : Int32) (x2 : Int32) (h : bz_H) : Prop := F (some (.inl (if x0 < x1 then 0 else if x2 < x0 then 0 else 1))) h
set_option maxRecDepth 20000 in
set_option maxHeartbeats 4000000 in
theorem g_X11_isWithin_0 {G : bz_G} {κ : bz_K} {l : Launch} {d : Nat} {F : Option bz_V → bz_H → Prop} {bc bs : Nat} (hl : κ.2.1 = l) (x0 : Int32) (x1 : Int32) (x2 : Int32) (h : bz_H) (hP0 : w_X11_isWithin_0 G l d F x0 x1 x2 h) : bz_J G κ kX11_isWithin (d + 1) F bc bs 0 [some (.inl x0), some (.inl x1), some (.inl x2)] [] h := by
  subst hl
  unfold w_X11_isWithin_0 at hP0
  refine bz_iload_n (pc := 0) dX11_isWithin_0 rfl rfl ?_
  refine bz_iload_n (pc := 1) dX11_isWithin_1 rfl rfl ?_
  have hJ : bz_J G κ kX11_isWithin (d + 1) F bc bs 15 [some (.inl x0), some (.inl x1), some (.inl x2)] [.inl (if x0 < x1 then 0 else if x2 < x0 then 0 else 1)] h := by
    exact bz_retI (pc := 15) dX11_isWithin_15 rfl (by (repeat' split) <;> rfl) hP0
  refine bz_icmp_lt (tgt := 14) (pc := 2) dX11_isWithin_2 rfl (fun c => ?_) (fun c => ?_)
  · have e9 : ((if x0 < x1 then 0 else if x2 < x0 then 0 else 1) : Int32) = (0) := if_pos c
    rw [e9] at hJ
    refine bz_iconst (pc := 14) dX11_isWithin_14 ci_0 ?_
    exact hJ
  · have e9 : ((if x0 < x1 then 0 else if x2 < x0 then 0 else 1) : Int32) = (if x2 < x0 then 0 else 1) := if_neg c
    rw [e9] at hJ
    refine bz_iload_n (pc := 5) dX11_isWithin_5 rfl rfl ?_
    refine bz_iload_n (pc := 6) dX11_isWithin_6 rfl rfl ?_
    refine bz_icmp_gt (tgt := 14) (pc := 7) dX11_isWithin_7 rfl (fun c => ?_) (fun c => ?_)
    · have e9 : ((if x2 < x0 then 0 else 1) : Int32) = (0) := if_pos c
      rw [e9] at hJ
      refine bz_iconst (pc := 14) dX11_isWithin_14 ci_0 ?_
      exact hJ
    · have e9 : ((if x2 < x0 then 0 else 1) : Int32) = (1) := if_neg c
      rw [e9] at hJ
      refine bz_iconst (pc := 10) dX11_isWithin_10 ci_1 ?_
      refine bz_goto (tgt := 15) (pc := 11) dX11_isWithin_11 rfl ?_
      exact hJ
theorem m_X11_isWithin {G : bz_G} {l : Launch} {d mc ms : Nat} {F : Option bz_V → bz_H → Prop} (x0 : Int32) (x1 : Int32) (x2 : Int32) (h : bz_H) (hP : w_X11_isWithin_0 G l d F x0 x1 x2 h) : bz_Call G l (d + 1) kX11_isWithin [.inl x0, .inl x1, .inl x2] h mc ms F :=
  bz_body (by decide) (Nat.le_of_ble_eq_true rfl) (fun κ hl => g_X11_isWithin_0 hl x0 x1 x2 h hP)
def w_X11_join_0 (G : bz_G) (κ : bz_K) (l : Launch) (d : Nat) (F : Option bz_V → bz_H → Prop) (bc bs : Nat) (a0 : Nat) (x1 : Int32) (x2 : Int32) (x3 : Int32) (x4 : Int32) (h : bz_H) : Prop := bz_cI G l d kX11_isWithin [.inl x4, .inl 0, .inl 4] h 0 0 (fun x_1 h_2 => (x_1 = 0 → bz_J G κ kX11_join (d + 1) F bc bs 22 [some (.inr (some a0)), some (.inl x1), some (.inl x2), some (.inl x3), some (.inl x4), none] [.inl (-1000001)] h_2) ∧ (¬ (x_1 = 0) → bz_rc h_2 a0 11 (bz_cI G l d kX11_planJoined [.inr (some a0), .inl x1, .inl x2, .inl x3] h_2 0 0 (fun x_3 h_4 => bz_J G κ kX11_join (d + 1) F bc bs 22 [some (.inr (some a0)), some (.inl x1), some (.inl x2), some (.inl x3), some (.inl x4), none] [.inl x_3] h_4))))
set_option maxRecDepth 20000 in
set_option maxHeartbeats 4000000 in
theorem g_X11_join_0 {G : bz_G} {κ : bz_K} {l : Launch} {d : Nat} {F : Option bz_V → bz_H → Prop} {bc bs : Nat} (hl : κ.2.1 = l) (a0 : Nat) (x1 : Int32) (x2 : Int32) (x3 : Int32) (x4 : Int32) (h : bz_H) (hP0 : w_X11_join_0 G κ l d F bc bs a0 x1 x2 x3 x4 h) : bz_J G κ kX11_join (d + 1) F bc bs 0 [some (.inr (some a0)), some (.inl x1), some (.inl x2), some (.inl x3), some (.inl x4), none] [] h := by
  subst hl
  unfold w_X11_join_0 at hP0
  refine bz_iload (pc := 0) dX11_join_0 rfl ?_
  refine bz_iconst (pc := 2) dX11_join_2 ci_0 ?_
  refine bz_iconst (pc := 3) dX11_join_3 ci_4 ?_
  refine bz_kIS (as := [.inl x4, .inl 0, .inl 4]) (st := []) (n := 3) (mc := 0) (ms := 0) (bc := bc) (bs := bs) (yc := kX11_isWithin) (pc := 4) dX11_join_4 sc_X11_isWithin ml_X11_74 ss_X11_isWithin rfl (Nat.le_of_ble_eq_true rfl) hP0 (fun x_1 h_2 hP1 => ?_)
  clear hP0
  refine bz_if_eq (tgt := 20) (pc := 7) dX11_join_7 rfl (fun c => ?_) (fun c => ?_)
  · have hP2 := hP1.1 c
    clear hP1
    refine bz_ldc (pc := 20) dX11_join_20 ct_X11_78 ?_
    exact hP2
  · have hP3 := hP1.2 c
    clear hP1
    refine bz_aload_n (pc := 10) dX11_join_10 rfl rfl ?_
    refine bz_iload_n (pc := 11) dX11_join_11 rfl rfl ?_
    refine bz_iload_n (pc := 12) dX11_join_12 rfl rfl ?_
    refine bz_iload_n (pc := 13) dX11_join_13 rfl rfl ?_
    refine bz_kIV (as := [.inl x1, .inl x2, .inl x3]) (st := []) (ci := 11) (n := 3) (mc := 0) (ms := 0) (bc := bc) (bs := bs) (yc := kX11_planJoined) (q := (RX11, TX11, 9)) (b := a0) (pc := 14) dX11_join_14 sc_X11_planJoined ml_X11_223 im_X11_planJoined se_X11_planJoined rfl rfl rfl (Nat.le_of_ble_eq_true rfl) hP3 (fun x_3 h_4 hP4 => ?_)
    clear hP3
    refine bz_goto (tgt := 22) (pc := 17) dX11_join_17 rfl ?_
    exact hP4
def w_X11_join_22 (G : bz_G) (l : Launch) (d : Nat) (F : Option bz_V → bz_H → Prop) (a0 : Nat) (x1 : Int32) (x2 : Int32) (x3 : Int32) (x4 : Int32) (u5 : Option bz_V) (y0 : Int32) (h : bz_H) : Prop := (y0 = 0 → (x4 = 0 → bz_rR h a0 11 6 (fun r_5 => bz_nn r_5 (fun a_6 => bz_rI h a_6 9 9 (fun x_7 => F (some (.inl x_7)) h)))) ∧ (¬ x4 = 0 → (x4 = 1 → bz_rR h a0 11 6 (fun r_8 => bz_nn r_8 (fun a_9 => bz_rI h a_9 9 10 (fun x_10 => F (some (.inl x_10)) h)))) ∧ (¬ x4 = 1 → (x4 = 2 → bz_rR h a0 11 6 (fun r_11 => bz_nn r_11 (fun a_12 => bz_rI h a_12 9 7 (fun x_13 => F (some (.inl x_13)) h)))) ∧ (¬ x4 = 2 → (x4 = 3 → bz_rR h a0 11 6 (fun r_14 => bz_nn r_14 (fun a_15 => bz_rR h a_15 9 1 (fun r_16 => bz_nn r_16 (fun a_17 => bz_rA h a_17 1 (fun x_18 => F (some (.inl x_18)) h)))))) ∧ (¬ x4 = 3 → bz_rR h a0 11 6 (fun r_19 => bz_nn r_19 (fun a_20 => bz_rR h a_20 9 1 (fun r_21 => bz_nn r_21 (fun a_22 => bz_rA h a_22 3 (fun x_23 => F (some (.inl x_23)) h)))))))))) ∧ (¬ (y0 = 0) → bz_rc h a0 11 (bz_cI G l d kX11_finding [.inr (some a0), .inl y0] h 0 0 (fun x_24 h_25 => F (some (.inl x_24)) h_25)))
set_option maxRecDepth 20000 in
set_option maxHeartbeats 4000000 in
theorem g_X11_join_22 {G : bz_G} {κ : bz_K} {l : Launch} {d : Nat} {F : Option bz_V → bz_H → Prop} {bc bs : Nat} (hl : κ.2.1 = l) (a0 : Nat) (x1 : Int32) (x2 : Int32) (x3 : Int32) (x4 : Int32) (u5 : Option bz_V) (y0 : Int32) (h : bz_H) (hP0 : w_X11_join_22 G l d F a0 x1 x2 x3 x4 u5 y0 h) : bz_J G κ kX11_join (d + 1) F bc bs 22 [some (.inr (some a0)), some (.inl x1), some (.inl x2), some (.inl x3), some (.inl x4), u5] [.inl y0] h := by
  subst hl
  unfold w_X11_join_22 at hP0
  refine bz_s_istore (pc := 22) dX11_join_22 (Nat.le_of_ble_eq_true rfl) [some (.inr (some a0)), some (.inl x1), some (.inl x2), some (.inl x3), some (.inl x4), some (.inl y0)] rfl ?_
  refine bz_iload (pc := 24) dX11_join_24 rfl ?_
  refine bz_if_eq (tgt := 36) (pc := 26) dX11_join_26 rfl (fun c => ?_) (fun c => ?_)
  · have hP1 := hP0.1 c
    clear hP0
    refine bz_iload (pc := 36) dX11_join_36 rfl ?_
    refine bz_table (pc := 38) [(0, 30), (1, 38), (2, 46), (3, 54)] dX11_join_38 (by decide) (by decide) (by decide) (by decide) (by decide) ?_
    refine ⟨fun c => ?_, fun c => ?_⟩
    · have hP2 := hP1.1 c
      clear hP1
      show bz_J G κ kX11_join (d + 1) F bc bs 68 [some (.inr (some a0)), some (.inl x1), some (.inl x2), some (.inl x3), some (.inl x4), some (.inl y0)] [] h
      refine bz_aload_n (pc := 68) dX11_join_68 rfl rfl ?_
      refine bz_rw_rR (pc := 69) dX11_join_69 fl_X11_50 hP2 (fun r_5 hP3 => ?_)
      clear hP2
      obtain ⟨a_6, rfl, hP4⟩ := hP3
      refine bz_rw_rI (pc := 72) dX11_join_72 fl_X11_226 hP4 (fun x_7 hP5 => ?_)
      clear hP4
      exact bz_retI (pc := 75) dX11_join_75 rfl rfl hP5
    · have hP6 := hP1.2 c
      clear hP1
      refine ⟨fun c => ?_, fun c => ?_⟩
      · have hP7 := hP6.1 c
        clear hP6
        show bz_J G κ kX11_join (d + 1) F bc bs 76 [some (.inr (some a0)), some (.inl x1), some (.inl x2), some (.inl x3), some (.inl x4), some (.inl y0)] [] h
        refine bz_aload_n (pc := 76) dX11_join_76 rfl rfl ?_
        refine bz_rw_rR (pc := 77) dX11_join_77 fl_X11_50 hP7 (fun r_8 hP8 => ?_)
        clear hP7
        obtain ⟨a_9, rfl, hP9⟩ := hP8
        refine bz_rw_rI (pc := 80) dX11_join_80 fl_X11_222 hP9 (fun x_10 hP10 => ?_)
        clear hP9
        exact bz_retI (pc := 83) dX11_join_83 rfl rfl hP10
      · have hP11 := hP6.2 c
        clear hP6
        refine ⟨fun c => ?_, fun c => ?_⟩
        · have hP12 := hP11.1 c
          clear hP11
          show bz_J G κ kX11_join (d + 1) F bc bs 84 [some (.inr (some a0)), some (.inl x1), some (.inl x2), some (.inl x3), some (.inl x4), some (.inl y0)] [] h
          refine bz_aload_n (pc := 84) dX11_join_84 rfl rfl ?_
          refine bz_rw_rR (pc := 85) dX11_join_85 fl_X11_50 hP12 (fun r_11 hP13 => ?_)
          clear hP12
          obtain ⟨a_12, rfl, hP14⟩ := hP13
          refine bz_rw_rI (pc := 88) dX11_join_88 fl_X11_229 hP14 (fun x_13 hP15 => ?_)
          clear hP14
          exact bz_retI (pc := 91) dX11_join_91 rfl rfl hP15
        · have hP16 := hP11.2 c
          clear hP11
          refine ⟨fun c => ?_, fun c => ?_⟩
          · have hP17 := hP16.1 c
            clear hP16
            show bz_J G κ kX11_join (d + 1) F bc bs 92 [some (.inr (some a0)), some (.inl x1), some (.inl x2), some (.inl x3), some (.inl x4), some (.inl y0)] [] h
            refine bz_aload_n (pc := 92) dX11_join_92 rfl rfl ?_
            refine bz_rw_rR (pc := 93) dX11_join_93 fl_X11_50 hP17 (fun r_14 hP18 => ?_)
            clear hP17
            obtain ⟨a_15, rfl, hP19⟩ := hP18
            refine bz_rw_rR (pc := 96) dX11_join_96 fl_X11_219 hP19 (fun r_16 hP20 => ?_)
            clear hP19
            refine bz_iconst (pc := 99) dX11_join_99 ci_1 ?_
            obtain ⟨a_17, rfl, hP21⟩ := hP20
            refine bz_rw_rA (pc := 100) dX11_join_100 hP21 (fun x_18 hP22 => ?_)
            clear hP21
            exact bz_retI (pc := 101) dX11_join_101 rfl rfl hP22
          · have hP23 := hP16.2 c
            clear hP16
            show bz_J G κ kX11_join (d + 1) F bc bs 102 [some (.inr (some a0)), some (.inl x1), some (.inl x2), some (.inl x3), some (.inl x4), some (.inl y0)] [] h
            refine bz_aload_n (pc := 102) dX11_join_102 rfl rfl ?_
            refine bz_rw_rR (pc := 103) dX11_join_103 fl_X11_50 hP23 (fun r_19 hP24 => ?_)
            clear hP23
            obtain ⟨a_20, rfl, hP25⟩ := hP24
            refine bz_rw_rR (pc := 106) dX11_join_106 fl_X11_219 hP25 (fun r_21 hP26 => ?_)
            clear hP25
            refine bz_iconst (pc := 109) dX11_join_109 ci_3 ?_
            obtain ⟨a_22, rfl, hP27⟩ := hP26
            refine bz_rw_rA (pc := 110) dX11_join_110 hP27 (fun x_23 hP28 => ?_)
            clear hP27
            exact bz_retI (pc := 111) dX11_join_111 rfl rfl hP28
  · have hP29 := hP0.2 c
    clear hP0
    refine bz_aload_n (pc := 29) dX11_join_29 rfl rfl ?_
    refine bz_iload (pc := 30) dX11_join_30 rfl ?_
    refine bz_kIV (as := [.inl y0]) (st := []) (ci := 11) (n := 1) (mc := 0) (ms := 0) (bc := bc) (bs := bs) (yc := kX11_finding) (q := (RX11, TX11, 9)) (b := a0) (pc := 32) dX11_join_32 sc_X11_finding ml_X11_79 im_X11_finding se_X11_finding rfl rfl rfl (Nat.le_of_ble_eq_true rfl) hP29 (fun x_24 h_25 hP30 => ?_)
    clear hP29
    exact bz_retI (pc := 35) dX11_join_35 rfl rfl hP30
theorem m_X11_join {G : bz_G} {l : Launch} {d mc ms : Nat} {F : Option bz_V → bz_H → Prop} (a0 : Nat) (x1 : Int32) (x2 : Int32) (x3 : Int32) (x4 : Int32) (h : bz_H) (hP : ∀ (κ : bz_K) (bc bs : Nat), κ.2.1 = l → w_X11_join_0 G κ l d F bc bs a0 x1 x2 x3 x4 h) : bz_Call G l (d + 1) kX11_join [.inr (some a0), .inl x1, .inl x2, .inl x3, .inl x4] h mc ms F :=
  bz_body (by decide) (Nat.le_of_ble_eq_true rfl) (fun κ hl => g_X11_join_0 hl a0 x1 x2 x3 x4 h (hP κ mc ms hl))
def w_X11_judge_0 (G : bz_G) (κ : bz_K) (l : Launch) (d : Nat) (F : Option bz_V → bz_H → Prop) (bc bs : Nat) (a0 : Nat) (x1 : Int32) (x2 : Int32) (h : bz_H) : Prop := bz_rc h a0 11 (bz_cR G l d kX11_sheetAt [.inr (some a0), .inl x1] h 0 0 (fun r_1 h_2 => (∀ a_3, r_1 = some a_3 → bz_rc h_2 a_3 5 (bz_cI G l d kX5_isMissing [.inr (some a_3)] h_2 0 0 (fun x_6 h_7 => (x_6 = 0 → bz_rR h_7 a0 11 0 (fun r_8 => bz_nn r_8 (fun a_11 => bz_rc h_7 a_11 10 (bz_cR G l d kX10_textAt [.inr (some a_11), .inl x2] h_7 0 0 (fun r_9 h_10 => (∀ a_12, r_9 = some a_12 → bz_rR h_10 a0 11 8 (fun r_15 => bz_nn r_15 (fun a_18 => bz_rc h_10 a_18 1 (bz_cV G l d kX1_passBy [.inr (some a_18), .inr (some a_12)] h_10 0 0 (fun h_17 => bz_rI h_17 a_3 5 2 (fun x_19 => bz_rR h_17 a0 11 0 (fun r_20 => bz_nn r_20 (fun a_21 => bz_rI h_17 a_21 10 9 (fun x_22 => bz_J G κ kX11_judge (d + 1) F bc bs 82 [some (.inr (some a0)), some (.inl x1), some (.inl x2), some (.inr (some a_3)), some (.inr (some a_12)), some (.inl (if x_22 < x_19 then x_22 else x_19)), some (.inl 0)] [] h_17))))))))) ∧ (r_9 = none → bz_rc h_10 a0 11 (bz_cI G l d kX11_finding [.inr (some a0), .inl (-1000001)] h_10 0 0 (fun x_13 h_14 => F (some (.inl x_13)) h_14)))))))) ∧ (¬ (x_6 = 0) → bz_rc h_7 a0 11 (bz_cI G l d kX11_finding [.inr (some a0), .inl (-1000006)] h_7 0 0 (fun x_23 h_24 => F (some (.inl x_23)) h_24)))))) ∧ (r_1 = none → bz_rc h_2 a0 11 (bz_cI G l d kX11_finding [.inr (some a0), .inl (-1000001)] h_2 0 0 (fun x_4 h_5 => F (some (.inl x_4)) h_5)))))
set_option maxRecDepth 20000 in
set_option maxHeartbeats 4000000 in
theorem g_X11_judge_0 {G : bz_G} {κ : bz_K} {l : Launch} {d : Nat} {F : Option bz_V → bz_H → Prop} {bc bs : Nat} (hl : κ.2.1 = l) (a0 : Nat) (x1 : Int32) (x2 : Int32) (h : bz_H) (hP0 : w_X11_judge_0 G κ l d F bc bs a0 x1 x2 h) : bz_J G κ kX11_judge (d + 1) F bc bs 0 [some (.inr (some a0)), some (.inl x1), some (.inl x2), none, none, none, none] [] h := by
  subst hl
  unfold w_X11_judge_0 at hP0
  refine bz_aload_n (pc := 0) dX11_judge_0 rfl rfl ?_
  refine bz_iload_n (pc := 1) dX11_judge_1 rfl rfl ?_
  refine bz_kRV (as := [.inl x1]) (st := []) (ci := 11) (n := 1) (mc := 0) (ms := 0) (bc := bc) (bs := bs) (yc := kX11_sheetAt) (q := (RX11, TX11, 9)) (b := a0) (pc := 2) dX11_judge_2 sc_X11_sheetAt ml_X11_380 im_X11_sheetAt se_X11_sheetAt rfl rfl rfl (Nat.le_of_ble_eq_true rfl) hP0 (fun r_1 h_2 hP1 => ?_)
  clear hP0
  refine bz_s_astore_n (pc := 5) dX11_judge_5 rfl (Nat.le_of_ble_eq_true rfl) [some (.inr (some a0)), some (.inl x1), some (.inl x2), some (.inr r_1), none, none, none] rfl ?_
  refine bz_aload_n (pc := 6) dX11_judge_6 rfl rfl ?_
  refine bz_ifnonnull (tgt := 17) (pc := 7) dX11_judge_7 rfl (fun a_3 c => ?_) (fun c => ?_)
  · have hP2 := hP1.1 a_3 c
    clear hP1
    subst c
    refine bz_aload_n (pc := 17) dX11_judge_17 rfl rfl ?_
    refine bz_kIV (as := []) (st := []) (ci := 5) (n := 0) (mc := 0) (ms := 0) (bc := bc) (bs := bs) (yc := kX5_isMissing) (q := (RX5, TX5, 3)) (b := a_3) (pc := 18) dX11_judge_18 sc_X5_isMissing ml_X11_389 im_X5_isMissing se_X5_isMissing rfl rfl rfl (Nat.le_of_ble_eq_true rfl) hP2 (fun x_6 h_7 hP3 => ?_)
    clear hP2
    refine bz_if_eq (tgt := 32) (pc := 21) dX11_judge_21 rfl (fun c => ?_) (fun c => ?_)
    · have hP4 := hP3.1 c
      clear hP3
      refine bz_aload_n (pc := 32) dX11_judge_32 rfl rfl ?_
      refine bz_rw_rR (pc := 33) dX11_judge_33 fl_X11_12 hP4 (fun r_8 hP5 => ?_)
      clear hP4
      refine bz_iload_n (pc := 36) dX11_judge_36 rfl rfl ?_
      obtain ⟨a_11, rfl, hP6⟩ := hP5
      refine bz_kRV (as := [.inl x2]) (st := []) (ci := 10) (n := 1) (mc := 0) (ms := 0) (bc := bc) (bs := bs) (yc := kX10_textAt) (q := (RX10, TX10, 16)) (b := a_11) (pc := 37) dX11_judge_37 sc_X10_textAt ml_X11_281 im_X10_textAt se_X10_textAt rfl rfl rfl (Nat.le_of_ble_eq_true rfl) hP6 (fun r_9 h_10 hP7 => ?_)
      clear hP6
      refine bz_s_astore (pc := 40) dX11_judge_40 (Nat.le_of_ble_eq_true rfl) [some (.inr (some a0)), some (.inl x1), some (.inl x2), some (.inr (some a_3)), some (.inr r_9), none, none] rfl ?_
      refine bz_aload (pc := 42) dX11_judge_42 rfl ?_
      refine bz_ifnonnull (tgt := 54) (pc := 44) dX11_judge_44 rfl (fun a_12 c => ?_) (fun c => ?_)
      · have hP8 := hP7.1 a_12 c
        clear hP7
        subst c
        refine bz_aload_n (pc := 54) dX11_judge_54 rfl rfl ?_
        refine bz_rw_rR (pc := 55) dX11_judge_55 fl_X11_66 hP8 (fun r_15 hP9 => ?_)
        clear hP8
        refine bz_aload (pc := 58) dX11_judge_58 rfl ?_
        obtain ⟨a_18, rfl, hP10⟩ := hP9
        refine bz_kVV (as := [.inr (some a_12)]) (st := []) (ci := 1) (n := 1) (mc := 0) (ms := 0) (bc := bc) (bs := bs) (yc := kX1_passBy) (q := (RX1, TX1, 10)) (b := a_18) (pc := 60) dX11_judge_60 sc_X1_passBy ml_X11_352 im_X1_passBy se_X1_passBy rfl rfl rfl (Nat.le_of_ble_eq_true rfl) hP10 (fun h_17 hP11 => ?_)
        clear hP10
        refine bz_aload_n (pc := 63) dX11_judge_63 rfl rfl ?_
        refine bz_rw_rI (pc := 64) dX11_judge_64 fl_X11_388 hP11 (fun x_19 hP12 => ?_)
        clear hP11
        refine bz_aload_n (pc := 67) dX11_judge_67 rfl rfl ?_
        refine bz_rw_rR (pc := 68) dX11_judge_68 fl_X11_12 hP12 (fun r_20 hP13 => ?_)
        clear hP12
        obtain ⟨a_21, rfl, hP14⟩ := hP13
        refine bz_rw_rI (pc := 71) dX11_judge_71 fl_X11_125 hP14 (fun x_22 hP15 => ?_)
        clear hP14
        refine bz_mmin (pc := 74) dX11_judge_74 ml_X11_410 mt_min mt_init mt_code_min (Nat.succ_pos d) (Nat.le_of_ble_eq_true rfl) ?_
        refine bz_s_istore (pc := 77) dX11_judge_77 (Nat.le_of_ble_eq_true rfl) [some (.inr (some a0)), some (.inl x1), some (.inl x2), some (.inr (some a_3)), some (.inr (some a_12)), some (.inl (if x_22 < x_19 then x_22 else x_19)), none] rfl ?_
        refine bz_iconst (pc := 79) dX11_judge_79 ci_0 ?_
        refine bz_s_istore (pc := 80) dX11_judge_80 (Nat.le_of_ble_eq_true rfl) [some (.inr (some a0)), some (.inl x1), some (.inl x2), some (.inr (some a_3)), some (.inr (some a_12)), some (.inl (if x_22 < x_19 then x_22 else x_19)), some (.inl 0)] rfl ?_
        exact hP15
      · have hP16 := hP7.2 c
        clear hP7
        subst c
        refine bz_aload_n (pc := 47) dX11_judge_47 rfl rfl ?_
        refine bz_ldc (pc := 48) dX11_judge_48 ct_X11_78 ?_
        refine bz_kIV (as := [.inl (-1000001)]) (st := []) (ci := 11) (n := 1) (mc := 0) (ms := 0) (bc := bc) (bs := bs) (yc := kX11_finding) (q := (RX11, TX11, 9)) (b := a0) (pc := 50) dX11_judge_50 sc_X11_finding ml_X11_79 im_X11_finding se_X11_finding rfl rfl rfl (Nat.le_of_ble_eq_true rfl) hP16 (fun x_13 h_14 hP17 => ?_)
        clear hP16
        exact bz_retI (pc := 53) dX11_judge_53 rfl rfl hP17
    · have hP18 := hP3.2 c
      clear hP3
      refine bz_aload_n (pc := 24) dX11_judge_24 rfl rfl ?_
      refine bz_ldcw (pc := 25) dX11_judge_25 ct_X11_374 ?_
      refine bz_kIV (as := [.inl (-1000006)]) (st := []) (ci := 11) (n := 1) (mc := 0) (ms := 0) (bc := bc) (bs := bs) (yc := kX11_finding) (q := (RX11, TX11, 9)) (b := a0) (pc := 28) dX11_judge_28 sc_X11_finding ml_X11_79 im_X11_finding se_X11_finding rfl rfl rfl (Nat.le_of_ble_eq_true rfl) hP18 (fun x_23 h_24 hP19 => ?_)
      clear hP18
      exact bz_retI (pc := 31) dX11_judge_31 rfl rfl hP19
  · have hP20 := hP1.2 c
    clear hP1
    subst c
    refine bz_aload_n (pc := 10) dX11_judge_10 rfl rfl ?_
    refine bz_ldc (pc := 11) dX11_judge_11 ct_X11_78 ?_
    refine bz_kIV (as := [.inl (-1000001)]) (st := []) (ci := 11) (n := 1) (mc := 0) (ms := 0) (bc := bc) (bs := bs) (yc := kX11_finding) (q := (RX11, TX11, 9)) (b := a0) (pc := 13) dX11_judge_13 sc_X11_finding ml_X11_79 im_X11_finding se_X11_finding rfl rfl rfl (Nat.le_of_ble_eq_true rfl) hP20 (fun x_4 h_5 hP21 => ?_)
    clear hP20
    exact bz_retI (pc := 16) dX11_judge_16 rfl rfl hP21
def w_X11_judge_82 (G : bz_G) (κ : bz_K) (l : Launch) (d : Nat) (F : Option bz_V → bz_H → Prop) (bc bs : Nat) (a0 : Nat) (x1 : Int32) (x2 : Int32) (r3 : Option Nat) (r4 : Option Nat) (x5 : Int32) (x6 : Int32) (h : bz_H) : Prop := (x5 ≤ x6 → bz_nn r3 (fun a_25 => bz_rI h a_25 5 2 (fun x_26 => (¬ x6 = x_26 → F (some (.inl (x6 + 1))) h) ∧ (x6 = x_26 → bz_rR h a0 11 0 (fun r_27 => bz_nn r_27 (fun a_28 => bz_rI h a_28 10 9 (fun x_29 => F (some (.inl (if x6 = x_29 then 0 else x6 + 1))) h))))))) ∧ (¬ (x5 ≤ x6) → bz_nn r3 (fun a_30 => bz_rR h a_30 5 0 (fun r_31 => bz_nn r_31 (fun a_32 => bz_rA h a_32 x6 (fun x_33 => bz_rR h a0 11 8 (fun r_34 => bz_nn r_34 (fun a_35 => bz_rR h a_35 1 6 (fun r_36 => bz_nn r_36 (fun a_37 => bz_rA h a_37 x6 (fun x_38 => (¬ x_33 = x_38 → bz_rI h a_30 5 2 (fun x_39 => (¬ x6 = x_39 → F (some (.inl (x6 + 1))) h) ∧ (x6 = x_39 → bz_rR h a0 11 0 (fun r_40 => bz_nn r_40 (fun a_41 => bz_rI h a_41 10 9 (fun x_42 => F (some (.inl (if x6 = x_42 then 0 else x6 + 1))) h)))))) ∧ (x_33 = x_38 → bz_J G κ kX11_judge (d + 1) F bc bs 82 [some (.inr (some a0)), some (.inl x1), some (.inl x2), some (.inr (some a_30)), some (.inr r4), some (.inl x5), some (.inl (x6 + 1))] [] h)))))))))))
set_option maxRecDepth 20000 in
set_option maxHeartbeats 4000000 in
theorem g_X11_judge_82 {G : bz_G} {κ : bz_K} {l : Launch} {d : Nat} {F : Option bz_V → bz_H → Prop} {bc bs : Nat} (hl : κ.2.1 = l) (a0 : Nat) (x1 : Int32) (x2 : Int32) (r3 : Option Nat) (r4 : Option Nat) (x5 : Int32) (x6 : Int32) (h : bz_H) (hP0 : w_X11_judge_82 G κ l d F bc bs a0 x1 x2 r3 r4 x5 x6 h) : bz_J G κ kX11_judge (d + 1) F bc bs 82 [some (.inr (some a0)), some (.inl x1), some (.inl x2), some (.inr r3), some (.inr r4), some (.inl x5), some (.inl x6)] [] h := by
  subst hl
  unfold w_X11_judge_82 at hP0
  refine bz_iload (pc := 82) dX11_judge_82 rfl ?_
  refine bz_iload (pc := 84) dX11_judge_84 rfl ?_
  refine bz_icmp_ge (tgt := 115) (pc := 86) dX11_judge_86 rfl (fun c => ?_) (fun c => ?_)
  · have hP1 := hP0.1 c
    clear hP0
    refine bz_iload (pc := 115) dX11_judge_115 rfl ?_
    refine bz_aload_n (pc := 117) dX11_judge_117 rfl rfl ?_
    obtain ⟨a_25, rfl, hP2⟩ := hP1
    refine bz_rw_rI (pc := 118) dX11_judge_118 fl_X11_388 hP2 (fun x_26 hP3 => ?_)
    clear hP2
    refine bz_icmp_ne (tgt := 140) (pc := 121) dX11_judge_121 rfl (fun c => ?_) (fun c => ?_)
    · have hP4 := hP3.1 c
      clear hP3
      refine bz_iload (pc := 140) dX11_judge_140 rfl ?_
      refine bz_iconst (pc := 142) dX11_judge_142 ci_1 ?_
      refine bz_iadd (pc := 143) dX11_judge_143 ?_
      exact bz_retI (pc := 144) dX11_judge_144 rfl rfl hP4
    · have hP5 := hP3.2 c
      clear hP3
      refine bz_iload (pc := 124) dX11_judge_124 rfl ?_
      refine bz_aload_n (pc := 126) dX11_judge_126 rfl rfl ?_
      refine bz_rw_rR (pc := 127) dX11_judge_127 fl_X11_12 hP5 (fun r_27 hP6 => ?_)
      clear hP5
      obtain ⟨a_28, rfl, hP7⟩ := hP6
      refine bz_rw_rI (pc := 130) dX11_judge_130 fl_X11_125 hP7 (fun x_29 hP8 => ?_)
      clear hP7
      have hJ : bz_J G κ kX11_judge (d + 1) F bc bs 144 [some (.inr (some a0)), some (.inl x1), some (.inl x2), some (.inr (some a_25)), some (.inr r4), some (.inl x5), some (.inl x6)] [.inl (if x6 = x_29 then 0 else x6 + 1)] h := by
        exact bz_retI (pc := 144) dX11_judge_144 rfl rfl hP8
      refine bz_icmp_ne (tgt := 140) (pc := 133) dX11_judge_133 rfl (fun c => ?_) (fun c => ?_)
      · have e9 : ((if x6 = x_29 then 0 else x6 + 1) : Int32) = (x6 + 1) := if_neg c
        rw [e9] at hJ
        refine bz_iload (pc := 140) dX11_judge_140 rfl ?_
        refine bz_iconst (pc := 142) dX11_judge_142 ci_1 ?_
        refine bz_iadd (pc := 143) dX11_judge_143 ?_
        exact hJ
      · have e9 : ((if x6 = x_29 then 0 else x6 + 1) : Int32) = (0) := if_pos c
        rw [e9] at hJ
        refine bz_iconst (pc := 136) dX11_judge_136 ci_0 ?_
        refine bz_goto (tgt := 144) (pc := 137) dX11_judge_137 rfl ?_
        exact hJ
  · have hP9 := hP0.2 c
    clear hP0
    refine bz_aload_n (pc := 89) dX11_judge_89 rfl rfl ?_
    obtain ⟨a_30, rfl, hP10⟩ := hP9
    refine bz_rw_rR (pc := 90) dX11_judge_90 fl_X11_401 hP10 (fun r_31 hP11 => ?_)
    clear hP10
    refine bz_iload (pc := 93) dX11_judge_93 rfl ?_
    obtain ⟨a_32, rfl, hP12⟩ := hP11
    refine bz_rw_rA (pc := 95) dX11_judge_95 hP12 (fun x_33 hP13 => ?_)
    clear hP12
    refine bz_aload_n (pc := 96) dX11_judge_96 rfl rfl ?_
    refine bz_rw_rR (pc := 97) dX11_judge_97 fl_X11_66 hP13 (fun r_34 hP14 => ?_)
    clear hP13
    obtain ⟨a_35, rfl, hP15⟩ := hP14
    refine bz_rw_rR (pc := 100) dX11_judge_100 fl_X11_368 hP15 (fun r_36 hP16 => ?_)
    clear hP15
    refine bz_iload (pc := 103) dX11_judge_103 rfl ?_
    obtain ⟨a_37, rfl, hP17⟩ := hP16
    refine bz_rw_rA (pc := 105) dX11_judge_105 hP17 (fun x_38 hP18 => ?_)
    clear hP17
    refine bz_icmp_ne (tgt := 115) (pc := 106) dX11_judge_106 rfl (fun c => ?_) (fun c => ?_)
    · have hP19 := hP18.1 c
      clear hP18
      refine bz_iload (pc := 115) dX11_judge_115 rfl ?_
      refine bz_aload_n (pc := 117) dX11_judge_117 rfl rfl ?_
      refine bz_rw_rI (pc := 118) dX11_judge_118 fl_X11_388 hP19 (fun x_39 hP20 => ?_)
      clear hP19
      refine bz_icmp_ne (tgt := 140) (pc := 121) dX11_judge_121 rfl (fun c => ?_) (fun c => ?_)
      · have hP21 := hP20.1 c
        clear hP20
        refine bz_iload (pc := 140) dX11_judge_140 rfl ?_
        refine bz_iconst (pc := 142) dX11_judge_142 ci_1 ?_
        refine bz_iadd (pc := 143) dX11_judge_143 ?_
        exact bz_retI (pc := 144) dX11_judge_144 rfl rfl hP21
      · have hP22 := hP20.2 c
        clear hP20
        refine bz_iload (pc := 124) dX11_judge_124 rfl ?_
        refine bz_aload_n (pc := 126) dX11_judge_126 rfl rfl ?_
        refine bz_rw_rR (pc := 127) dX11_judge_127 fl_X11_12 hP22 (fun r_40 hP23 => ?_)
        clear hP22
        obtain ⟨a_41, rfl, hP24⟩ := hP23
        refine bz_rw_rI (pc := 130) dX11_judge_130 fl_X11_125 hP24 (fun x_42 hP25 => ?_)
        clear hP24
        have hJ : bz_J G κ kX11_judge (d + 1) F bc bs 144 [some (.inr (some a0)), some (.inl x1), some (.inl x2), some (.inr (some a_30)), some (.inr r4), some (.inl x5), some (.inl x6)] [.inl (if x6 = x_42 then 0 else x6 + 1)] h := by
          exact bz_retI (pc := 144) dX11_judge_144 rfl rfl hP25
        refine bz_icmp_ne (tgt := 140) (pc := 133) dX11_judge_133 rfl (fun c => ?_) (fun c => ?_)
        · have e9 : ((if x6 = x_42 then 0 else x6 + 1) : Int32) = (x6 + 1) := if_neg c
          rw [e9] at hJ
          refine bz_iload (pc := 140) dX11_judge_140 rfl ?_
          refine bz_iconst (pc := 142) dX11_judge_142 ci_1 ?_
          refine bz_iadd (pc := 143) dX11_judge_143 ?_
          exact hJ
        · have e9 : ((if x6 = x_42 then 0 else x6 + 1) : Int32) = (0) := if_pos c
          rw [e9] at hJ
          refine bz_iconst (pc := 136) dX11_judge_136 ci_0 ?_
          refine bz_goto (tgt := 144) (pc := 137) dX11_judge_137 rfl ?_
          exact hJ
    · have hP26 := hP18.2 c
      clear hP18
      refine bz_s_iinc (pc := 109) dX11_judge_109 (Nat.le_of_ble_eq_true rfl) rfl rfl [some (.inr (some a0)), some (.inl x1), some (.inl x2), some (.inr (some a_30)), some (.inr r4), some (.inl x5), some (.inl (x6 + 1))] rfl ?_
      refine bz_goto (tgt := 82) (pc := 112) dX11_judge_112 rfl ?_
      exact hP26
theorem m_X11_judge {G : bz_G} {l : Launch} {d mc ms : Nat} {F : Option bz_V → bz_H → Prop} (a0 : Nat) (x1 : Int32) (x2 : Int32) (h : bz_H) (hP : ∀ (κ : bz_K) (bc bs : Nat), κ.2.1 = l → w_X11_judge_0 G κ l d F bc bs a0 x1 x2 h) : bz_Call G l (d + 1) kX11_judge [.inr (some a0), .inl x1, .inl x2] h mc ms F :=
  bz_body (by decide) (Nat.le_of_ble_eq_true rfl) (fun κ hl => g_X11_judge_0 hl a0 x1 x2 h (hP κ mc ms hl))
def w_X11_kitchen_0 (G : bz_G) (l : Launch) (d : Nat) (F : Option bz_V → bz_H → Prop) (a0 : Nat) (x1 : Int32) (x2 : Int32) (h : bz_H) : Prop := bz_cI G l d kX11_isCrossing [.inl x1] h 0 0 (fun x_1 h_2 => (x_1 = 0 → bz_rc h_2 a0 11 (bz_cI G l d kX11_finding [.inr (some a0), .inl (-1000001)] h_2 0 0 (fun x_3 h_4 => F (some (.inl x_3)) h_4))) ∧ (¬ (x_1 = 0) → bz_cI G l d kX11_isWithin [.inl x2, .inl 1, .inl 60] h_2 0 0 (fun x_5 h_6 => (¬ x_5 = 0 → bz_rR h_6 a0 11 0 (fun r_7 => bz_nn r_7 (fun a_8 => bz_rR h_6 a_8 10 1 (fun r_9 => bz_nn r_9 (fun a_12 => bz_rc h_6 a_12 4 (bz_cI G l d kX4_isFull [.inr (some a_12)] h_6 0 0 (fun x_10 h_11 => (x_10 = 0 → bz_rR h_11 a0 11 0 (fun r_13 => bz_nn r_13 (fun a_14 => bz_rR h_11 a_14 10 1 (fun r_15 => bz_nn r_15 (fun a_18 => bz_rc h_11 a_18 4 (bz_cI G l d kX4_add [.inr (some a_18), .inl x1, .inl x2, .inl 0] h_11 0 0 (fun x_16 h_17 => F (some (.inl (x_16 - 1))) h_17))))))) ∧ (¬ (x_10 = 0) → bz_rc h_11 a0 11 (bz_cI G l d kX11_finding [.inr (some a0), .inl (-1000002)] h_11 0 0 (fun x_19 h_20 => F (some (.inl x_19)) h_20)))))))))) ∧ (x_5 = 0 → bz_rc h_6 a0 11 (bz_cI G l d kX11_finding [.inr (some a0), .inl (-1000001)] h_6 0 0 (fun x_21 h_22 => F (some (.inl x_21)) h_22))))))
set_option maxRecDepth 20000 in
set_option maxHeartbeats 4000000 in
theorem g_X11_kitchen_0 {G : bz_G} {κ : bz_K} {l : Launch} {d : Nat} {F : Option bz_V → bz_H → Prop} {bc bs : Nat} (hl : κ.2.1 = l) (a0 : Nat) (x1 : Int32) (x2 : Int32) (h : bz_H) (hP0 : w_X11_kitchen_0 G l d F a0 x1 x2 h) : bz_J G κ kX11_kitchen (d + 1) F bc bs 0 [some (.inr (some a0)), some (.inl x1), some (.inl x2)] [] h := by
  subst hl
  unfold w_X11_kitchen_0 at hP0
  refine bz_iload_n (pc := 0) dX11_kitchen_0 rfl rfl ?_
  refine bz_kIS (as := [.inl x1]) (st := []) (n := 1) (mc := 0) (ms := 0) (bc := bc) (bs := bs) (yc := kX11_isCrossing) (pc := 1) dX11_kitchen_1 sc_X11_isCrossing ml_X11_70 ss_X11_isCrossing rfl (Nat.le_of_ble_eq_true rfl) hP0 (fun x_1 h_2 hP1 => ?_)
  clear hP0
  refine bz_if_eq (tgt := 17) (pc := 4) dX11_kitchen_4 rfl (fun c => ?_) (fun c => ?_)
  · have hP2 := hP1.1 c
    clear hP1
    refine bz_aload_n (pc := 17) dX11_kitchen_17 rfl rfl ?_
    refine bz_ldc (pc := 18) dX11_kitchen_18 ct_X11_78 ?_
    refine bz_kIV (as := [.inl (-1000001)]) (st := []) (ci := 11) (n := 1) (mc := 0) (ms := 0) (bc := bc) (bs := bs) (yc := kX11_finding) (q := (RX11, TX11, 9)) (b := a0) (pc := 20) dX11_kitchen_20 sc_X11_finding ml_X11_79 im_X11_finding se_X11_finding rfl rfl rfl (Nat.le_of_ble_eq_true rfl) hP2 (fun x_3 h_4 hP3 => ?_)
    clear hP2
    exact bz_retI (pc := 23) dX11_kitchen_23 rfl rfl hP3
  · have hP4 := hP1.2 c
    clear hP1
    refine bz_iload_n (pc := 7) dX11_kitchen_7 rfl rfl ?_
    refine bz_iconst (pc := 8) dX11_kitchen_8 ci_1 ?_
    refine bz_bipush (pc := 9) dX11_kitchen_9 cb_60 ?_
    refine bz_kIS (as := [.inl x2, .inl 1, .inl 60]) (st := []) (n := 3) (mc := 0) (ms := 0) (bc := bc) (bs := bs) (yc := kX11_isWithin) (pc := 11) dX11_kitchen_11 sc_X11_isWithin ml_X11_74 ss_X11_isWithin rfl (Nat.le_of_ble_eq_true rfl) hP4 (fun x_5 h_6 hP5 => ?_)
    clear hP4
    refine bz_if_ne (tgt := 24) (pc := 14) dX11_kitchen_14 rfl (fun c => ?_) (fun c => ?_)
    · have hP6 := hP5.1 c
      clear hP5
      refine bz_aload_n (pc := 24) dX11_kitchen_24 rfl rfl ?_
      refine bz_rw_rR (pc := 25) dX11_kitchen_25 fl_X11_12 hP6 (fun r_7 hP7 => ?_)
      clear hP6
      obtain ⟨a_8, rfl, hP8⟩ := hP7
      refine bz_rw_rR (pc := 28) dX11_kitchen_28 fl_X11_108 hP8 (fun r_9 hP9 => ?_)
      clear hP8
      obtain ⟨a_12, rfl, hP10⟩ := hP9
      refine bz_kIV (as := []) (st := []) (ci := 4) (n := 0) (mc := 0) (ms := 0) (bc := bc) (bs := bs) (yc := kX4_isFull) (q := (RX4, TX4, 2)) (b := a_12) (pc := 31) dX11_kitchen_31 sc_X4_isFull ml_X11_112 im_X4_isFull se_X4_isFull rfl rfl rfl (Nat.le_of_ble_eq_true rfl) hP10 (fun x_10 h_11 hP11 => ?_)
      clear hP10
      refine bz_if_eq (tgt := 44) (pc := 34) dX11_kitchen_34 rfl (fun c => ?_) (fun c => ?_)
      · have hP12 := hP11.1 c
        clear hP11
        refine bz_aload_n (pc := 44) dX11_kitchen_44 rfl rfl ?_
        refine bz_rw_rR (pc := 45) dX11_kitchen_45 fl_X11_12 hP12 (fun r_13 hP13 => ?_)
        clear hP12
        obtain ⟨a_14, rfl, hP14⟩ := hP13
        refine bz_rw_rR (pc := 48) dX11_kitchen_48 fl_X11_108 hP14 (fun r_15 hP15 => ?_)
        clear hP14
        refine bz_iload_n (pc := 51) dX11_kitchen_51 rfl rfl ?_
        refine bz_iload_n (pc := 52) dX11_kitchen_52 rfl rfl ?_
        refine bz_iconst (pc := 53) dX11_kitchen_53 ci_0 ?_
        obtain ⟨a_18, rfl, hP16⟩ := hP15
        refine bz_kIV (as := [.inl x1, .inl x2, .inl 0]) (st := []) (ci := 4) (n := 3) (mc := 0) (ms := 0) (bc := bc) (bs := bs) (yc := kX4_add) (q := (RX4, TX4, 2)) (b := a_18) (pc := 54) dX11_kitchen_54 sc_X4_add ml_X11_119 im_X4_add se_X4_add rfl rfl rfl (Nat.le_of_ble_eq_true rfl) hP16 (fun x_16 h_17 hP17 => ?_)
        clear hP16
        refine bz_iconst (pc := 57) dX11_kitchen_57 ci_1 ?_
        refine bz_isub (pc := 58) dX11_kitchen_58 ?_
        exact bz_retI (pc := 59) dX11_kitchen_59 rfl rfl hP17
      · have hP18 := hP11.2 c
        clear hP11
        refine bz_aload_n (pc := 37) dX11_kitchen_37 rfl rfl ?_
        refine bz_ldc (pc := 38) dX11_kitchen_38 ct_X11_118 ?_
        refine bz_kIV (as := [.inl (-1000002)]) (st := []) (ci := 11) (n := 1) (mc := 0) (ms := 0) (bc := bc) (bs := bs) (yc := kX11_finding) (q := (RX11, TX11, 9)) (b := a0) (pc := 40) dX11_kitchen_40 sc_X11_finding ml_X11_79 im_X11_finding se_X11_finding rfl rfl rfl (Nat.le_of_ble_eq_true rfl) hP18 (fun x_19 h_20 hP19 => ?_)
        clear hP18
        exact bz_retI (pc := 43) dX11_kitchen_43 rfl rfl hP19
    · have hP20 := hP5.2 c
      clear hP5
      refine bz_aload_n (pc := 17) dX11_kitchen_17 rfl rfl ?_
      refine bz_ldc (pc := 18) dX11_kitchen_18 ct_X11_78 ?_
      refine bz_kIV (as := [.inl (-1000001)]) (st := []) (ci := 11) (n := 1) (mc := 0) (ms := 0) (bc := bc) (bs := bs) (yc := kX11_finding) (q := (RX11, TX11, 9)) (b := a0) (pc := 20) dX11_kitchen_20 sc_X11_finding ml_X11_79 im_X11_finding se_X11_finding rfl rfl rfl (Nat.le_of_ble_eq_true rfl) hP20 (fun x_21 h_22 hP21 => ?_)
      clear hP20
      exact bz_retI (pc := 23) dX11_kitchen_23 rfl rfl hP21
theorem m_X11_kitchen {G : bz_G} {l : Launch} {d mc ms : Nat} {F : Option bz_V → bz_H → Prop} (a0 : Nat) (x1 : Int32) (x2 : Int32) (h : bz_H) (hP : w_X11_kitchen_0 G l d F a0 x1 x2 h) : bz_Call G l (d + 1) kX11_kitchen [.inr (some a0), .inl x1, .inl x2] h mc ms F :=
  bz_body (by decide) (Nat.le_of_ble_eq_true rfl) (fun κ hl => g_X11_kitchen_0 hl a0 x1 x2 h hP)
def w_X11_lacks_0 (G : bz_G) (l : Launch) (d : Nat) (F : Option bz_V → bz_H → Prop) (a0 : Nat) (x1 : Int32) (x2 : Int32) (h : bz_H) : Prop := bz_rR h a0 11 0 (fun r_1 => bz_nn r_1 (fun a_4 => bz_rc h a_4 10 (bz_cR G l d kX10_orderAt [.inr (some a_4), .inl x1] h 0 0 (fun r_2 h_3 => (r_2 = none → bz_rc h_3 a0 11 (bz_cI G l d kX11_finding [.inr (some a0), .inl (-1000001)] h_3 0 0 (fun x_6 h_7 => F (some (.inl x_6)) h_7))) ∧ (∀ a_5, r_2 = some a_5 → bz_cI G l d kX11_isWithin [.inl x2, .inl 0, .inl 2] h_3 0 0 (fun x_8 h_9 => (¬ x_8 = 0 → bz_rI h_9 a_5 2 7 (fun x_10 => (¬ x_10 = 1 → bz_rc h_9 a0 11 (bz_cI G l d kX11_finding [.inr (some a0), .inl (-1000004)] h_9 0 0 (fun x_11 h_12 => F (some (.inl x_11)) h_12))) ∧ (x_10 = 1 → bz_rc h_9 a_5 2 (bz_cI G l d kX2_lackBy [.inr (some a_5), .inl x2] h_9 0 0 (fun x_13 h_14 => F (some (.inl x_13)) h_14))))) ∧ (x_8 = 0 → bz_rc h_9 a0 11 (bz_cI G l d kX11_finding [.inr (some a0), .inl (-1000001)] h_9 0 0 (fun x_15 h_16 => F (some (.inl x_15)) h_16)))))))))
set_option maxRecDepth 20000 in
set_option maxHeartbeats 4000000 in
theorem g_X11_lacks_0 {G : bz_G} {κ : bz_K} {l : Launch} {d : Nat} {F : Option bz_V → bz_H → Prop} {bc bs : Nat} (hl : κ.2.1 = l) (a0 : Nat) (x1 : Int32) (x2 : Int32) (h : bz_H) (hP0 : w_X11_lacks_0 G l d F a0 x1 x2 h) : bz_J G κ kX11_lacks (d + 1) F bc bs 0 [some (.inr (some a0)), some (.inl x1), some (.inl x2), none] [] h := by
  subst hl
  unfold w_X11_lacks_0 at hP0
  refine bz_aload_n (pc := 0) dX11_lacks_0 rfl rfl ?_
  refine bz_rw_rR (pc := 1) dX11_lacks_1 fl_X11_12 hP0 (fun r_1 hP1 => ?_)
  clear hP0
  refine bz_iload_n (pc := 4) dX11_lacks_4 rfl rfl ?_
  obtain ⟨a_4, rfl, hP2⟩ := hP1
  refine bz_kRV (as := [.inl x1]) (st := []) (ci := 10) (n := 1) (mc := 0) (ms := 0) (bc := bc) (bs := bs) (yc := kX10_orderAt) (q := (RX10, TX10, 16)) (b := a_4) (pc := 5) dX11_lacks_5 sc_X10_orderAt ml_X11_132 im_X10_orderAt se_X10_orderAt rfl rfl rfl (Nat.le_of_ble_eq_true rfl) hP2 (fun r_2 h_3 hP3 => ?_)
  clear hP2
  refine bz_s_astore_n (pc := 8) dX11_lacks_8 rfl (Nat.le_of_ble_eq_true rfl) [some (.inr (some a0)), some (.inl x1), some (.inl x2), some (.inr r_2)] rfl ?_
  refine bz_aload_n (pc := 9) dX11_lacks_9 rfl rfl ?_
  refine bz_ifnull (tgt := 22) (pc := 10) dX11_lacks_10 rfl (fun c => ?_) (fun a_5 c => ?_)
  · have hP4 := hP3.1 c
    clear hP3
    subst c
    refine bz_aload_n (pc := 22) dX11_lacks_22 rfl rfl ?_
    refine bz_ldc (pc := 23) dX11_lacks_23 ct_X11_78 ?_
    refine bz_kIV (as := [.inl (-1000001)]) (st := []) (ci := 11) (n := 1) (mc := 0) (ms := 0) (bc := bc) (bs := bs) (yc := kX11_finding) (q := (RX11, TX11, 9)) (b := a0) (pc := 25) dX11_lacks_25 sc_X11_finding ml_X11_79 im_X11_finding se_X11_finding rfl rfl rfl (Nat.le_of_ble_eq_true rfl) hP4 (fun x_6 h_7 hP5 => ?_)
    clear hP4
    exact bz_retI (pc := 28) dX11_lacks_28 rfl rfl hP5
  · have hP6 := hP3.2 a_5 c
    clear hP3
    subst c
    refine bz_iload_n (pc := 13) dX11_lacks_13 rfl rfl ?_
    refine bz_iconst (pc := 14) dX11_lacks_14 ci_0 ?_
    refine bz_iconst (pc := 15) dX11_lacks_15 ci_2 ?_
    refine bz_kIS (as := [.inl x2, .inl 0, .inl 2]) (st := []) (n := 3) (mc := 0) (ms := 0) (bc := bc) (bs := bs) (yc := kX11_isWithin) (pc := 16) dX11_lacks_16 sc_X11_isWithin ml_X11_74 ss_X11_isWithin rfl (Nat.le_of_ble_eq_true rfl) hP6 (fun x_8 h_9 hP7 => ?_)
    clear hP6
    refine bz_if_ne (tgt := 29) (pc := 19) dX11_lacks_19 rfl (fun c => ?_) (fun c => ?_)
    · have hP8 := hP7.1 c
      clear hP7
      refine bz_aload_n (pc := 29) dX11_lacks_29 rfl rfl ?_
      refine bz_rw_rI (pc := 30) dX11_lacks_30 fl_X11_136 hP8 (fun x_10 hP9 => ?_)
      clear hP8
      refine bz_iconst (pc := 33) dX11_lacks_33 ci_1 ?_
      refine bz_icmp_ne (tgt := 45) (pc := 34) dX11_lacks_34 rfl (fun c => ?_) (fun c => ?_)
      · have hP10 := hP9.1 c
        clear hP9
        refine bz_aload_n (pc := 45) dX11_lacks_45 rfl rfl ?_
        refine bz_ldc (pc := 46) dX11_lacks_46 ct_X11_102 ?_
        refine bz_kIV (as := [.inl (-1000004)]) (st := []) (ci := 11) (n := 1) (mc := 0) (ms := 0) (bc := bc) (bs := bs) (yc := kX11_finding) (q := (RX11, TX11, 9)) (b := a0) (pc := 48) dX11_lacks_48 sc_X11_finding ml_X11_79 im_X11_finding se_X11_finding rfl rfl rfl (Nat.le_of_ble_eq_true rfl) hP10 (fun x_11 h_12 hP11 => ?_)
        clear hP10
        exact bz_retI (pc := 51) dX11_lacks_51 rfl rfl hP11
      · have hP12 := hP9.2 c
        clear hP9
        refine bz_aload_n (pc := 37) dX11_lacks_37 rfl rfl ?_
        refine bz_iload_n (pc := 38) dX11_lacks_38 rfl rfl ?_
        refine bz_kIV (as := [.inl x2]) (st := []) (ci := 2) (n := 1) (mc := 0) (ms := 0) (bc := bc) (bs := bs) (yc := kX2_lackBy) (q := (RX2, TX2, 15)) (b := a_5) (pc := 39) dX11_lacks_39 sc_X2_lackBy ml_X11_334 im_X2_lackBy se_X2_lackBy rfl rfl rfl (Nat.le_of_ble_eq_true rfl) hP12 (fun x_13 h_14 hP13 => ?_)
        clear hP12
        refine bz_goto (tgt := 51) (pc := 42) dX11_lacks_42 rfl ?_
        exact bz_retI (pc := 51) dX11_lacks_51 rfl rfl hP13
    · have hP14 := hP7.2 c
      clear hP7
      refine bz_aload_n (pc := 22) dX11_lacks_22 rfl rfl ?_
      refine bz_ldc (pc := 23) dX11_lacks_23 ct_X11_78 ?_
      refine bz_kIV (as := [.inl (-1000001)]) (st := []) (ci := 11) (n := 1) (mc := 0) (ms := 0) (bc := bc) (bs := bs) (yc := kX11_finding) (q := (RX11, TX11, 9)) (b := a0) (pc := 25) dX11_lacks_25 sc_X11_finding ml_X11_79 im_X11_finding se_X11_finding rfl rfl rfl (Nat.le_of_ble_eq_true rfl) hP14 (fun x_15 h_16 hP15 => ?_)
      clear hP14
      exact bz_retI (pc := 28) dX11_lacks_28 rfl rfl hP15
theorem m_X11_lacks {G : bz_G} {l : Launch} {d mc ms : Nat} {F : Option bz_V → bz_H → Prop} (a0 : Nat) (x1 : Int32) (x2 : Int32) (h : bz_H) (hP : w_X11_lacks_0 G l d F a0 x1 x2 h) : bz_Call G l (d + 1) kX11_lacks [.inr (some a0), .inl x1, .inl x2] h mc ms F :=
  bz_body (by decide) (Nat.le_of_ble_eq_true rfl) (fun κ hl => g_X11_lacks_0 hl a0 x1 x2 h hP)
def w_X11_law_0 (G : bz_G) (l : Launch) (d : Nat) (F : Option bz_V → bz_H → Prop) (a0 : Nat) (x1 : Int32) (h : bz_H) : Prop := bz_cI G l d kX11_isWithin [.inl x1, .inl 0, .inl 999] h 0 0 (fun x_1 h_2 => (¬ x_1 = 0 → bz_rR h_2 a0 11 0 (fun r_3 => bz_nn r_3 (fun a_4 => bz_rI h_2 a_4 10 15 (fun x_5 => bz_rR h_2 a0 11 0 (fun r_6 => bz_nn r_6 (fun a_7 => bz_wI h_2 a_7 10 15 x1 (fun h_8 => F (some (.inl x_5)) h_8))))))) ∧ (x_1 = 0 → bz_rc h_2 a0 11 (bz_cI G l d kX11_finding [.inr (some a0), .inl (-1000001)] h_2 0 0 (fun x_9 h_10 => F (some (.inl x_9)) h_10))))
set_option maxRecDepth 20000 in
set_option maxHeartbeats 4000000 in
theorem g_X11_law_0 {G : bz_G} {κ : bz_K} {l : Launch} {d : Nat} {F : Option bz_V → bz_H → Prop} {bc bs : Nat} (hl : κ.2.1 = l) (a0 : Nat) (x1 : Int32) (h : bz_H) (hP0 : w_X11_law_0 G l d F a0 x1 h) : bz_J G κ kX11_law (d + 1) F bc bs 0 [some (.inr (some a0)), some (.inl x1), none] [] h := by
  subst hl
  unfold w_X11_law_0 at hP0
  refine bz_iload_n (pc := 0) dX11_law_0 rfl rfl ?_
  refine bz_iconst (pc := 1) dX11_law_1 ci_0 ?_
  refine bz_sipush (pc := 2) dX11_law_2 cs_999 ?_
  refine bz_kIS (as := [.inl x1, .inl 0, .inl 999]) (st := []) (n := 3) (mc := 0) (ms := 0) (bc := bc) (bs := bs) (yc := kX11_isWithin) (pc := 5) dX11_law_5 sc_X11_isWithin ml_X11_74 ss_X11_isWithin rfl (Nat.le_of_ble_eq_true rfl) hP0 (fun x_1 h_2 hP1 => ?_)
  clear hP0
  refine bz_if_ne (tgt := 18) (pc := 8) dX11_law_8 rfl (fun c => ?_) (fun c => ?_)
  · have hP2 := hP1.1 c
    clear hP1
    refine bz_aload_n (pc := 18) dX11_law_18 rfl rfl ?_
    refine bz_rw_rR (pc := 19) dX11_law_19 fl_X11_12 hP2 (fun r_3 hP3 => ?_)
    clear hP2
    obtain ⟨a_4, rfl, hP4⟩ := hP3
    refine bz_rw_rI (pc := 22) dX11_law_22 fl_X11_319 hP4 (fun x_5 hP5 => ?_)
    clear hP4
    refine bz_s_istore_n (pc := 25) dX11_law_25 rfl (Nat.le_of_ble_eq_true rfl) [some (.inr (some a0)), some (.inl x1), some (.inl x_5)] rfl ?_
    refine bz_aload_n (pc := 26) dX11_law_26 rfl rfl ?_
    refine bz_rw_rR (pc := 27) dX11_law_27 fl_X11_12 hP5 (fun r_6 hP6 => ?_)
    clear hP5
    refine bz_iload_n (pc := 30) dX11_law_30 rfl rfl ?_
    obtain ⟨a_7, rfl, hP7⟩ := hP6
    refine bz_rw_wI (pc := 31) dX11_law_31 fl_X11_319 (fun q h9 => by cases h9; rfl) rfl hP7 (fun h_8 hP8 => ?_)
    clear hP7
    refine bz_iload_n (pc := 34) dX11_law_34 rfl rfl ?_
    exact bz_retI (pc := 35) dX11_law_35 rfl rfl hP8
  · have hP9 := hP1.2 c
    clear hP1
    refine bz_aload_n (pc := 11) dX11_law_11 rfl rfl ?_
    refine bz_ldc (pc := 12) dX11_law_12 ct_X11_78 ?_
    refine bz_kIV (as := [.inl (-1000001)]) (st := []) (ci := 11) (n := 1) (mc := 0) (ms := 0) (bc := bc) (bs := bs) (yc := kX11_finding) (q := (RX11, TX11, 9)) (b := a0) (pc := 14) dX11_law_14 sc_X11_finding ml_X11_79 im_X11_finding se_X11_finding rfl rfl rfl (Nat.le_of_ble_eq_true rfl) hP9 (fun x_9 h_10 hP10 => ?_)
    clear hP9
    exact bz_retI (pc := 17) dX11_law_17 rfl rfl hP10
theorem m_X11_law {G : bz_G} {l : Launch} {d mc ms : Nat} {F : Option bz_V → bz_H → Prop} (a0 : Nat) (x1 : Int32) (h : bz_H) (hP : w_X11_law_0 G l d F a0 x1 h) : bz_Call G l (d + 1) kX11_law [.inr (some a0), .inl x1] h mc ms F :=
  bz_body (by decide) (Nat.le_of_ble_eq_true rfl) (fun κ hl => g_X11_law_0 hl a0 x1 h hP)
def w_X11_least_0 (G : bz_G) (l : Launch) (d : Nat) (F : Option bz_V → bz_H → Prop) (a0 : Nat) (x1 : Int32) (x2 : Int32) (h : bz_H) : Prop := bz_rR h a0 11 0 (fun r_1 => bz_nn r_1 (fun a_4 => bz_rc h a_4 10 (bz_cR G l d kX10_riderAt [.inr (some a_4), .inl x1] h 0 0 (fun r_2 h_3 => (r_2 = none → bz_rc h_3 a0 11 (bz_cI G l d kX11_finding [.inr (some a0), .inl (-1000001)] h_3 0 0 (fun x_6 h_7 => F (some (.inl x_6)) h_7))) ∧ (∀ a_5, r_2 = some a_5 → bz_cI G l d kX11_isWithin [.inl x2, .inl 0, .inl 1] h_3 0 0 (fun x_8 h_9 => (¬ x_8 = 0 → bz_rR h_9 a0 11 0 (fun r_10 => bz_nn r_10 (fun a_13 => bz_rc h_9 a_13 10 (bz_cI G l d kX10_countingOf [.inr (some a_13), .inr (some a_5)] h_9 0 0 (fun x_11 h_12 => (¬ x2 = 0 → bz_rR h_12 a0 11 0 (fun r_14 => bz_nn r_14 (fun a_15 => bz_rI h_12 a_15 10 15 (fun x_16 => bz_rR h_12 a0 11 0 (fun r_17 => bz_nn r_17 (fun a_20 => bz_rc h_12 a_20 10 (bz_cI G l d kX10_payOfRider [.inr (some a_20), .inl x1] h_12 0 0 (fun x_18 h_19 => F (some (.inl (if 0 < ((((x_16 * x_11) + 59) / 60) - x_18) then (((x_16 * x_11) + 59) / 60) - x_18 else 0))) h_19)))))))) ∧ (x2 = 0 → F (some (.inl x_11)) h_12)))))) ∧ (x_8 = 0 → bz_rc h_9 a0 11 (bz_cI G l d kX11_finding [.inr (some a0), .inl (-1000001)] h_9 0 0 (fun x_21 h_22 => F (some (.inl x_21)) h_22)))))))))
set_option maxRecDepth 20000 in
set_option maxHeartbeats 4000000 in
theorem g_X11_least_0 {G : bz_G} {κ : bz_K} {l : Launch} {d : Nat} {F : Option bz_V → bz_H → Prop} {bc bs : Nat} (hl : κ.2.1 = l) (a0 : Nat) (x1 : Int32) (x2 : Int32) (h : bz_H) (hP0 : w_X11_least_0 G l d F a0 x1 x2 h) : bz_J G κ kX11_least (d + 1) F bc bs 0 [some (.inr (some a0)), some (.inl x1), some (.inl x2), none, none, none] [] h := by
  subst hl
  unfold w_X11_least_0 at hP0
  refine bz_aload_n (pc := 0) dX11_least_0 rfl rfl ?_
  refine bz_rw_rR (pc := 1) dX11_least_1 fl_X11_12 hP0 (fun r_1 hP1 => ?_)
  clear hP0
  refine bz_iload_n (pc := 4) dX11_least_4 rfl rfl ?_
  obtain ⟨a_4, rfl, hP2⟩ := hP1
  refine bz_kRV (as := [.inl x1]) (st := []) (ci := 10) (n := 1) (mc := 0) (ms := 0) (bc := bc) (bs := bs) (yc := kX10_riderAt) (q := (RX10, TX10, 16)) (b := a_4) (pc := 5) dX11_least_5 sc_X10_riderAt ml_X11_179 im_X10_riderAt se_X10_riderAt rfl rfl rfl (Nat.le_of_ble_eq_true rfl) hP2 (fun r_2 h_3 hP3 => ?_)
  clear hP2
  refine bz_s_astore_n (pc := 8) dX11_least_8 rfl (Nat.le_of_ble_eq_true rfl) [some (.inr (some a0)), some (.inl x1), some (.inl x2), some (.inr r_2), none, none] rfl ?_
  refine bz_aload_n (pc := 9) dX11_least_9 rfl rfl ?_
  refine bz_ifnull (tgt := 22) (pc := 10) dX11_least_10 rfl (fun c => ?_) (fun a_5 c => ?_)
  · have hP4 := hP3.1 c
    clear hP3
    subst c
    refine bz_aload_n (pc := 22) dX11_least_22 rfl rfl ?_
    refine bz_ldc (pc := 23) dX11_least_23 ct_X11_78 ?_
    refine bz_kIV (as := [.inl (-1000001)]) (st := []) (ci := 11) (n := 1) (mc := 0) (ms := 0) (bc := bc) (bs := bs) (yc := kX11_finding) (q := (RX11, TX11, 9)) (b := a0) (pc := 25) dX11_least_25 sc_X11_finding ml_X11_79 im_X11_finding se_X11_finding rfl rfl rfl (Nat.le_of_ble_eq_true rfl) hP4 (fun x_6 h_7 hP5 => ?_)
    clear hP4
    exact bz_retI (pc := 28) dX11_least_28 rfl rfl hP5
  · have hP6 := hP3.2 a_5 c
    clear hP3
    subst c
    refine bz_iload_n (pc := 13) dX11_least_13 rfl rfl ?_
    refine bz_iconst (pc := 14) dX11_least_14 ci_0 ?_
    refine bz_iconst (pc := 15) dX11_least_15 ci_1 ?_
    refine bz_kIS (as := [.inl x2, .inl 0, .inl 1]) (st := []) (n := 3) (mc := 0) (ms := 0) (bc := bc) (bs := bs) (yc := kX11_isWithin) (pc := 16) dX11_least_16 sc_X11_isWithin ml_X11_74 ss_X11_isWithin rfl (Nat.le_of_ble_eq_true rfl) hP6 (fun x_8 h_9 hP7 => ?_)
    clear hP6
    refine bz_if_ne (tgt := 29) (pc := 19) dX11_least_19 rfl (fun c => ?_) (fun c => ?_)
    · have hP8 := hP7.1 c
      clear hP7
      refine bz_aload_n (pc := 29) dX11_least_29 rfl rfl ?_
      refine bz_rw_rR (pc := 30) dX11_least_30 fl_X11_12 hP8 (fun r_10 hP9 => ?_)
      clear hP8
      refine bz_aload_n (pc := 33) dX11_least_33 rfl rfl ?_
      obtain ⟨a_13, rfl, hP10⟩ := hP9
      refine bz_kIV (as := [.inr (some a_5)]) (st := []) (ci := 10) (n := 1) (mc := 0) (ms := 0) (bc := bc) (bs := bs) (yc := kX10_countingOf) (q := (RX10, TX10, 16)) (b := a_13) (pc := 34) dX11_least_34 sc_X10_countingOf ml_X11_325 im_X10_countingOf se_X10_countingOf rfl rfl rfl (Nat.le_of_ble_eq_true rfl) hP10 (fun x_11 h_12 hP11 => ?_)
      clear hP10
      refine bz_s_istore (pc := 37) dX11_least_37 (Nat.le_of_ble_eq_true rfl) [some (.inr (some a0)), some (.inl x1), some (.inl x2), some (.inr (some a_5)), some (.inl x_11), none] rfl ?_
      refine bz_iload_n (pc := 39) dX11_least_39 rfl rfl ?_
      refine bz_if_ne (tgt := 46) (pc := 40) dX11_least_40 rfl (fun c => ?_) (fun c => ?_)
      · have hP12 := hP11.1 c
        clear hP11
        refine bz_aload_n (pc := 46) dX11_least_46 rfl rfl ?_
        refine bz_rw_rR (pc := 47) dX11_least_47 fl_X11_12 hP12 (fun r_14 hP13 => ?_)
        clear hP12
        obtain ⟨a_15, rfl, hP14⟩ := hP13
        refine bz_rw_rI (pc := 50) dX11_least_50 fl_X11_319 hP14 (fun x_16 hP15 => ?_)
        clear hP14
        refine bz_iload (pc := 53) dX11_least_53 rfl ?_
        refine bz_imul (pc := 55) dX11_least_55 ?_
        refine bz_bipush (pc := 56) dX11_least_56 cb_59 ?_
        refine bz_iadd (pc := 58) dX11_least_58 ?_
        refine bz_bipush (pc := 59) dX11_least_59 cb_60 ?_
        refine bz_idiv (pc := 61) dX11_least_61 (by decide) ?_
        refine bz_s_istore (pc := 62) dX11_least_62 (Nat.le_of_ble_eq_true rfl) [some (.inr (some a0)), some (.inl x1), some (.inl x2), some (.inr (some a_5)), some (.inl x_11), some (.inl (((x_16 * x_11) + 59) / 60))] rfl ?_
        refine bz_iconst (pc := 64) dX11_least_64 ci_0 ?_
        refine bz_iload (pc := 65) dX11_least_65 rfl ?_
        refine bz_aload_n (pc := 67) dX11_least_67 rfl rfl ?_
        refine bz_rw_rR (pc := 68) dX11_least_68 fl_X11_12 hP15 (fun r_17 hP16 => ?_)
        clear hP15
        refine bz_iload_n (pc := 71) dX11_least_71 rfl rfl ?_
        obtain ⟨a_20, rfl, hP17⟩ := hP16
        refine bz_kIV (as := [.inl x1]) (st := [.inl (((x_16 * x_11) + 59) / 60), .inl 0]) (ci := 10) (n := 1) (mc := 0) (ms := 0) (bc := bc) (bs := bs) (yc := kX10_payOfRider) (q := (RX10, TX10, 16)) (b := a_20) (pc := 72) dX11_least_72 sc_X10_payOfRider ml_X11_200 im_X10_payOfRider se_X10_payOfRider rfl rfl rfl (Nat.le_of_ble_eq_true rfl) hP17 (fun x_18 h_19 hP18 => ?_)
        clear hP17
        refine bz_isub (pc := 75) dX11_least_75 ?_
        refine bz_mmax (pc := 76) dX11_least_76 ml_X11_329 mt_max mt_init mt_code_max (Nat.succ_pos d) (Nat.le_of_ble_eq_true rfl) ?_
        exact bz_retI (pc := 79) dX11_least_79 rfl rfl hP18
      · have hP19 := hP11.2 c
        clear hP11
        refine bz_iload (pc := 43) dX11_least_43 rfl ?_
        exact bz_retI (pc := 45) dX11_least_45 rfl rfl hP19
    · have hP20 := hP7.2 c
      clear hP7
      refine bz_aload_n (pc := 22) dX11_least_22 rfl rfl ?_
      refine bz_ldc (pc := 23) dX11_least_23 ct_X11_78 ?_
      refine bz_kIV (as := [.inl (-1000001)]) (st := []) (ci := 11) (n := 1) (mc := 0) (ms := 0) (bc := bc) (bs := bs) (yc := kX11_finding) (q := (RX11, TX11, 9)) (b := a0) (pc := 25) dX11_least_25 sc_X11_finding ml_X11_79 im_X11_finding se_X11_finding rfl rfl rfl (Nat.le_of_ble_eq_true rfl) hP20 (fun x_21 h_22 hP21 => ?_)
      clear hP20
      exact bz_retI (pc := 28) dX11_least_28 rfl rfl hP21
theorem m_X11_least {G : bz_G} {l : Launch} {d mc ms : Nat} {F : Option bz_V → bz_H → Prop} (a0 : Nat) (x1 : Int32) (x2 : Int32) (h : bz_H) (hP : w_X11_least_0 G l d F a0 x1 x2 h) : bz_Call G l (d + 1) kX11_least [.inr (some a0), .inl x1, .inl x2] h mc ms F :=
  bz_body (by decide) (Nat.le_of_ble_eq_true rfl) (fun κ hl => g_X11_least_0 hl a0 x1 x2 h hP)
