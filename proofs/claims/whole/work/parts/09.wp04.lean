def w_X11_legFor_0 (G : bz_G) (l : Launch) (d : Nat) (F : Option bz_V → bz_H → Prop) (x0 : Int32) (x1 : Int32) (h : bz_H) : Prop := (¬ x1 = (-1) → (x0 = 1 → F (some (.inl (((3 * x1) + 3) / 4))) h) ∧ (¬ x0 = 1 → (x0 = 2 → F (some (.inl (((x1 + 1) / 2) + 3))) h) ∧ (¬ x0 = 2 → (x0 = 3 → F (some (.inl (2 * x1))) h) ∧ (¬ x0 = 3 → (x0 = 4 → (¬ x1 = 0 → F (some (.inl (if 1 < ((((3 * x1) + 3) / 4) - 1) then (((3 * x1) + 3) / 4) - 1 else 1))) h) ∧ (x1 = 0 → F (some (.inl 0)) h)) ∧ (¬ x0 = 4 → (x0 = 5 → F (some (.inl x1)) h) ∧ (¬ x0 = 5 → (x0 = 6 → F (some (.inl (if x1 = 0 then 0 else (2 * x1) + 2))) h) ∧ (¬ x0 = 6 → F (some (.inl x1)) h))))))) ∧ (x1 = (-1) → F (some (.inl (-1))) h)
set_option maxRecDepth 20000 in
set_option maxHeartbeats 4000000 in
theorem g_X11_legFor_0 {G : bz_G} {κ : bz_K} {l : Launch} {d : Nat} {F : Option bz_V → bz_H → Prop} {bc bs : Nat} (hl : κ.2.1 = l) (x0 : Int32) (x1 : Int32) (h : bz_H) (hP0 : w_X11_legFor_0 G l d F x0 x1 h) : bz_J G κ kX11_legFor (d + 1) F bc bs 0 [some (.inl x0), some (.inl x1), none] [] h := by
  subst hl
  unfold w_X11_legFor_0 at hP0
  refine bz_iload_n (pc := 0) dX11_legFor_0 rfl rfl ?_
  refine bz_iconst (pc := 1) dX11_legFor_1 ci_m1 ?_
  refine bz_icmp_ne (tgt := 7) (pc := 2) dX11_legFor_2 rfl (fun c => ?_) (fun c => ?_)
  · have hP1 := hP0.1 c
    clear hP0
    refine bz_iconst (pc := 7) dX11_legFor_7 ci_3 ?_
    refine bz_iload_n (pc := 8) dX11_legFor_8 rfl rfl ?_
    refine bz_imul (pc := 9) dX11_legFor_9 ?_
    refine bz_iconst (pc := 10) dX11_legFor_10 ci_3 ?_
    refine bz_iadd (pc := 11) dX11_legFor_11 ?_
    refine bz_iconst (pc := 12) dX11_legFor_12 ci_4 ?_
    refine bz_idiv (pc := 13) dX11_legFor_13 (by decide) ?_
    refine bz_s_istore_n (pc := 14) dX11_legFor_14 rfl (Nat.le_of_ble_eq_true rfl) [some (.inl x0), some (.inl x1), some (.inl (((3 * x1) + 3) / 4))] rfl ?_
    refine bz_iload_n (pc := 15) dX11_legFor_15 rfl rfl ?_
    refine bz_table (pc := 16) [(1, 40), (2, 42), (3, 50), (4, 54), (5, 84), (6, 70)] dX11_legFor_16 (by decide) (by decide) (by decide) (by decide) (by decide) ?_
    refine ⟨fun c => ?_, fun c => ?_⟩
    · have hP2 := hP1.1 c
      clear hP1
      show bz_J G κ kX11_legFor (d + 1) F bc bs 56 [some (.inl x0), some (.inl x1), some (.inl (((3 * x1) + 3) / 4))] [] h
      refine bz_iload_n (pc := 56) dX11_legFor_56 rfl rfl ?_
      exact bz_retI (pc := 57) dX11_legFor_57 rfl rfl hP2
    · have hP3 := hP1.2 c
      clear hP1
      refine ⟨fun c => ?_, fun c => ?_⟩
      · have hP4 := hP3.1 c
        clear hP3
        show bz_J G κ kX11_legFor (d + 1) F bc bs 58 [some (.inl x0), some (.inl x1), some (.inl (((3 * x1) + 3) / 4))] [] h
        refine bz_iload_n (pc := 58) dX11_legFor_58 rfl rfl ?_
        refine bz_iconst (pc := 59) dX11_legFor_59 ci_1 ?_
        refine bz_iadd (pc := 60) dX11_legFor_60 ?_
        refine bz_iconst (pc := 61) dX11_legFor_61 ci_2 ?_
        refine bz_idiv (pc := 62) dX11_legFor_62 (by decide) ?_
        refine bz_iconst (pc := 63) dX11_legFor_63 ci_3 ?_
        refine bz_iadd (pc := 64) dX11_legFor_64 ?_
        exact bz_retI (pc := 65) dX11_legFor_65 rfl rfl hP4
      · have hP5 := hP3.2 c
        clear hP3
        refine ⟨fun c => ?_, fun c => ?_⟩
        · have hP6 := hP5.1 c
          clear hP5
          show bz_J G κ kX11_legFor (d + 1) F bc bs 66 [some (.inl x0), some (.inl x1), some (.inl (((3 * x1) + 3) / 4))] [] h
          refine bz_iconst (pc := 66) dX11_legFor_66 ci_2 ?_
          refine bz_iload_n (pc := 67) dX11_legFor_67 rfl rfl ?_
          refine bz_imul (pc := 68) dX11_legFor_68 ?_
          exact bz_retI (pc := 69) dX11_legFor_69 rfl rfl hP6
        · have hP7 := hP5.2 c
          clear hP5
          refine ⟨fun c => ?_, fun c => ?_⟩
          · have hP8 := hP7.1 c
            clear hP7
            show bz_J G κ kX11_legFor (d + 1) F bc bs 70 [some (.inl x0), some (.inl x1), some (.inl (((3 * x1) + 3) / 4))] [] h
            refine bz_iload_n (pc := 70) dX11_legFor_70 rfl rfl ?_
            refine bz_if_ne (tgt := 78) (pc := 71) dX11_legFor_71 rfl (fun c => ?_) (fun c => ?_)
            · have hP9 := hP8.1 c
              clear hP8
              refine bz_iconst (pc := 78) dX11_legFor_78 ci_1 ?_
              refine bz_iload_n (pc := 79) dX11_legFor_79 rfl rfl ?_
              refine bz_iconst (pc := 80) dX11_legFor_80 ci_1 ?_
              refine bz_isub (pc := 81) dX11_legFor_81 ?_
              refine bz_mmax (pc := 82) dX11_legFor_82 ml_X11_329 mt_max mt_init mt_code_max (Nat.succ_pos d) (Nat.le_of_ble_eq_true rfl) ?_
              exact bz_retI (pc := 85) dX11_legFor_85 rfl rfl hP9
            · have hP10 := hP8.2 c
              clear hP8
              refine bz_iconst (pc := 74) dX11_legFor_74 ci_0 ?_
              refine bz_goto (tgt := 85) (pc := 75) dX11_legFor_75 rfl ?_
              exact bz_retI (pc := 85) dX11_legFor_85 rfl rfl hP10
          · have hP11 := hP7.2 c
            clear hP7
            refine ⟨fun c => ?_, fun c => ?_⟩
            · have hP12 := hP11.1 c
              clear hP11
              show bz_J G κ kX11_legFor (d + 1) F bc bs 100 [some (.inl x0), some (.inl x1), some (.inl (((3 * x1) + 3) / 4))] [] h
              refine bz_iload_n (pc := 100) dX11_legFor_100 rfl rfl ?_
              exact bz_retI (pc := 101) dX11_legFor_101 rfl rfl hP12
            · have hP13 := hP11.2 c
              clear hP11
              refine ⟨fun c => ?_, fun c => ?_⟩
              · have hP14 := hP13.1 c
                clear hP13
                show bz_J G κ kX11_legFor (d + 1) F bc bs 86 [some (.inl x0), some (.inl x1), some (.inl (((3 * x1) + 3) / 4))] [] h
                refine bz_iload_n (pc := 86) dX11_legFor_86 rfl rfl ?_
                have hJ : bz_J G κ kX11_legFor (d + 1) F bc bs 99 [some (.inl x0), some (.inl x1), some (.inl (((3 * x1) + 3) / 4))] [.inl (if x1 = 0 then 0 else (2 * x1) + 2)] h := by
                  exact bz_retI (pc := 99) dX11_legFor_99 rfl rfl hP14
                refine bz_if_ne (tgt := 94) (pc := 87) dX11_legFor_87 rfl (fun c => ?_) (fun c => ?_)
                · have e9 : ((if x1 = 0 then 0 else (2 * x1) + 2) : Int32) = ((2 * x1) + 2) := if_neg c
                  rw [e9] at hJ
                  refine bz_iconst (pc := 94) dX11_legFor_94 ci_2 ?_
                  refine bz_iload_n (pc := 95) dX11_legFor_95 rfl rfl ?_
                  refine bz_imul (pc := 96) dX11_legFor_96 ?_
                  refine bz_iconst (pc := 97) dX11_legFor_97 ci_2 ?_
                  refine bz_iadd (pc := 98) dX11_legFor_98 ?_
                  exact hJ
                · have e9 : ((if x1 = 0 then 0 else (2 * x1) + 2) : Int32) = (0) := if_pos c
                  rw [e9] at hJ
                  refine bz_iconst (pc := 90) dX11_legFor_90 ci_0 ?_
                  refine bz_goto (tgt := 99) (pc := 91) dX11_legFor_91 rfl ?_
                  exact hJ
              · have hP15 := hP13.2 c
                clear hP13
                show bz_J G κ kX11_legFor (d + 1) F bc bs 100 [some (.inl x0), some (.inl x1), some (.inl (((3 * x1) + 3) / 4))] [] h
                refine bz_iload_n (pc := 100) dX11_legFor_100 rfl rfl ?_
                exact bz_retI (pc := 101) dX11_legFor_101 rfl rfl hP15
  · have hP16 := hP0.2 c
    clear hP0
    refine bz_iconst (pc := 5) dX11_legFor_5 ci_m1 ?_
    exact bz_retI (pc := 6) dX11_legFor_6 rfl rfl hP16
theorem m_X11_legFor {G : bz_G} {l : Launch} {d mc ms : Nat} {F : Option bz_V → bz_H → Prop} (x0 : Int32) (x1 : Int32) (h : bz_H) (hP : w_X11_legFor_0 G l d F x0 x1 h) : bz_Call G l (d + 1) kX11_legFor [.inl x0, .inl x1] h mc ms F :=
  bz_body (by decide) (Nat.le_of_ble_eq_true rfl) (fun κ hl => g_X11_legFor_0 hl x0 x1 h hP)
def w_X11_minutes_0 (G : bz_G) (l : Launch) (d : Nat) (F : Option bz_V → bz_H → Prop) (a0 : Nat) (x1 : Int32) (h : bz_H) : Prop := bz_cI G l d kX11_isWithin [.inl x1, .inl 1, .inl 600] h 0 0 (fun x_1 h_2 => (¬ x_1 = 0 → bz_rR h_2 a0 11 0 (fun r_3 => bz_nn r_3 (fun a_4 => bz_rI h_2 a_4 10 12 (fun x_5 => ((x_5 + x1) ≤ 1439 → bz_rR h_2 a0 11 0 (fun r_6 => bz_nn r_6 (fun a_7 => bz_rI h_2 a_7 10 12 (fun x_8 => bz_wI h_2 a_7 10 12 (x_8 + x1) (fun h_9 => bz_rR h_9 a0 11 0 (fun r_10 => bz_nn r_10 (fun a_11 => bz_rI h_9 a_11 10 12 (fun x_12 => F (some (.inl x_12)) h_9)))))))) ∧ (¬ ((x_5 + x1) ≤ 1439) → bz_rc h_2 a0 11 (bz_cI G l d kX11_finding [.inr (some a0), .inl (-1000005)] h_2 0 0 (fun x_13 h_14 => F (some (.inl x_13)) h_14))))))) ∧ (x_1 = 0 → bz_rc h_2 a0 11 (bz_cI G l d kX11_finding [.inr (some a0), .inl (-1000001)] h_2 0 0 (fun x_15 h_16 => F (some (.inl x_15)) h_16))))
set_option maxRecDepth 20000 in
set_option maxHeartbeats 4000000 in
theorem g_X11_minutes_0 {G : bz_G} {κ : bz_K} {l : Launch} {d : Nat} {F : Option bz_V → bz_H → Prop} {bc bs : Nat} (hl : κ.2.1 = l) (a0 : Nat) (x1 : Int32) (h : bz_H) (hP0 : w_X11_minutes_0 G l d F a0 x1 h) : bz_J G κ kX11_minutes (d + 1) F bc bs 0 [some (.inr (some a0)), some (.inl x1)] [] h := by
  subst hl
  unfold w_X11_minutes_0 at hP0
  refine bz_iload_n (pc := 0) dX11_minutes_0 rfl rfl ?_
  refine bz_iconst (pc := 1) dX11_minutes_1 ci_1 ?_
  refine bz_sipush (pc := 2) dX11_minutes_2 cs_600 ?_
  refine bz_kIS (as := [.inl x1, .inl 1, .inl 600]) (st := []) (n := 3) (mc := 0) (ms := 0) (bc := bc) (bs := bs) (yc := kX11_isWithin) (pc := 5) dX11_minutes_5 sc_X11_isWithin ml_X11_74 ss_X11_isWithin rfl (Nat.le_of_ble_eq_true rfl) hP0 (fun x_1 h_2 hP1 => ?_)
  clear hP0
  refine bz_if_ne (tgt := 18) (pc := 8) dX11_minutes_8 rfl (fun c => ?_) (fun c => ?_)
  · have hP2 := hP1.1 c
    clear hP1
    refine bz_aload_n (pc := 18) dX11_minutes_18 rfl rfl ?_
    refine bz_rw_rR (pc := 19) dX11_minutes_19 fl_X11_12 hP2 (fun r_3 hP3 => ?_)
    clear hP2
    obtain ⟨a_4, rfl, hP4⟩ := hP3
    refine bz_rw_rI (pc := 22) dX11_minutes_22 fl_X11_103 hP4 (fun x_5 hP5 => ?_)
    clear hP4
    refine bz_iload_n (pc := 25) dX11_minutes_25 rfl rfl ?_
    refine bz_iadd (pc := 26) dX11_minutes_26 ?_
    refine bz_sipush (pc := 27) dX11_minutes_27 cs_1439 ?_
    refine bz_icmp_le (tgt := 40) (pc := 30) dX11_minutes_30 rfl (fun c => ?_) (fun c => ?_)
    · have hP6 := hP5.1 c
      clear hP5
      refine bz_aload_n (pc := 40) dX11_minutes_40 rfl rfl ?_
      refine bz_rw_rR (pc := 41) dX11_minutes_41 fl_X11_12 hP6 (fun r_6 hP7 => ?_)
      clear hP6
      refine bz_dup (pc := 44) dX11_minutes_44 ?_
      obtain ⟨a_7, rfl, hP8⟩ := hP7
      refine bz_rw_rI (pc := 45) dX11_minutes_45 fl_X11_103 hP8 (fun x_8 hP9 => ?_)
      clear hP8
      refine bz_iload_n (pc := 48) dX11_minutes_48 rfl rfl ?_
      refine bz_iadd (pc := 49) dX11_minutes_49 ?_
      refine bz_rw_wI (pc := 50) dX11_minutes_50 fl_X11_103 (fun q h9 => by cases h9; rfl) rfl hP9 (fun h_9 hP10 => ?_)
      clear hP9
      refine bz_aload_n (pc := 53) dX11_minutes_53 rfl rfl ?_
      refine bz_rw_rR (pc := 54) dX11_minutes_54 fl_X11_12 hP10 (fun r_10 hP11 => ?_)
      clear hP10
      obtain ⟨a_11, rfl, hP12⟩ := hP11
      refine bz_rw_rI (pc := 57) dX11_minutes_57 fl_X11_103 hP12 (fun x_12 hP13 => ?_)
      clear hP12
      exact bz_retI (pc := 60) dX11_minutes_60 rfl rfl hP13
    · have hP14 := hP5.2 c
      clear hP5
      refine bz_aload_n (pc := 33) dX11_minutes_33 rfl rfl ?_
      refine bz_ldc (pc := 34) dX11_minutes_34 ct_X11_107 ?_
      refine bz_kIV (as := [.inl (-1000005)]) (st := []) (ci := 11) (n := 1) (mc := 0) (ms := 0) (bc := bc) (bs := bs) (yc := kX11_finding) (q := (RX11, TX11, 9)) (b := a0) (pc := 36) dX11_minutes_36 sc_X11_finding ml_X11_79 im_X11_finding se_X11_finding rfl rfl rfl (Nat.le_of_ble_eq_true rfl) hP14 (fun x_13 h_14 hP15 => ?_)
      clear hP14
      exact bz_retI (pc := 39) dX11_minutes_39 rfl rfl hP15
  · have hP16 := hP1.2 c
    clear hP1
    refine bz_aload_n (pc := 11) dX11_minutes_11 rfl rfl ?_
    refine bz_ldc (pc := 12) dX11_minutes_12 ct_X11_78 ?_
    refine bz_kIV (as := [.inl (-1000001)]) (st := []) (ci := 11) (n := 1) (mc := 0) (ms := 0) (bc := bc) (bs := bs) (yc := kX11_finding) (q := (RX11, TX11, 9)) (b := a0) (pc := 14) dX11_minutes_14 sc_X11_finding ml_X11_79 im_X11_finding se_X11_finding rfl rfl rfl (Nat.le_of_ble_eq_true rfl) hP16 (fun x_15 h_16 hP17 => ?_)
    clear hP16
    exact bz_retI (pc := 17) dX11_minutes_17 rfl rfl hP17
theorem m_X11_minutes {G : bz_G} {l : Launch} {d mc ms : Nat} {F : Option bz_V → bz_H → Prop} (a0 : Nat) (x1 : Int32) (h : bz_H) (hP : w_X11_minutes_0 G l d F a0 x1 h) : bz_Call G l (d + 1) kX11_minutes [.inr (some a0), .inl x1] h mc ms F :=
  bz_body (by decide) (Nat.le_of_ble_eq_true rfl) (fun κ hl => g_X11_minutes_0 hl a0 x1 h hP)
def w_X11_night_0 (G : bz_G) (l : Launch) (d : Nat) (F : Option bz_V → bz_H → Prop) (a0 : Nat) (x1 : Int32) (x2 : Int32) (h : bz_H) : Prop := bz_rR h a0 11 0 (fun r_1 => bz_nn r_1 (fun a_4 => bz_rc h a_4 10 (bz_cR G l d kX10_textAt [.inr (some a_4), .inl x1] h 0 0 (fun r_2 h_3 => (r_2 = none → bz_rc h_3 a0 11 (bz_cI G l d kX11_finding [.inr (some a0), .inl (-1000001)] h_3 0 0 (fun x_6 h_7 => F (some (.inl x_6)) h_7))) ∧ (∀ a_5, r_2 = some a_5 → bz_cI G l d kX11_isWithin [.inl x2, .inl 0, .inl 4] h_3 0 0 (fun x_8 h_9 => (¬ x_8 = 0 → bz_rR h_9 a0 11 8 (fun r_10 => bz_nn r_10 (fun a_13 => bz_rc h_9 a_13 1 (bz_cV G l d kX1_passBy [.inr (some a_13), .inr (some a_5)] h_9 0 0 (fun h_12 => (x2 = 0 → bz_rR h_12 a0 11 8 (fun r_14 => bz_nn r_14 (fun a_15 => bz_rI h_12 a_15 1 7 (fun x_16 => F (some (.inl x_16)) h_12)))) ∧ (¬ x2 = 0 → (x2 = 1 → bz_rR h_12 a0 11 8 (fun r_17 => bz_nn r_17 (fun a_18 => bz_rI h_12 a_18 1 8 (fun x_19 => F (some (.inl x_19)) h_12)))) ∧ (¬ x2 = 1 → (x2 = 2 → bz_rR h_12 a0 11 8 (fun r_20 => bz_nn r_20 (fun a_23 => bz_rc h_12 a_23 1 (bz_cI G l d kX1_mostGiven [.inr (some a_23)] h_12 0 0 (fun x_21 h_22 => F (some (.inl x_21)) h_22))))) ∧ (¬ x2 = 2 → (x2 = 3 → bz_rR h_12 a0 11 8 (fun r_24 => bz_nn r_24 (fun a_27 => bz_rc h_12 a_27 1 (bz_cI G l d kX1_fewestGiven [.inr (some a_27)] h_12 0 0 (fun x_25 h_26 => F (some (.inl x_25)) h_26))))) ∧ (¬ x2 = 3 → bz_rR h_12 a0 11 8 (fun r_28 => bz_nn r_28 (fun a_29 => bz_rI h_12 a_29 1 9 (fun x_30 => F (some (.inl x_30)) h_12)))))))))))) ∧ (x_8 = 0 → bz_rc h_9 a0 11 (bz_cI G l d kX11_finding [.inr (some a0), .inl (-1000001)] h_9 0 0 (fun x_31 h_32 => F (some (.inl x_31)) h_32)))))))))
set_option maxRecDepth 20000 in
set_option maxHeartbeats 4000000 in
theorem g_X11_night_0 {G : bz_G} {κ : bz_K} {l : Launch} {d : Nat} {F : Option bz_V → bz_H → Prop} {bc bs : Nat} (hl : κ.2.1 = l) (a0 : Nat) (x1 : Int32) (x2 : Int32) (h : bz_H) (hP0 : w_X11_night_0 G l d F a0 x1 x2 h) : bz_J G κ kX11_night (d + 1) F bc bs 0 [some (.inr (some a0)), some (.inl x1), some (.inl x2), none] [] h := by
  subst hl
  unfold w_X11_night_0 at hP0
  refine bz_aload_n (pc := 0) dX11_night_0 rfl rfl ?_
  refine bz_rw_rR (pc := 1) dX11_night_1 fl_X11_12 hP0 (fun r_1 hP1 => ?_)
  clear hP0
  refine bz_iload_n (pc := 4) dX11_night_4 rfl rfl ?_
  obtain ⟨a_4, rfl, hP2⟩ := hP1
  refine bz_kRV (as := [.inl x1]) (st := []) (ci := 10) (n := 1) (mc := 0) (ms := 0) (bc := bc) (bs := bs) (yc := kX10_textAt) (q := (RX10, TX10, 16)) (b := a_4) (pc := 5) dX11_night_5 sc_X10_textAt ml_X11_281 im_X10_textAt se_X10_textAt rfl rfl rfl (Nat.le_of_ble_eq_true rfl) hP2 (fun r_2 h_3 hP3 => ?_)
  clear hP2
  refine bz_s_astore_n (pc := 8) dX11_night_8 rfl (Nat.le_of_ble_eq_true rfl) [some (.inr (some a0)), some (.inl x1), some (.inl x2), some (.inr r_2)] rfl ?_
  refine bz_aload_n (pc := 9) dX11_night_9 rfl rfl ?_
  refine bz_ifnull (tgt := 22) (pc := 10) dX11_night_10 rfl (fun c => ?_) (fun a_5 c => ?_)
  · have hP4 := hP3.1 c
    clear hP3
    subst c
    refine bz_aload_n (pc := 22) dX11_night_22 rfl rfl ?_
    refine bz_ldc (pc := 23) dX11_night_23 ct_X11_78 ?_
    refine bz_kIV (as := [.inl (-1000001)]) (st := []) (ci := 11) (n := 1) (mc := 0) (ms := 0) (bc := bc) (bs := bs) (yc := kX11_finding) (q := (RX11, TX11, 9)) (b := a0) (pc := 25) dX11_night_25 sc_X11_finding ml_X11_79 im_X11_finding se_X11_finding rfl rfl rfl (Nat.le_of_ble_eq_true rfl) hP4 (fun x_6 h_7 hP5 => ?_)
    clear hP4
    exact bz_retI (pc := 28) dX11_night_28 rfl rfl hP5
  · have hP6 := hP3.2 a_5 c
    clear hP3
    subst c
    refine bz_iload_n (pc := 13) dX11_night_13 rfl rfl ?_
    refine bz_iconst (pc := 14) dX11_night_14 ci_0 ?_
    refine bz_iconst (pc := 15) dX11_night_15 ci_4 ?_
    refine bz_kIS (as := [.inl x2, .inl 0, .inl 4]) (st := []) (n := 3) (mc := 0) (ms := 0) (bc := bc) (bs := bs) (yc := kX11_isWithin) (pc := 16) dX11_night_16 sc_X11_isWithin ml_X11_74 ss_X11_isWithin rfl (Nat.le_of_ble_eq_true rfl) hP6 (fun x_8 h_9 hP7 => ?_)
    clear hP6
    refine bz_if_ne (tgt := 29) (pc := 19) dX11_night_19 rfl (fun c => ?_) (fun c => ?_)
    · have hP8 := hP7.1 c
      clear hP7
      refine bz_aload_n (pc := 29) dX11_night_29 rfl rfl ?_
      refine bz_rw_rR (pc := 30) dX11_night_30 fl_X11_66 hP8 (fun r_10 hP9 => ?_)
      clear hP8
      refine bz_aload_n (pc := 33) dX11_night_33 rfl rfl ?_
      obtain ⟨a_13, rfl, hP10⟩ := hP9
      refine bz_kVV (as := [.inr (some a_5)]) (st := []) (ci := 1) (n := 1) (mc := 0) (ms := 0) (bc := bc) (bs := bs) (yc := kX1_passBy) (q := (RX1, TX1, 10)) (b := a_13) (pc := 34) dX11_night_34 sc_X1_passBy ml_X11_352 im_X1_passBy se_X1_passBy rfl rfl rfl (Nat.le_of_ble_eq_true rfl) hP10 (fun h_12 hP11 => ?_)
      clear hP10
      refine bz_iload_n (pc := 37) dX11_night_37 rfl rfl ?_
      refine bz_table (pc := 38) [(0, 30), (1, 38), (2, 46), (3, 54)] dX11_night_38 (by decide) (by decide) (by decide) (by decide) (by decide) ?_
      refine ⟨fun c => ?_, fun c => ?_⟩
      · have hP12 := hP11.1 c
        clear hP11
        show bz_J G κ kX11_night (d + 1) F bc bs 68 [some (.inr (some a0)), some (.inl x1), some (.inl x2), some (.inr (some a_5))] [] h_12
        refine bz_aload_n (pc := 68) dX11_night_68 rfl rfl ?_
        refine bz_rw_rR (pc := 69) dX11_night_69 fl_X11_66 hP12 (fun r_14 hP13 => ?_)
        clear hP12
        obtain ⟨a_15, rfl, hP14⟩ := hP13
        refine bz_rw_rI (pc := 72) dX11_night_72 fl_X11_355 hP14 (fun x_16 hP15 => ?_)
        clear hP14
        exact bz_retI (pc := 75) dX11_night_75 rfl rfl hP15
      · have hP16 := hP11.2 c
        clear hP11
        refine ⟨fun c => ?_, fun c => ?_⟩
        · have hP17 := hP16.1 c
          clear hP16
          show bz_J G κ kX11_night (d + 1) F bc bs 76 [some (.inr (some a0)), some (.inl x1), some (.inl x2), some (.inr (some a_5))] [] h_12
          refine bz_aload_n (pc := 76) dX11_night_76 rfl rfl ?_
          refine bz_rw_rR (pc := 77) dX11_night_77 fl_X11_66 hP17 (fun r_17 hP18 => ?_)
          clear hP17
          obtain ⟨a_18, rfl, hP19⟩ := hP18
          refine bz_rw_rI (pc := 80) dX11_night_80 fl_X11_358 hP19 (fun x_19 hP20 => ?_)
          clear hP19
          exact bz_retI (pc := 83) dX11_night_83 rfl rfl hP20
        · have hP21 := hP16.2 c
          clear hP16
          refine ⟨fun c => ?_, fun c => ?_⟩
          · have hP22 := hP21.1 c
            clear hP21
            show bz_J G κ kX11_night (d + 1) F bc bs 84 [some (.inr (some a0)), some (.inl x1), some (.inl x2), some (.inr (some a_5))] [] h_12
            refine bz_aload_n (pc := 84) dX11_night_84 rfl rfl ?_
            refine bz_rw_rR (pc := 85) dX11_night_85 fl_X11_66 hP22 (fun r_20 hP23 => ?_)
            clear hP22
            obtain ⟨a_23, rfl, hP24⟩ := hP23
            refine bz_kIV (as := []) (st := []) (ci := 1) (n := 0) (mc := 0) (ms := 0) (bc := bc) (bs := bs) (yc := kX1_mostGiven) (q := (RX1, TX1, 10)) (b := a_23) (pc := 88) dX11_night_88 sc_X1_mostGiven ml_X11_359 im_X1_mostGiven se_X1_mostGiven rfl rfl rfl (Nat.le_of_ble_eq_true rfl) hP24 (fun x_21 h_22 hP25 => ?_)
            clear hP24
            exact bz_retI (pc := 91) dX11_night_91 rfl rfl hP25
          · have hP26 := hP21.2 c
            clear hP21
            refine ⟨fun c => ?_, fun c => ?_⟩
            · have hP27 := hP26.1 c
              clear hP26
              show bz_J G κ kX11_night (d + 1) F bc bs 92 [some (.inr (some a0)), some (.inl x1), some (.inl x2), some (.inr (some a_5))] [] h_12
              refine bz_aload_n (pc := 92) dX11_night_92 rfl rfl ?_
              refine bz_rw_rR (pc := 93) dX11_night_93 fl_X11_66 hP27 (fun r_24 hP28 => ?_)
              clear hP27
              obtain ⟨a_27, rfl, hP29⟩ := hP28
              refine bz_kIV (as := []) (st := []) (ci := 1) (n := 0) (mc := 0) (ms := 0) (bc := bc) (bs := bs) (yc := kX1_fewestGiven) (q := (RX1, TX1, 10)) (b := a_27) (pc := 96) dX11_night_96 sc_X1_fewestGiven ml_X11_362 im_X1_fewestGiven se_X1_fewestGiven rfl rfl rfl (Nat.le_of_ble_eq_true rfl) hP29 (fun x_25 h_26 hP30 => ?_)
              clear hP29
              exact bz_retI (pc := 99) dX11_night_99 rfl rfl hP30
            · have hP31 := hP26.2 c
              clear hP26
              show bz_J G κ kX11_night (d + 1) F bc bs 100 [some (.inr (some a0)), some (.inl x1), some (.inl x2), some (.inr (some a_5))] [] h_12
              refine bz_aload_n (pc := 100) dX11_night_100 rfl rfl ?_
              refine bz_rw_rR (pc := 101) dX11_night_101 fl_X11_66 hP31 (fun r_28 hP32 => ?_)
              clear hP31
              obtain ⟨a_29, rfl, hP33⟩ := hP32
              refine bz_rw_rI (pc := 104) dX11_night_104 fl_X11_365 hP33 (fun x_30 hP34 => ?_)
              clear hP33
              exact bz_retI (pc := 107) dX11_night_107 rfl rfl hP34
    · have hP35 := hP7.2 c
      clear hP7
      refine bz_aload_n (pc := 22) dX11_night_22 rfl rfl ?_
      refine bz_ldc (pc := 23) dX11_night_23 ct_X11_78 ?_
      refine bz_kIV (as := [.inl (-1000001)]) (st := []) (ci := 11) (n := 1) (mc := 0) (ms := 0) (bc := bc) (bs := bs) (yc := kX11_finding) (q := (RX11, TX11, 9)) (b := a0) (pc := 25) dX11_night_25 sc_X11_finding ml_X11_79 im_X11_finding se_X11_finding rfl rfl rfl (Nat.le_of_ble_eq_true rfl) hP35 (fun x_31 h_32 hP36 => ?_)
      clear hP35
      exact bz_retI (pc := 28) dX11_night_28 rfl rfl hP36
theorem m_X11_night {G : bz_G} {l : Launch} {d mc ms : Nat} {F : Option bz_V → bz_H → Prop} (a0 : Nat) (x1 : Int32) (x2 : Int32) (h : bz_H) (hP : w_X11_night_0 G l d F a0 x1 x2 h) : bz_Call G l (d + 1) kX11_night [.inr (some a0), .inl x1, .inl x2] h mc ms F :=
  bz_body (by decide) (Nat.le_of_ble_eq_true rfl) (fun κ hl => g_X11_night_0 hl a0 x1 x2 h hP)
def w_X11_offerAll_0 (G : bz_G) (κ : bz_K) (l : Launch) (d : Nat) (F : Option bz_V → bz_H → Prop) (bc bs : Nat) (a0 : Nat) (h : bz_H) : Prop := bz_rR h a0 11 0 (fun r_1 => bz_rR h a0 11 0 (fun r_2 => bz_nn r_2 (fun a_3 => bz_rI h a_3 10 13 (fun x_4 => bz_nn r_1 (fun a_7 => bz_rc h a_7 10 (bz_cR G l d kX10_textAt [.inr (some a_7), .inl x_4] h 0 0 (fun r_5 h_6 => (∀ a_8, r_5 = some a_8 → bz_J G κ kX11_offerAll (d + 1) F bc bs 30 [some (.inr (some a0)), some (.inr (some a_8)), some (.inl 0), some (.inl 0), none, none] [] h_6) ∧ (r_5 = none → bz_rc h_6 a0 11 (bz_cI G l d kX11_finding [.inr (some a0), .inl (-1000005)] h_6 0 0 (fun x_9 h_10 => F (some (.inl x_9)) h_10))))))))))
set_option maxRecDepth 20000 in
set_option maxHeartbeats 4000000 in
theorem g_X11_offerAll_0 {G : bz_G} {κ : bz_K} {l : Launch} {d : Nat} {F : Option bz_V → bz_H → Prop} {bc bs : Nat} (hl : κ.2.1 = l) (a0 : Nat) (h : bz_H) (hP0 : w_X11_offerAll_0 G κ l d F bc bs a0 h) : bz_J G κ kX11_offerAll (d + 1) F bc bs 0 [some (.inr (some a0)), none, none, none, none, none] [] h := by
  subst hl
  unfold w_X11_offerAll_0 at hP0
  refine bz_aload_n (pc := 0) dX11_offerAll_0 rfl rfl ?_
  refine bz_rw_rR (pc := 1) dX11_offerAll_1 fl_X11_12 hP0 (fun r_1 hP1 => ?_)
  clear hP0
  refine bz_aload_n (pc := 4) dX11_offerAll_4 rfl rfl ?_
  refine bz_rw_rR (pc := 5) dX11_offerAll_5 fl_X11_12 hP1 (fun r_2 hP2 => ?_)
  clear hP1
  obtain ⟨a_3, rfl, hP3⟩ := hP2
  refine bz_rw_rI (pc := 8) dX11_offerAll_8 fl_X11_275 hP3 (fun x_4 hP4 => ?_)
  clear hP3
  obtain ⟨a_7, rfl, hP5⟩ := hP4
  refine bz_kRV (as := [.inl x_4]) (st := []) (ci := 10) (n := 1) (mc := 0) (ms := 0) (bc := bc) (bs := bs) (yc := kX10_textAt) (q := (RX10, TX10, 16)) (b := a_7) (pc := 11) dX11_offerAll_11 sc_X10_textAt ml_X11_281 im_X10_textAt se_X10_textAt rfl rfl rfl (Nat.le_of_ble_eq_true rfl) hP5 (fun r_5 h_6 hP6 => ?_)
  clear hP5
  refine bz_s_astore_n (pc := 14) dX11_offerAll_14 rfl (Nat.le_of_ble_eq_true rfl) [some (.inr (some a0)), some (.inr r_5), none, none, none, none] rfl ?_
  refine bz_aload_n (pc := 15) dX11_offerAll_15 rfl rfl ?_
  refine bz_ifnonnull (tgt := 26) (pc := 16) dX11_offerAll_16 rfl (fun a_8 c => ?_) (fun c => ?_)
  · have hP7 := hP6.1 a_8 c
    clear hP6
    subst c
    refine bz_iconst (pc := 26) dX11_offerAll_26 ci_0 ?_
    refine bz_s_istore_n (pc := 27) dX11_offerAll_27 rfl (Nat.le_of_ble_eq_true rfl) [some (.inr (some a0)), some (.inr (some a_8)), some (.inl 0), none, none, none] rfl ?_
    refine bz_iconst (pc := 28) dX11_offerAll_28 ci_0 ?_
    refine bz_s_istore_n (pc := 29) dX11_offerAll_29 rfl (Nat.le_of_ble_eq_true rfl) [some (.inr (some a0)), some (.inr (some a_8)), some (.inl 0), some (.inl 0), none, none] rfl ?_
    exact hP7
  · have hP8 := hP6.2 c
    clear hP6
    subst c
    refine bz_aload_n (pc := 19) dX11_offerAll_19 rfl rfl ?_
    refine bz_ldc (pc := 20) dX11_offerAll_20 ct_X11_107 ?_
    refine bz_kIV (as := [.inl (-1000005)]) (st := []) (ci := 11) (n := 1) (mc := 0) (ms := 0) (bc := bc) (bs := bs) (yc := kX11_finding) (q := (RX11, TX11, 9)) (b := a0) (pc := 22) dX11_offerAll_22 sc_X11_finding ml_X11_79 im_X11_finding se_X11_finding rfl rfl rfl (Nat.le_of_ble_eq_true rfl) hP8 (fun x_9 h_10 hP9 => ?_)
    clear hP8
    exact bz_retI (pc := 25) dX11_offerAll_25 rfl rfl hP9
def w_X11_offerAll_30 (G : bz_G) (κ : bz_K) (l : Launch) (d : Nat) (F : Option bz_V → bz_H → Prop) (bc bs : Nat) (a0 : Nat) (r1 : Option Nat) (x2 : Int32) (x3 : Int32) (u4 : Option bz_V) (u5 : Option bz_V) (h : bz_H) : Prop := bz_rR h a0 11 0 (fun r_11 => bz_nn r_11 (fun a_12 => bz_rI h a_12 10 9 (fun x_13 => (x_13 ≤ x3 → F (some (.inl x2)) h) ∧ (¬ (x_13 ≤ x3) → bz_rR h a0 11 0 (fun r_14 => bz_nn r_14 (fun a_15 => bz_rR h a_15 10 2 (fun r_16 => bz_nn r_16 (fun a_17 => bz_rQ h a_17 x3 (fun r_18 => bz_nn r_18 (fun a_19 => bz_rI h a_19 2 7 (fun x_20 => (¬ x_20 = 0 → bz_J G κ kX11_offerAll (d + 1) F bc bs 30 [some (.inr (some a0)), some (.inr r1), some (.inl x2), some (.inl (x3 + 1)), some (.inr (some a_19)), some (.inr none)] [] h) ∧ (x_20 = 0 → bz_rR h a0 11 0 (fun r_21 => bz_rc h a0 11 (bz_cI G l d kX11_bestFor [.inr (some a0), .inl x3, .inr r1] h 0 0 (fun x_22 h_23 => bz_nn r_21 (fun a_26 => bz_rc h_23 a_26 10 (bz_cR G l d kX10_riderAt [.inr (some a_26), .inl x_22] h_23 0 0 (fun r_24 h_25 => (r_24 = none → bz_J G κ kX11_offerAll (d + 1) F bc bs 30 [some (.inr (some a0)), some (.inr r1), some (.inl x2), some (.inl (x3 + 1)), some (.inr (some a_19)), some (.inr none)] [] h_25) ∧ (∀ a_27, r_24 = some a_27 → bz_rR h_25 a0 11 6 (fun r_28 => bz_rI h_25 a_27 3 1 (fun x_29 => bz_rI h_25 a_27 3 4 (fun x_30 => bz_rR h_25 a0 11 0 (fun r_31 => bz_nn r_31 (fun a_32 => bz_rI h_25 a_32 10 12 (fun x_33 => bz_rc h_25 a_27 3 (bz_cI G l d kX3_startFrom [.inr (some a_27), .inl x_33] h_25 0 0 (fun x_34 h_35 => bz_nn r_28 (fun a_38 => bz_rc h_35 a_38 9 (bz_cI G l d kX9_planOne [.inr (some a_38), .inl x_29, .inl x_30, .inl x_34, .inr (some a_19)] h_35 0 0 (fun x_36 h_37 => (x_36 = 0 → bz_J G κ kX11_offerAll (d + 1) F bc bs 30 [some (.inr (some a0)), some (.inr r1), some (.inl x2), some (.inl (x3 + 1)), some (.inr (some a_19)), some (.inr (some a_27))] [] h_37) ∧ (¬ (x_36 = 0) → bz_rI h_37 a_27 3 0 (fun x_39 => bz_rc h_37 a0 11 (bz_cV G l d kX11_handOver [.inr (some a0), .inl x_39, .inr (some a_19)] h_37 0 0 (fun h_41 => bz_J G κ kX11_offerAll (d + 1) F bc bs 30 [some (.inr (some a0)), some (.inr r1), some (.inl (x2 + 1)), some (.inl (x3 + 1)), some (.inr (some a_19)), some (.inr (some a_27))] [] h_41))))))))))))))))))))))))))))))))))
set_option maxRecDepth 20000 in
set_option maxHeartbeats 4000000 in
theorem g_X11_offerAll_30 {G : bz_G} {κ : bz_K} {l : Launch} {d : Nat} {F : Option bz_V → bz_H → Prop} {bc bs : Nat} (hl : κ.2.1 = l) (a0 : Nat) (r1 : Option Nat) (x2 : Int32) (x3 : Int32) (u4 : Option bz_V) (u5 : Option bz_V) (h : bz_H) (hP0 : w_X11_offerAll_30 G κ l d F bc bs a0 r1 x2 x3 u4 u5 h) : bz_J G κ kX11_offerAll (d + 1) F bc bs 30 [some (.inr (some a0)), some (.inr r1), some (.inl x2), some (.inl x3), u4, u5] [] h := by
  subst hl
  unfold w_X11_offerAll_30 at hP0
  refine bz_iload_n (pc := 30) dX11_offerAll_30 rfl rfl ?_
  refine bz_aload_n (pc := 31) dX11_offerAll_31 rfl rfl ?_
  refine bz_rw_rR (pc := 32) dX11_offerAll_32 fl_X11_12 hP0 (fun r_11 hP1 => ?_)
  clear hP0
  obtain ⟨a_12, rfl, hP2⟩ := hP1
  refine bz_rw_rI (pc := 35) dX11_offerAll_35 fl_X11_125 hP2 (fun x_13 hP3 => ?_)
  clear hP2
  refine bz_icmp_ge (tgt := 138) (pc := 38) dX11_offerAll_38 rfl (fun c => ?_) (fun c => ?_)
  · have hP4 := hP3.1 c
    clear hP3
    refine bz_iload_n (pc := 138) dX11_offerAll_138 rfl rfl ?_
    exact bz_retI (pc := 139) dX11_offerAll_139 rfl rfl hP4
  · have hP5 := hP3.2 c
    clear hP3
    refine bz_aload_n (pc := 41) dX11_offerAll_41 rfl rfl ?_
    refine bz_rw_rR (pc := 42) dX11_offerAll_42 fl_X11_12 hP5 (fun r_14 hP6 => ?_)
    clear hP5
    obtain ⟨a_15, rfl, hP7⟩ := hP6
    refine bz_rw_rR (pc := 45) dX11_offerAll_45 fl_X11_306 hP7 (fun r_16 hP8 => ?_)
    clear hP7
    refine bz_iload_n (pc := 48) dX11_offerAll_48 rfl rfl ?_
    obtain ⟨a_17, rfl, hP9⟩ := hP8
    refine bz_rw_ldq (pc := 49) dX11_offerAll_49 hP9 (fun r_18 hP10 => ?_)
    clear hP9
    refine bz_s_astore (pc := 50) dX11_offerAll_50 (Nat.le_of_ble_eq_true rfl) [some (.inr (some a0)), some (.inr r1), some (.inl x2), some (.inl x3), some (.inr r_18), u5] rfl ?_
    refine bz_aload (pc := 52) dX11_offerAll_52 rfl ?_
    obtain ⟨a_19, rfl, hP11⟩ := hP10
    refine bz_rw_rI (pc := 54) dX11_offerAll_54 fl_X11_136 hP11 (fun x_20 hP12 => ?_)
    clear hP11
    refine bz_if_ne (tgt := 76) (pc := 57) dX11_offerAll_57 rfl (fun c => ?_) (fun c => ?_)
    · have hP13 := hP12.1 c
      clear hP12
      refine bz_null (pc := 76) dX11_offerAll_76 ?_
      refine bz_s_astore (pc := 77) dX11_offerAll_77 (Nat.le_of_ble_eq_true rfl) [some (.inr (some a0)), some (.inr r1), some (.inl x2), some (.inl x3), some (.inr (some a_19)), some (.inr none)] rfl ?_
      refine bz_aload (pc := 79) dX11_offerAll_79 rfl ?_
      refine bz_ifnull (tgt := 132) (pc := 81) dX11_offerAll_81 rfl (fun _ => ?_) (fun a9 c => by cases c)
      refine bz_s_iinc (pc := 132) dX11_offerAll_132 (Nat.le_of_ble_eq_true rfl) rfl rfl [some (.inr (some a0)), some (.inr r1), some (.inl x2), some (.inl (x3 + 1)), some (.inr (some a_19)), some (.inr none)] rfl ?_
      refine bz_goto (tgt := 30) (pc := 135) dX11_offerAll_135 rfl ?_
      exact hP13
    · have hP14 := hP12.2 c
      clear hP12
      refine bz_aload_n (pc := 60) dX11_offerAll_60 rfl rfl ?_
      refine bz_rw_rR (pc := 61) dX11_offerAll_61 fl_X11_12 hP14 (fun r_21 hP15 => ?_)
      clear hP14
      refine bz_aload_n (pc := 64) dX11_offerAll_64 rfl rfl ?_
      refine bz_iload_n (pc := 65) dX11_offerAll_65 rfl rfl ?_
      refine bz_aload_n (pc := 66) dX11_offerAll_66 rfl rfl ?_
      refine bz_kIV (as := [.inl x3, .inr r1]) (st := [.inr r_21]) (ci := 11) (n := 2) (mc := 0) (ms := 0) (bc := bc) (bs := bs) (yc := kX11_bestFor) (q := (RX11, TX11, 9)) (b := a0) (pc := 67) dX11_offerAll_67 sc_X11_bestFor ml_X11_296 im_X11_bestFor se_X11_bestFor rfl rfl rfl (Nat.le_of_ble_eq_true rfl) hP15 (fun x_22 h_23 hP16 => ?_)
      clear hP15
      obtain ⟨a_26, rfl, hP17⟩ := hP16
      refine bz_kRV (as := [.inl x_22]) (st := []) (ci := 10) (n := 1) (mc := 0) (ms := 0) (bc := bc) (bs := bs) (yc := kX10_riderAt) (q := (RX10, TX10, 16)) (b := a_26) (pc := 70) dX11_offerAll_70 sc_X10_riderAt ml_X11_179 im_X10_riderAt se_X10_riderAt rfl rfl rfl (Nat.le_of_ble_eq_true rfl) hP17 (fun r_24 h_25 hP18 => ?_)
      clear hP17
      refine bz_goto (tgt := 77) (pc := 73) dX11_offerAll_73 rfl ?_
      refine bz_s_astore (pc := 77) dX11_offerAll_77 (Nat.le_of_ble_eq_true rfl) [some (.inr (some a0)), some (.inr r1), some (.inl x2), some (.inl x3), some (.inr (some a_19)), some (.inr r_24)] rfl ?_
      refine bz_aload (pc := 79) dX11_offerAll_79 rfl ?_
      refine bz_ifnull (tgt := 132) (pc := 81) dX11_offerAll_81 rfl (fun c => ?_) (fun a_27 c => ?_)
      · have hP19 := hP18.1 c
        clear hP18
        subst c
        refine bz_s_iinc (pc := 132) dX11_offerAll_132 (Nat.le_of_ble_eq_true rfl) rfl rfl [some (.inr (some a0)), some (.inr r1), some (.inl x2), some (.inl (x3 + 1)), some (.inr (some a_19)), some (.inr none)] rfl ?_
        refine bz_goto (tgt := 30) (pc := 135) dX11_offerAll_135 rfl ?_
        exact hP19
      · have hP20 := hP18.2 a_27 c
        clear hP18
        subst c
        refine bz_aload_n (pc := 84) dX11_offerAll_84 rfl rfl ?_
        refine bz_rw_rR (pc := 85) dX11_offerAll_85 fl_X11_50 hP20 (fun r_28 hP21 => ?_)
        clear hP20
        refine bz_aload (pc := 88) dX11_offerAll_88 rfl ?_
        refine bz_rw_rI (pc := 90) dX11_offerAll_90 fl_X11_183 hP21 (fun x_29 hP22 => ?_)
        clear hP21
        refine bz_aload (pc := 93) dX11_offerAll_93 rfl ?_
        refine bz_rw_rI (pc := 95) dX11_offerAll_95 fl_X11_188 hP22 (fun x_30 hP23 => ?_)
        clear hP22
        refine bz_aload (pc := 98) dX11_offerAll_98 rfl ?_
        refine bz_aload_n (pc := 100) dX11_offerAll_100 rfl rfl ?_
        refine bz_rw_rR (pc := 101) dX11_offerAll_101 fl_X11_12 hP23 (fun r_31 hP24 => ?_)
        clear hP23
        obtain ⟨a_32, rfl, hP25⟩ := hP24
        refine bz_rw_rI (pc := 104) dX11_offerAll_104 fl_X11_103 hP25 (fun x_33 hP26 => ?_)
        clear hP25
        refine bz_kIV (as := [.inl x_33]) (st := [.inl x_30, .inl x_29, .inr r_28]) (ci := 3) (n := 1) (mc := 0) (ms := 0) (bc := bc) (bs := bs) (yc := kX3_startFrom) (q := (RX3, TX3, 9)) (b := a_27) (pc := 107) dX11_offerAll_107 sc_X3_startFrom ml_X11_212 im_X3_startFrom se_X3_startFrom rfl rfl rfl (Nat.le_of_ble_eq_true rfl) hP26 (fun x_34 h_35 hP27 => ?_)
        clear hP26
        refine bz_aload (pc := 110) dX11_offerAll_110 rfl ?_
        obtain ⟨a_38, rfl, hP28⟩ := hP27
        refine bz_kIV (as := [.inl x_29, .inl x_30, .inl x_34, .inr (some a_19)]) (st := []) (ci := 9) (n := 4) (mc := 0) (ms := 0) (bc := bc) (bs := bs) (yc := kX9_planOne) (q := (RX9, TX9, 11)) (b := a_38) (pc := 112) dX11_offerAll_112 sc_X9_planOne ml_X11_215 im_X9_planOne se_X9_planOne rfl rfl rfl (Nat.le_of_ble_eq_true rfl) hP28 (fun x_36 h_37 hP29 => ?_)
        clear hP28
        refine bz_if_eq (tgt := 132) (pc := 115) dX11_offerAll_115 rfl (fun c => ?_) (fun c => ?_)
        · have hP30 := hP29.1 c
          clear hP29
          refine bz_s_iinc (pc := 132) dX11_offerAll_132 (Nat.le_of_ble_eq_true rfl) rfl rfl [some (.inr (some a0)), some (.inr r1), some (.inl x2), some (.inl (x3 + 1)), some (.inr (some a_19)), some (.inr (some a_27))] rfl ?_
          refine bz_goto (tgt := 30) (pc := 135) dX11_offerAll_135 rfl ?_
          exact hP30
        · have hP31 := hP29.2 c
          clear hP29
          refine bz_aload_n (pc := 118) dX11_offerAll_118 rfl rfl ?_
          refine bz_aload (pc := 119) dX11_offerAll_119 rfl ?_
          refine bz_rw_rI (pc := 121) dX11_offerAll_121 fl_X11_310 hP31 (fun x_39 hP32 => ?_)
          clear hP31
          refine bz_aload (pc := 124) dX11_offerAll_124 rfl ?_
          refine bz_kVV (as := [.inl x_39, .inr (some a_19)]) (st := []) (ci := 11) (n := 2) (mc := 0) (ms := 0) (bc := bc) (bs := bs) (yc := kX11_handOver) (q := (RX11, TX11, 9)) (b := a0) (pc := 126) dX11_offerAll_126 sc_X11_handOver ml_X11_232 im_X11_handOver se_X11_handOver rfl rfl rfl (Nat.le_of_ble_eq_true rfl) hP32 (fun h_41 hP33 => ?_)
          clear hP32
          refine bz_s_iinc (pc := 129) dX11_offerAll_129 (Nat.le_of_ble_eq_true rfl) rfl rfl [some (.inr (some a0)), some (.inr r1), some (.inl (x2 + 1)), some (.inl x3), some (.inr (some a_19)), some (.inr (some a_27))] rfl ?_
          refine bz_s_iinc (pc := 132) dX11_offerAll_132 (Nat.le_of_ble_eq_true rfl) rfl rfl [some (.inr (some a0)), some (.inr r1), some (.inl (x2 + 1)), some (.inl (x3 + 1)), some (.inr (some a_19)), some (.inr (some a_27))] rfl ?_
          refine bz_goto (tgt := 30) (pc := 135) dX11_offerAll_135 rfl ?_
          exact hP33
theorem m_X11_offerAll {G : bz_G} {l : Launch} {d mc ms : Nat} {F : Option bz_V → bz_H → Prop} (a0 : Nat) (h : bz_H) (hP : ∀ (κ : bz_K) (bc bs : Nat), κ.2.1 = l → w_X11_offerAll_0 G κ l d F bc bs a0 h) : bz_Call G l (d + 1) kX11_offerAll [.inr (some a0)] h mc ms F :=
  bz_body (by decide) (Nat.le_of_ble_eq_true rfl) (fun κ hl => g_X11_offerAll_0 hl a0 h (hP κ mc ms hl))
def w_X11_offered_0 (G : bz_G) (l : Launch) (d : Nat) (F : Option bz_V → bz_H → Prop) (a0 : Nat) (x1 : Int32) (h : bz_H) : Prop := bz_rR h a0 11 0 (fun r_1 => bz_nn r_1 (fun a_4 => bz_rc h a_4 10 (bz_cR G l d kX10_orderAt [.inr (some a_4), .inl x1] h 0 0 (fun r_2 h_3 => (∀ a_5, r_2 = some a_5 → bz_rR h_3 a0 11 0 (fun r_8 => bz_rR h_3 a0 11 0 (fun r_9 => bz_nn r_9 (fun a_10 => bz_rI h_3 a_10 10 13 (fun x_11 => bz_nn r_8 (fun a_14 => bz_rc h_3 a_14 10 (bz_cR G l d kX10_textAt [.inr (some a_14), .inl x_11] h_3 0 0 (fun r_12 h_13 => bz_rI h_13 a_5 2 7 (fun x_15 => (¬ x_15 = 0 → bz_rc h_13 a0 11 (bz_cI G l d kX11_finding [.inr (some a0), .inl (-1000005)] h_13 0 0 (fun x_16 h_17 => F (some (.inl x_16)) h_17))) ∧ (x_15 = 0 → (∀ a_18, r_12 = some a_18 → bz_rc h_13 a0 11 (bz_cI G l d kX11_bestFor [.inr (some a0), .inl x1, .inr (some a_18)] h_13 0 0 (fun x_21 h_22 => (¬ x_21 = (-1) → F (some (.inl x_21)) h_22) ∧ (x_21 = (-1) → bz_rc h_22 a0 11 (bz_cI G l d kX11_finding [.inr (some a0), .inl (-1000004)] h_22 0 0 (fun x_23 h_24 => F (some (.inl x_23)) h_24)))))) ∧ (r_12 = none → bz_rc h_13 a0 11 (bz_cI G l d kX11_finding [.inr (some a0), .inl (-1000005)] h_13 0 0 (fun x_19 h_20 => F (some (.inl x_19)) h_20))))))))))))) ∧ (r_2 = none → bz_rc h_3 a0 11 (bz_cI G l d kX11_finding [.inr (some a0), .inl (-1000001)] h_3 0 0 (fun x_6 h_7 => F (some (.inl x_6)) h_7)))))))
set_option maxRecDepth 20000 in
set_option maxHeartbeats 4000000 in
theorem g_X11_offered_0 {G : bz_G} {κ : bz_K} {l : Launch} {d : Nat} {F : Option bz_V → bz_H → Prop} {bc bs : Nat} (hl : κ.2.1 = l) (a0 : Nat) (x1 : Int32) (h : bz_H) (hP0 : w_X11_offered_0 G l d F a0 x1 h) : bz_J G κ kX11_offered (d + 1) F bc bs 0 [some (.inr (some a0)), some (.inl x1), none, none, none] [] h := by
  subst hl
  unfold w_X11_offered_0 at hP0
  refine bz_aload_n (pc := 0) dX11_offered_0 rfl rfl ?_
  refine bz_rw_rR (pc := 1) dX11_offered_1 fl_X11_12 hP0 (fun r_1 hP1 => ?_)
  clear hP0
  refine bz_iload_n (pc := 4) dX11_offered_4 rfl rfl ?_
  obtain ⟨a_4, rfl, hP2⟩ := hP1
  refine bz_kRV (as := [.inl x1]) (st := []) (ci := 10) (n := 1) (mc := 0) (ms := 0) (bc := bc) (bs := bs) (yc := kX10_orderAt) (q := (RX10, TX10, 16)) (b := a_4) (pc := 5) dX11_offered_5 sc_X10_orderAt ml_X11_132 im_X10_orderAt se_X10_orderAt rfl rfl rfl (Nat.le_of_ble_eq_true rfl) hP2 (fun r_2 h_3 hP3 => ?_)
  clear hP2
  refine bz_s_astore_n (pc := 8) dX11_offered_8 rfl (Nat.le_of_ble_eq_true rfl) [some (.inr (some a0)), some (.inl x1), some (.inr r_2), none, none] rfl ?_
  refine bz_aload_n (pc := 9) dX11_offered_9 rfl rfl ?_
  refine bz_ifnonnull (tgt := 20) (pc := 10) dX11_offered_10 rfl (fun a_5 c => ?_) (fun c => ?_)
  · have hP4 := hP3.1 a_5 c
    clear hP3
    subst c
    refine bz_aload_n (pc := 20) dX11_offered_20 rfl rfl ?_
    refine bz_rw_rR (pc := 21) dX11_offered_21 fl_X11_12 hP4 (fun r_8 hP5 => ?_)
    clear hP4
    refine bz_aload_n (pc := 24) dX11_offered_24 rfl rfl ?_
    refine bz_rw_rR (pc := 25) dX11_offered_25 fl_X11_12 hP5 (fun r_9 hP6 => ?_)
    clear hP5
    obtain ⟨a_10, rfl, hP7⟩ := hP6
    refine bz_rw_rI (pc := 28) dX11_offered_28 fl_X11_275 hP7 (fun x_11 hP8 => ?_)
    clear hP7
    obtain ⟨a_14, rfl, hP9⟩ := hP8
    refine bz_kRV (as := [.inl x_11]) (st := []) (ci := 10) (n := 1) (mc := 0) (ms := 0) (bc := bc) (bs := bs) (yc := kX10_textAt) (q := (RX10, TX10, 16)) (b := a_14) (pc := 31) dX11_offered_31 sc_X10_textAt ml_X11_281 im_X10_textAt se_X10_textAt rfl rfl rfl (Nat.le_of_ble_eq_true rfl) hP9 (fun r_12 h_13 hP10 => ?_)
    clear hP9
    refine bz_s_astore_n (pc := 34) dX11_offered_34 rfl (Nat.le_of_ble_eq_true rfl) [some (.inr (some a0)), some (.inl x1), some (.inr (some a_5)), some (.inr r_12), none] rfl ?_
    refine bz_aload_n (pc := 35) dX11_offered_35 rfl rfl ?_
    refine bz_rw_rI (pc := 36) dX11_offered_36 fl_X11_136 hP10 (fun x_15 hP11 => ?_)
    clear hP10
    refine bz_if_ne (tgt := 46) (pc := 39) dX11_offered_39 rfl (fun c => ?_) (fun c => ?_)
    · have hP12 := hP11.1 c
      clear hP11
      refine bz_aload_n (pc := 46) dX11_offered_46 rfl rfl ?_
      refine bz_ldc (pc := 47) dX11_offered_47 ct_X11_107 ?_
      refine bz_kIV (as := [.inl (-1000005)]) (st := []) (ci := 11) (n := 1) (mc := 0) (ms := 0) (bc := bc) (bs := bs) (yc := kX11_finding) (q := (RX11, TX11, 9)) (b := a0) (pc := 49) dX11_offered_49 sc_X11_finding ml_X11_79 im_X11_finding se_X11_finding rfl rfl rfl (Nat.le_of_ble_eq_true rfl) hP12 (fun x_16 h_17 hP13 => ?_)
      clear hP12
      exact bz_retI (pc := 52) dX11_offered_52 rfl rfl hP13
    · have hP14 := hP11.2 c
      clear hP11
      refine bz_aload_n (pc := 42) dX11_offered_42 rfl rfl ?_
      refine bz_ifnonnull (tgt := 53) (pc := 43) dX11_offered_43 rfl (fun a_18 c => ?_) (fun c => ?_)
      · have hP15 := hP14.1 a_18 c
        clear hP14
        subst c
        refine bz_aload_n (pc := 53) dX11_offered_53 rfl rfl ?_
        refine bz_iload_n (pc := 54) dX11_offered_54 rfl rfl ?_
        refine bz_aload_n (pc := 55) dX11_offered_55 rfl rfl ?_
        refine bz_kIV (as := [.inl x1, .inr (some a_18)]) (st := []) (ci := 11) (n := 2) (mc := 0) (ms := 0) (bc := bc) (bs := bs) (yc := kX11_bestFor) (q := (RX11, TX11, 9)) (b := a0) (pc := 56) dX11_offered_56 sc_X11_bestFor ml_X11_296 im_X11_bestFor se_X11_bestFor rfl rfl rfl (Nat.le_of_ble_eq_true rfl) hP15 (fun x_21 h_22 hP16 => ?_)
        clear hP15
        refine bz_s_istore (pc := 59) dX11_offered_59 (Nat.le_of_ble_eq_true rfl) [some (.inr (some a0)), some (.inl x1), some (.inr (some a_5)), some (.inr (some a_18)), some (.inl x_21)] rfl ?_
        refine bz_iload (pc := 61) dX11_offered_61 rfl ?_
        refine bz_iconst (pc := 63) dX11_offered_63 ci_m1 ?_
        refine bz_icmp_ne (tgt := 76) (pc := 64) dX11_offered_64 rfl (fun c => ?_) (fun c => ?_)
        · have hP17 := hP16.1 c
          clear hP16
          refine bz_iload (pc := 76) dX11_offered_76 rfl ?_
          exact bz_retI (pc := 78) dX11_offered_78 rfl rfl hP17
        · have hP18 := hP16.2 c
          clear hP16
          refine bz_aload_n (pc := 67) dX11_offered_67 rfl rfl ?_
          refine bz_ldc (pc := 68) dX11_offered_68 ct_X11_102 ?_
          refine bz_kIV (as := [.inl (-1000004)]) (st := []) (ci := 11) (n := 1) (mc := 0) (ms := 0) (bc := bc) (bs := bs) (yc := kX11_finding) (q := (RX11, TX11, 9)) (b := a0) (pc := 70) dX11_offered_70 sc_X11_finding ml_X11_79 im_X11_finding se_X11_finding rfl rfl rfl (Nat.le_of_ble_eq_true rfl) hP18 (fun x_23 h_24 hP19 => ?_)
          clear hP18
          refine bz_goto (tgt := 78) (pc := 73) dX11_offered_73 rfl ?_
          exact bz_retI (pc := 78) dX11_offered_78 rfl rfl hP19
      · have hP20 := hP14.2 c
        clear hP14
        subst c
        refine bz_aload_n (pc := 46) dX11_offered_46 rfl rfl ?_
        refine bz_ldc (pc := 47) dX11_offered_47 ct_X11_107 ?_
        refine bz_kIV (as := [.inl (-1000005)]) (st := []) (ci := 11) (n := 1) (mc := 0) (ms := 0) (bc := bc) (bs := bs) (yc := kX11_finding) (q := (RX11, TX11, 9)) (b := a0) (pc := 49) dX11_offered_49 sc_X11_finding ml_X11_79 im_X11_finding se_X11_finding rfl rfl rfl (Nat.le_of_ble_eq_true rfl) hP20 (fun x_19 h_20 hP21 => ?_)
        clear hP20
        exact bz_retI (pc := 52) dX11_offered_52 rfl rfl hP21
  · have hP22 := hP3.2 c
    clear hP3
    subst c
    refine bz_aload_n (pc := 13) dX11_offered_13 rfl rfl ?_
    refine bz_ldc (pc := 14) dX11_offered_14 ct_X11_78 ?_
    refine bz_kIV (as := [.inl (-1000001)]) (st := []) (ci := 11) (n := 1) (mc := 0) (ms := 0) (bc := bc) (bs := bs) (yc := kX11_finding) (q := (RX11, TX11, 9)) (b := a0) (pc := 16) dX11_offered_16 sc_X11_finding ml_X11_79 im_X11_finding se_X11_finding rfl rfl rfl (Nat.le_of_ble_eq_true rfl) hP22 (fun x_6 h_7 hP23 => ?_)
    clear hP22
    exact bz_retI (pc := 19) dX11_offered_19 rfl rfl hP23
theorem m_X11_offered {G : bz_G} {l : Launch} {d mc ms : Nat} {F : Option bz_V → bz_H → Prop} (a0 : Nat) (x1 : Int32) (h : bz_H) (hP : w_X11_offered_0 G l d F a0 x1 h) : bz_Call G l (d + 1) kX11_offered [.inr (some a0), .inl x1] h mc ms F :=
  bz_body (by decide) (Nat.le_of_ble_eq_true rfl) (fun κ hl => g_X11_offered_0 hl a0 x1 h hP)
def w_X11_orderOf_0 (G : bz_G) (κ : bz_K) (l : Launch) (d : Nat) (F : Option bz_V → bz_H → Prop) (bc bs : Nat) (a0 : Nat) (x1 : Int32) (x2 : Int32) (h : bz_H) : Prop := bz_rR h a0 11 0 (fun r_1 => bz_nn r_1 (fun a_4 => bz_rc h a_4 10 (bz_cR G l d kX10_orderAt [.inr (some a_4), .inl x1] h 0 0 (fun r_2 h_3 => (r_2 = none → bz_rc h_3 a0 11 (bz_cI G l d kX11_finding [.inr (some a0), .inl (-1000001)] h_3 0 0 (fun x_6 h_7 => F (some (.inl x_6)) h_7))) ∧ (∀ a_5, r_2 = some a_5 → bz_cI G l d kX11_isWithin [.inl x2, .inl 0, .inl 10] h_3 0 0 (fun x_8 h_9 => (¬ x_8 = 0 → (x2 < 5 → bz_J G κ kX11_orderOf (d + 1) F bc bs 50 [some (.inr (some a0)), some (.inl x1), some (.inl x2), some (.inr (some a_5))] [] h_9) ∧ (¬ (x2 < 5) → bz_rI h_9 a_5 2 7 (fun x_10 => (x_10 = 1 → bz_J G κ kX11_orderOf (d + 1) F bc bs 50 [some (.inr (some a0)), some (.inl x1), some (.inl x2), some (.inr (some a_5))] [] h_9) ∧ (¬ (x_10 = 1) → bz_rc h_9 a0 11 (bz_cI G l d kX11_finding [.inr (some a0), .inl (-1000004)] h_9 0 0 (fun x_11 h_12 => F (some (.inl x_11)) h_12)))))) ∧ (x_8 = 0 → bz_rc h_9 a0 11 (bz_cI G l d kX11_finding [.inr (some a0), .inl (-1000001)] h_9 0 0 (fun x_13 h_14 => F (some (.inl x_13)) h_14)))))))))
set_option maxRecDepth 20000 in
set_option maxHeartbeats 4000000 in
theorem g_X11_orderOf_0 {G : bz_G} {κ : bz_K} {l : Launch} {d : Nat} {F : Option bz_V → bz_H → Prop} {bc bs : Nat} (hl : κ.2.1 = l) (a0 : Nat) (x1 : Int32) (x2 : Int32) (h : bz_H) (hP0 : w_X11_orderOf_0 G κ l d F bc bs a0 x1 x2 h) : bz_J G κ kX11_orderOf (d + 1) F bc bs 0 [some (.inr (some a0)), some (.inl x1), some (.inl x2), none] [] h := by
  subst hl
  unfold w_X11_orderOf_0 at hP0
  refine bz_aload_n (pc := 0) dX11_orderOf_0 rfl rfl ?_
  refine bz_rw_rR (pc := 1) dX11_orderOf_1 fl_X11_12 hP0 (fun r_1 hP1 => ?_)
  clear hP0
  refine bz_iload_n (pc := 4) dX11_orderOf_4 rfl rfl ?_
  obtain ⟨a_4, rfl, hP2⟩ := hP1
  refine bz_kRV (as := [.inl x1]) (st := []) (ci := 10) (n := 1) (mc := 0) (ms := 0) (bc := bc) (bs := bs) (yc := kX10_orderAt) (q := (RX10, TX10, 16)) (b := a_4) (pc := 5) dX11_orderOf_5 sc_X10_orderAt ml_X11_132 im_X10_orderAt se_X10_orderAt rfl rfl rfl (Nat.le_of_ble_eq_true rfl) hP2 (fun r_2 h_3 hP3 => ?_)
  clear hP2
  refine bz_s_astore_n (pc := 8) dX11_orderOf_8 rfl (Nat.le_of_ble_eq_true rfl) [some (.inr (some a0)), some (.inl x1), some (.inl x2), some (.inr r_2)] rfl ?_
  refine bz_aload_n (pc := 9) dX11_orderOf_9 rfl rfl ?_
  refine bz_ifnull (tgt := 23) (pc := 10) dX11_orderOf_10 rfl (fun c => ?_) (fun a_5 c => ?_)
  · have hP4 := hP3.1 c
    clear hP3
    subst c
    refine bz_aload_n (pc := 23) dX11_orderOf_23 rfl rfl ?_
    refine bz_ldc (pc := 24) dX11_orderOf_24 ct_X11_78 ?_
    refine bz_kIV (as := [.inl (-1000001)]) (st := []) (ci := 11) (n := 1) (mc := 0) (ms := 0) (bc := bc) (bs := bs) (yc := kX11_finding) (q := (RX11, TX11, 9)) (b := a0) (pc := 26) dX11_orderOf_26 sc_X11_finding ml_X11_79 im_X11_finding se_X11_finding rfl rfl rfl (Nat.le_of_ble_eq_true rfl) hP4 (fun x_6 h_7 hP5 => ?_)
    clear hP4
    exact bz_retI (pc := 29) dX11_orderOf_29 rfl rfl hP5
  · have hP6 := hP3.2 a_5 c
    clear hP3
    subst c
    refine bz_iload_n (pc := 13) dX11_orderOf_13 rfl rfl ?_
    refine bz_iconst (pc := 14) dX11_orderOf_14 ci_0 ?_
    refine bz_bipush (pc := 15) dX11_orderOf_15 cb_10 ?_
    refine bz_kIS (as := [.inl x2, .inl 0, .inl 10]) (st := []) (n := 3) (mc := 0) (ms := 0) (bc := bc) (bs := bs) (yc := kX11_isWithin) (pc := 17) dX11_orderOf_17 sc_X11_isWithin ml_X11_74 ss_X11_isWithin rfl (Nat.le_of_ble_eq_true rfl) hP6 (fun x_8 h_9 hP7 => ?_)
    clear hP6
    refine bz_if_ne (tgt := 30) (pc := 20) dX11_orderOf_20 rfl (fun c => ?_) (fun c => ?_)
    · have hP8 := hP7.1 c
      clear hP7
      refine bz_iload_n (pc := 30) dX11_orderOf_30 rfl rfl ?_
      refine bz_iconst (pc := 31) dX11_orderOf_31 ci_5 ?_
      refine bz_icmp_lt (tgt := 50) (pc := 32) dX11_orderOf_32 rfl (fun c => ?_) (fun c => ?_)
      · have hP9 := hP8.1 c
        clear hP8
        exact hP9
      · have hP10 := hP8.2 c
        clear hP8
        refine bz_aload_n (pc := 35) dX11_orderOf_35 rfl rfl ?_
        refine bz_rw_rI (pc := 36) dX11_orderOf_36 fl_X11_136 hP10 (fun x_10 hP11 => ?_)
        clear hP10
        refine bz_iconst (pc := 39) dX11_orderOf_39 ci_1 ?_
        refine bz_icmp_eq (tgt := 50) (pc := 40) dX11_orderOf_40 rfl (fun c => ?_) (fun c => ?_)
        · have hP12 := hP11.1 c
          clear hP11
          exact hP12
        · have hP13 := hP11.2 c
          clear hP11
          refine bz_aload_n (pc := 43) dX11_orderOf_43 rfl rfl ?_
          refine bz_ldc (pc := 44) dX11_orderOf_44 ct_X11_102 ?_
          refine bz_kIV (as := [.inl (-1000004)]) (st := []) (ci := 11) (n := 1) (mc := 0) (ms := 0) (bc := bc) (bs := bs) (yc := kX11_finding) (q := (RX11, TX11, 9)) (b := a0) (pc := 46) dX11_orderOf_46 sc_X11_finding ml_X11_79 im_X11_finding se_X11_finding rfl rfl rfl (Nat.le_of_ble_eq_true rfl) hP13 (fun x_11 h_12 hP14 => ?_)
          clear hP13
          exact bz_retI (pc := 49) dX11_orderOf_49 rfl rfl hP14
    · have hP15 := hP7.2 c
      clear hP7
      refine bz_aload_n (pc := 23) dX11_orderOf_23 rfl rfl ?_
      refine bz_ldc (pc := 24) dX11_orderOf_24 ct_X11_78 ?_
      refine bz_kIV (as := [.inl (-1000001)]) (st := []) (ci := 11) (n := 1) (mc := 0) (ms := 0) (bc := bc) (bs := bs) (yc := kX11_finding) (q := (RX11, TX11, 9)) (b := a0) (pc := 26) dX11_orderOf_26 sc_X11_finding ml_X11_79 im_X11_finding se_X11_finding rfl rfl rfl (Nat.le_of_ble_eq_true rfl) hP15 (fun x_13 h_14 hP16 => ?_)
      clear hP15
      exact bz_retI (pc := 29) dX11_orderOf_29 rfl rfl hP16
def w_X11_orderOf_50 (G : bz_G) (l : Launch) (d : Nat) (F : Option bz_V → bz_H → Prop) (a0 : Nat) (x1 : Int32) (x2 : Int32) (r3 : Option Nat) (h : bz_H) : Prop := (x2 = 0 → bz_nn r3 (fun a_15 => bz_rI h a_15 2 0 (fun x_16 => F (some (.inl x_16)) h))) ∧ (¬ x2 = 0 → (x2 = 1 → bz_nn r3 (fun a_17 => bz_rI h a_17 2 2 (fun x_18 => F (some (.inl x_18)) h))) ∧ (¬ x2 = 1 → (x2 = 2 → bz_nn r3 (fun a_19 => bz_rI h a_19 2 3 (fun x_20 => F (some (.inl x_20)) h))) ∧ (¬ x2 = 2 → (x2 = 3 → bz_nn r3 (fun a_21 => bz_rI h a_21 2 6 (fun x_22 => F (some (.inl x_22)) h))) ∧ (¬ x2 = 3 → (x2 = 4 → bz_nn r3 (fun a_23 => bz_rI h a_23 2 7 (fun x_24 => F (some (.inl x_24)) h))) ∧ (¬ x2 = 4 → (x2 = 5 → bz_nn r3 (fun a_25 => bz_rI h a_25 2 8 (fun x_26 => F (some (.inl x_26)) h))) ∧ (¬ x2 = 5 → (x2 = 6 → bz_nn r3 (fun a_27 => bz_rI h a_27 2 9 (fun x_28 => F (some (.inl x_28)) h))) ∧ (¬ x2 = 6 → (x2 = 7 → bz_nn r3 (fun a_29 => bz_rI h a_29 2 10 (fun x_30 => F (some (.inl x_30)) h))) ∧ (¬ x2 = 7 → (x2 = 8 → bz_nn r3 (fun a_31 => bz_rI h a_31 2 11 (fun x_32 => F (some (.inl x_32)) h))) ∧ (¬ x2 = 8 → (x2 = 9 → bz_rR h a0 11 0 (fun r_33 => bz_nn r_33 (fun a_36 => bz_rc h a_36 10 (bz_cI G l d kX10_payFor [.inr (some a_36), .inr r3] h 0 0 (fun x_34 h_35 => F (some (.inl x_34)) h_35))))) ∧ (¬ x2 = 9 → bz_nn r3 (fun a_37 => bz_rI h a_37 2 12 (fun x_38 => F (some (.inl x_38)) h))))))))))))
set_option maxRecDepth 20000 in
set_option maxHeartbeats 4000000 in
theorem g_X11_orderOf_50 {G : bz_G} {κ : bz_K} {l : Launch} {d : Nat} {F : Option bz_V → bz_H → Prop} {bc bs : Nat} (hl : κ.2.1 = l) (a0 : Nat) (x1 : Int32) (x2 : Int32) (r3 : Option Nat) (h : bz_H) (hP0 : w_X11_orderOf_50 G l d F a0 x1 x2 r3 h) : bz_J G κ kX11_orderOf (d + 1) F bc bs 50 [some (.inr (some a0)), some (.inl x1), some (.inl x2), some (.inr r3)] [] h := by
  subst hl
  unfold w_X11_orderOf_50 at hP0
  refine bz_iload_n (pc := 50) dX11_orderOf_50 rfl rfl ?_
  refine bz_table (pc := 51) [(0, 53), (1, 58), (2, 63), (3, 68), (4, 73), (5, 78), (6, 83), (7, 88), (8, 93), (9, 98)] dX11_orderOf_51 (by decide) (by decide) (by decide) (by decide) (by decide) ?_
  refine ⟨fun c => ?_, fun c => ?_⟩
  · have hP1 := hP0.1 c
    clear hP0
    show bz_J G κ kX11_orderOf (d + 1) F bc bs 104 [some (.inr (some a0)), some (.inl x1), some (.inl x2), some (.inr r3)] [] h
    refine bz_aload_n (pc := 104) dX11_orderOf_104 rfl rfl ?_
    obtain ⟨a_15, rfl, hP2⟩ := hP1
    refine bz_rw_rI (pc := 105) dX11_orderOf_105 fl_X11_141 hP2 (fun x_16 hP3 => ?_)
    clear hP2
    exact bz_retI (pc := 108) dX11_orderOf_108 rfl rfl hP3
  · have hP4 := hP0.2 c
    clear hP0
    refine ⟨fun c => ?_, fun c => ?_⟩
    · have hP5 := hP4.1 c
      clear hP4
      show bz_J G κ kX11_orderOf (d + 1) F bc bs 109 [some (.inr (some a0)), some (.inl x1), some (.inl x2), some (.inr r3)] [] h
      refine bz_aload_n (pc := 109) dX11_orderOf_109 rfl rfl ?_
      obtain ⟨a_17, rfl, hP6⟩ := hP5
      refine bz_rw_rI (pc := 110) dX11_orderOf_110 fl_X11_144 hP6 (fun x_18 hP7 => ?_)
      clear hP6
      exact bz_retI (pc := 113) dX11_orderOf_113 rfl rfl hP7
    · have hP8 := hP4.2 c
      clear hP4
      refine ⟨fun c => ?_, fun c => ?_⟩
      · have hP9 := hP8.1 c
        clear hP8
        show bz_J G κ kX11_orderOf (d + 1) F bc bs 114 [some (.inr (some a0)), some (.inl x1), some (.inl x2), some (.inr r3)] [] h
        refine bz_aload_n (pc := 114) dX11_orderOf_114 rfl rfl ?_
        obtain ⟨a_19, rfl, hP10⟩ := hP9
        refine bz_rw_rI (pc := 115) dX11_orderOf_115 fl_X11_147 hP10 (fun x_20 hP11 => ?_)
        clear hP10
        exact bz_retI (pc := 118) dX11_orderOf_118 rfl rfl hP11
      · have hP12 := hP8.2 c
        clear hP8
        refine ⟨fun c => ?_, fun c => ?_⟩
        · have hP13 := hP12.1 c
          clear hP12
          show bz_J G κ kX11_orderOf (d + 1) F bc bs 119 [some (.inr (some a0)), some (.inl x1), some (.inl x2), some (.inr r3)] [] h
          refine bz_aload_n (pc := 119) dX11_orderOf_119 rfl rfl ?_
          obtain ⟨a_21, rfl, hP14⟩ := hP13
          refine bz_rw_rI (pc := 120) dX11_orderOf_120 fl_X11_150 hP14 (fun x_22 hP15 => ?_)
          clear hP14
          exact bz_retI (pc := 123) dX11_orderOf_123 rfl rfl hP15
        · have hP16 := hP12.2 c
          clear hP12
          refine ⟨fun c => ?_, fun c => ?_⟩
          · have hP17 := hP16.1 c
            clear hP16
            show bz_J G κ kX11_orderOf (d + 1) F bc bs 124 [some (.inr (some a0)), some (.inl x1), some (.inl x2), some (.inr r3)] [] h
            refine bz_aload_n (pc := 124) dX11_orderOf_124 rfl rfl ?_
            obtain ⟨a_23, rfl, hP18⟩ := hP17
            refine bz_rw_rI (pc := 125) dX11_orderOf_125 fl_X11_136 hP18 (fun x_24 hP19 => ?_)
            clear hP18
            exact bz_retI (pc := 128) dX11_orderOf_128 rfl rfl hP19
          · have hP20 := hP16.2 c
            clear hP16
            refine ⟨fun c => ?_, fun c => ?_⟩
            · have hP21 := hP20.1 c
              clear hP20
              show bz_J G κ kX11_orderOf (d + 1) F bc bs 129 [some (.inr (some a0)), some (.inl x1), some (.inl x2), some (.inr r3)] [] h
              refine bz_aload_n (pc := 129) dX11_orderOf_129 rfl rfl ?_
              obtain ⟨a_25, rfl, hP22⟩ := hP21
              refine bz_rw_rI (pc := 130) dX11_orderOf_130 fl_X11_153 hP22 (fun x_26 hP23 => ?_)
              clear hP22
              exact bz_retI (pc := 133) dX11_orderOf_133 rfl rfl hP23
            · have hP24 := hP20.2 c
              clear hP20
              refine ⟨fun c => ?_, fun c => ?_⟩
              · have hP25 := hP24.1 c
                clear hP24
                show bz_J G κ kX11_orderOf (d + 1) F bc bs 134 [some (.inr (some a0)), some (.inl x1), some (.inl x2), some (.inr r3)] [] h
                refine bz_aload_n (pc := 134) dX11_orderOf_134 rfl rfl ?_
                obtain ⟨a_27, rfl, hP26⟩ := hP25
                refine bz_rw_rI (pc := 135) dX11_orderOf_135 fl_X11_156 hP26 (fun x_28 hP27 => ?_)
                clear hP26
                exact bz_retI (pc := 138) dX11_orderOf_138 rfl rfl hP27
              · have hP28 := hP24.2 c
                clear hP24
                refine ⟨fun c => ?_, fun c => ?_⟩
                · have hP29 := hP28.1 c
                  clear hP28
                  show bz_J G κ kX11_orderOf (d + 1) F bc bs 139 [some (.inr (some a0)), some (.inl x1), some (.inl x2), some (.inr r3)] [] h
                  refine bz_aload_n (pc := 139) dX11_orderOf_139 rfl rfl ?_
                  obtain ⟨a_29, rfl, hP30⟩ := hP29
                  refine bz_rw_rI (pc := 140) dX11_orderOf_140 fl_X11_159 hP30 (fun x_30 hP31 => ?_)
                  clear hP30
                  exact bz_retI (pc := 143) dX11_orderOf_143 rfl rfl hP31
                · have hP32 := hP28.2 c
                  clear hP28
                  refine ⟨fun c => ?_, fun c => ?_⟩
                  · have hP33 := hP32.1 c
                    clear hP32
                    show bz_J G κ kX11_orderOf (d + 1) F bc bs 144 [some (.inr (some a0)), some (.inl x1), some (.inl x2), some (.inr r3)] [] h
                    refine bz_aload_n (pc := 144) dX11_orderOf_144 rfl rfl ?_
                    obtain ⟨a_31, rfl, hP34⟩ := hP33
                    refine bz_rw_rI (pc := 145) dX11_orderOf_145 fl_X11_162 hP34 (fun x_32 hP35 => ?_)
                    clear hP34
                    exact bz_retI (pc := 148) dX11_orderOf_148 rfl rfl hP35
                  · have hP36 := hP32.2 c
                    clear hP32
                    refine ⟨fun c => ?_, fun c => ?_⟩
                    · have hP37 := hP36.1 c
                      clear hP36
                      show bz_J G κ kX11_orderOf (d + 1) F bc bs 149 [some (.inr (some a0)), some (.inl x1), some (.inl x2), some (.inr r3)] [] h
                      refine bz_aload_n (pc := 149) dX11_orderOf_149 rfl rfl ?_
                      refine bz_rw_rR (pc := 150) dX11_orderOf_150 fl_X11_12 hP37 (fun r_33 hP38 => ?_)
                      clear hP37
                      refine bz_aload_n (pc := 153) dX11_orderOf_153 rfl rfl ?_
                      obtain ⟨a_36, rfl, hP39⟩ := hP38
                      refine bz_kIV (as := [.inr r3]) (st := []) (ci := 10) (n := 1) (mc := 0) (ms := 0) (bc := bc) (bs := bs) (yc := kX10_payFor) (q := (RX10, TX10, 16)) (b := a_36) (pc := 154) dX11_orderOf_154 sc_X10_payFor ml_X11_165 im_X10_payFor se_X10_payFor rfl rfl rfl (Nat.le_of_ble_eq_true rfl) hP39 (fun x_34 h_35 hP40 => ?_)
                      clear hP39
                      exact bz_retI (pc := 157) dX11_orderOf_157 rfl rfl hP40
                    · have hP41 := hP36.2 c
                      clear hP36
                      show bz_J G κ kX11_orderOf (d + 1) F bc bs 158 [some (.inr (some a0)), some (.inl x1), some (.inl x2), some (.inr r3)] [] h
                      refine bz_aload_n (pc := 158) dX11_orderOf_158 rfl rfl ?_
                      obtain ⟨a_37, rfl, hP42⟩ := hP41
                      refine bz_rw_rI (pc := 159) dX11_orderOf_159 fl_X11_169 hP42 (fun x_38 hP43 => ?_)
                      clear hP42
                      exact bz_retI (pc := 162) dX11_orderOf_162 rfl rfl hP43
theorem m_X11_orderOf {G : bz_G} {l : Launch} {d mc ms : Nat} {F : Option bz_V → bz_H → Prop} (a0 : Nat) (x1 : Int32) (x2 : Int32) (h : bz_H) (hP : ∀ (κ : bz_K) (bc bs : Nat), κ.2.1 = l → w_X11_orderOf_0 G κ l d F bc bs a0 x1 x2 h) : bz_Call G l (d + 1) kX11_orderOf [.inr (some a0), .inl x1, .inl x2] h mc ms F :=
  bz_body (by decide) (Nat.le_of_ble_eq_true rfl) (fun κ hl => g_X11_orderOf_0 hl a0 x1 x2 h (hP κ mc ms hl))
def w_X11_order_0 (G : bz_G) (l : Launch) (d : Nat) (F : Option bz_V → bz_H → Prop) (a0 : Nat) (x1 : Int32) (x2 : Int32) (x3 : Int32) (x4 : Int32) (h : bz_H) : Prop := bz_rR h a0 11 0 (fun r_1 => bz_nn r_1 (fun a_2 => bz_rR h a_2 10 1 (fun r_3 => bz_nn r_3 (fun a_4 => bz_rI h a_4 4 1 (fun x_5 => bz_cI G l d kX11_isWithin [.inl x1, .inl 0, .inl (x_5 - 1)] h 0 0 (fun x_6 h_7 => (x_6 = 0 → bz_rc h_7 a0 11 (bz_cI G l d kX11_finding [.inr (some a0), .inl (-1000001)] h_7 0 0 (fun x_8 h_9 => F (some (.inl x_8)) h_9))) ∧ (¬ (x_6 = 0) → bz_cI G l d kX11_isCrossing [.inl x2] h_7 0 0 (fun x_10 h_11 => (x_10 = 0 → bz_rc h_11 a0 11 (bz_cI G l d kX11_finding [.inr (some a0), .inl (-1000001)] h_11 0 0 (fun x_12 h_13 => F (some (.inl x_12)) h_13))) ∧ (¬ (x_10 = 0) → bz_cI G l d kX11_isWithin [.inl x3, .inl 10, .inl 120] h_11 0 0 (fun x_14 h_15 => (x_14 = 0 → bz_rc h_15 a0 11 (bz_cI G l d kX11_finding [.inr (some a0), .inl (-1000001)] h_15 0 0 (fun x_16 h_17 => F (some (.inl x_16)) h_17))) ∧ (¬ (x_14 = 0) → bz_cI G l d kX11_isWithin [.inl x4, .inl 0, .inl 60] h_15 0 0 (fun x_18 h_19 => (¬ x_18 = 0 → bz_rR h_19 a0 11 0 (fun r_20 => bz_nn r_20 (fun a_21 => bz_rI h_19 a_21 10 9 (fun x_22 => (x_22 < 24 → bz_rR h_19 a0 11 0 (fun r_23 => bz_nn r_23 (fun a_26 => bz_rc h_19 a_26 10 (bz_cV G l d kX10_addOrder [.inr (some a_26), .inl x1, .inl x2, .inl x3, .inl x4] h_19 0 0 (fun h_25 => bz_rR h_25 a0 11 0 (fun r_27 => bz_nn r_27 (fun a_28 => bz_rI h_25 a_28 10 9 (fun x_29 => F (some (.inl (x_29 - 1))) h_25)))))))) ∧ (¬ (x_22 < 24) → bz_rc h_19 a0 11 (bz_cI G l d kX11_finding [.inr (some a0), .inl (-1000002)] h_19 0 0 (fun x_30 h_31 => F (some (.inl x_30)) h_31))))))) ∧ (x_18 = 0 → bz_rc h_19 a0 11 (bz_cI G l d kX11_finding [.inr (some a0), .inl (-1000001)] h_19 0 0 (fun x_32 h_33 => F (some (.inl x_32)) h_33)))))))))))))))
set_option maxRecDepth 20000 in
set_option maxHeartbeats 4000000 in
theorem g_X11_order_0 {G : bz_G} {κ : bz_K} {l : Launch} {d : Nat} {F : Option bz_V → bz_H → Prop} {bc bs : Nat} (hl : κ.2.1 = l) (a0 : Nat) (x1 : Int32) (x2 : Int32) (x3 : Int32) (x4 : Int32) (h : bz_H) (hP0 : w_X11_order_0 G l d F a0 x1 x2 x3 x4 h) : bz_J G κ kX11_order (d + 1) F bc bs 0 [some (.inr (some a0)), some (.inl x1), some (.inl x2), some (.inl x3), some (.inl x4)] [] h := by
  subst hl
  unfold w_X11_order_0 at hP0
  refine bz_iload_n (pc := 0) dX11_order_0 rfl rfl ?_
  refine bz_iconst (pc := 1) dX11_order_1 ci_0 ?_
  refine bz_aload_n (pc := 2) dX11_order_2 rfl rfl ?_
  refine bz_rw_rR (pc := 3) dX11_order_3 fl_X11_12 hP0 (fun r_1 hP1 => ?_)
  clear hP0
  obtain ⟨a_2, rfl, hP2⟩ := hP1
  refine bz_rw_rR (pc := 6) dX11_order_6 fl_X11_108 hP2 (fun r_3 hP3 => ?_)
  clear hP2
  obtain ⟨a_4, rfl, hP4⟩ := hP3
  refine bz_rw_rI (pc := 9) dX11_order_9 fl_X11_122 hP4 (fun x_5 hP5 => ?_)
  clear hP4
  refine bz_iconst (pc := 12) dX11_order_12 ci_1 ?_
  refine bz_isub (pc := 13) dX11_order_13 ?_
  refine bz_kIS (as := [.inl x1, .inl 0, .inl (x_5 - 1)]) (st := []) (n := 3) (mc := 0) (ms := 0) (bc := bc) (bs := bs) (yc := kX11_isWithin) (pc := 14) dX11_order_14 sc_X11_isWithin ml_X11_74 ss_X11_isWithin rfl (Nat.le_of_ble_eq_true rfl) hP5 (fun x_6 h_7 hP6 => ?_)
  clear hP5
  refine bz_if_eq (tgt := 49) (pc := 17) dX11_order_17 rfl (fun c => ?_) (fun c => ?_)
  · have hP7 := hP6.1 c
    clear hP6
    refine bz_aload_n (pc := 49) dX11_order_49 rfl rfl ?_
    refine bz_ldc (pc := 50) dX11_order_50 ct_X11_78 ?_
    refine bz_kIV (as := [.inl (-1000001)]) (st := []) (ci := 11) (n := 1) (mc := 0) (ms := 0) (bc := bc) (bs := bs) (yc := kX11_finding) (q := (RX11, TX11, 9)) (b := a0) (pc := 52) dX11_order_52 sc_X11_finding ml_X11_79 im_X11_finding se_X11_finding rfl rfl rfl (Nat.le_of_ble_eq_true rfl) hP7 (fun x_8 h_9 hP8 => ?_)
    clear hP7
    exact bz_retI (pc := 55) dX11_order_55 rfl rfl hP8
  · have hP9 := hP6.2 c
    clear hP6
    refine bz_iload_n (pc := 20) dX11_order_20 rfl rfl ?_
    refine bz_kIS (as := [.inl x2]) (st := []) (n := 1) (mc := 0) (ms := 0) (bc := bc) (bs := bs) (yc := kX11_isCrossing) (pc := 21) dX11_order_21 sc_X11_isCrossing ml_X11_70 ss_X11_isCrossing rfl (Nat.le_of_ble_eq_true rfl) hP9 (fun x_10 h_11 hP10 => ?_)
    clear hP9
    refine bz_if_eq (tgt := 49) (pc := 24) dX11_order_24 rfl (fun c => ?_) (fun c => ?_)
    · have hP11 := hP10.1 c
      clear hP10
      refine bz_aload_n (pc := 49) dX11_order_49 rfl rfl ?_
      refine bz_ldc (pc := 50) dX11_order_50 ct_X11_78 ?_
      refine bz_kIV (as := [.inl (-1000001)]) (st := []) (ci := 11) (n := 1) (mc := 0) (ms := 0) (bc := bc) (bs := bs) (yc := kX11_finding) (q := (RX11, TX11, 9)) (b := a0) (pc := 52) dX11_order_52 sc_X11_finding ml_X11_79 im_X11_finding se_X11_finding rfl rfl rfl (Nat.le_of_ble_eq_true rfl) hP11 (fun x_12 h_13 hP12 => ?_)
      clear hP11
      exact bz_retI (pc := 55) dX11_order_55 rfl rfl hP12
    · have hP13 := hP10.2 c
      clear hP10
      refine bz_iload_n (pc := 27) dX11_order_27 rfl rfl ?_
      refine bz_bipush (pc := 28) dX11_order_28 cb_10 ?_
      refine bz_bipush (pc := 30) dX11_order_30 cb_120 ?_
      refine bz_kIS (as := [.inl x3, .inl 10, .inl 120]) (st := []) (n := 3) (mc := 0) (ms := 0) (bc := bc) (bs := bs) (yc := kX11_isWithin) (pc := 32) dX11_order_32 sc_X11_isWithin ml_X11_74 ss_X11_isWithin rfl (Nat.le_of_ble_eq_true rfl) hP13 (fun x_14 h_15 hP14 => ?_)
      clear hP13
      refine bz_if_eq (tgt := 49) (pc := 35) dX11_order_35 rfl (fun c => ?_) (fun c => ?_)
      · have hP15 := hP14.1 c
        clear hP14
        refine bz_aload_n (pc := 49) dX11_order_49 rfl rfl ?_
        refine bz_ldc (pc := 50) dX11_order_50 ct_X11_78 ?_
        refine bz_kIV (as := [.inl (-1000001)]) (st := []) (ci := 11) (n := 1) (mc := 0) (ms := 0) (bc := bc) (bs := bs) (yc := kX11_finding) (q := (RX11, TX11, 9)) (b := a0) (pc := 52) dX11_order_52 sc_X11_finding ml_X11_79 im_X11_finding se_X11_finding rfl rfl rfl (Nat.le_of_ble_eq_true rfl) hP15 (fun x_16 h_17 hP16 => ?_)
        clear hP15
        exact bz_retI (pc := 55) dX11_order_55 rfl rfl hP16
      · have hP17 := hP14.2 c
        clear hP14
        refine bz_iload (pc := 38) dX11_order_38 rfl ?_
        refine bz_iconst (pc := 40) dX11_order_40 ci_0 ?_
        refine bz_bipush (pc := 41) dX11_order_41 cb_60 ?_
        refine bz_kIS (as := [.inl x4, .inl 0, .inl 60]) (st := []) (n := 3) (mc := 0) (ms := 0) (bc := bc) (bs := bs) (yc := kX11_isWithin) (pc := 43) dX11_order_43 sc_X11_isWithin ml_X11_74 ss_X11_isWithin rfl (Nat.le_of_ble_eq_true rfl) hP17 (fun x_18 h_19 hP18 => ?_)
        clear hP17
        refine bz_if_ne (tgt := 56) (pc := 46) dX11_order_46 rfl (fun c => ?_) (fun c => ?_)
        · have hP19 := hP18.1 c
          clear hP18
          refine bz_aload_n (pc := 56) dX11_order_56 rfl rfl ?_
          refine bz_rw_rR (pc := 57) dX11_order_57 fl_X11_12 hP19 (fun r_20 hP20 => ?_)
          clear hP19
          obtain ⟨a_21, rfl, hP21⟩ := hP20
          refine bz_rw_rI (pc := 60) dX11_order_60 fl_X11_125 hP21 (fun x_22 hP22 => ?_)
          clear hP21
          refine bz_bipush (pc := 63) dX11_order_63 cb_24 ?_
          refine bz_icmp_lt (tgt := 75) (pc := 65) dX11_order_65 rfl (fun c => ?_) (fun c => ?_)
          · have hP23 := hP22.1 c
            clear hP22
            refine bz_aload_n (pc := 75) dX11_order_75 rfl rfl ?_
            refine bz_rw_rR (pc := 76) dX11_order_76 fl_X11_12 hP23 (fun r_23 hP24 => ?_)
            clear hP23
            refine bz_iload_n (pc := 79) dX11_order_79 rfl rfl ?_
            refine bz_iload_n (pc := 80) dX11_order_80 rfl rfl ?_
            refine bz_iload_n (pc := 81) dX11_order_81 rfl rfl ?_
            refine bz_iload (pc := 82) dX11_order_82 rfl ?_
            obtain ⟨a_26, rfl, hP25⟩ := hP24
            refine bz_kVV (as := [.inl x1, .inl x2, .inl x3, .inl x4]) (st := []) (ci := 10) (n := 4) (mc := 0) (ms := 0) (bc := bc) (bs := bs) (yc := kX10_addOrder) (q := (RX10, TX10, 16)) (b := a_26) (pc := 84) dX11_order_84 sc_X10_addOrder ml_X11_128 im_X10_addOrder se_X10_addOrder rfl rfl rfl (Nat.le_of_ble_eq_true rfl) hP25 (fun h_25 hP26 => ?_)
            clear hP25
            refine bz_aload_n (pc := 87) dX11_order_87 rfl rfl ?_
            refine bz_rw_rR (pc := 88) dX11_order_88 fl_X11_12 hP26 (fun r_27 hP27 => ?_)
            clear hP26
            obtain ⟨a_28, rfl, hP28⟩ := hP27
            refine bz_rw_rI (pc := 91) dX11_order_91 fl_X11_125 hP28 (fun x_29 hP29 => ?_)
            clear hP28
            refine bz_iconst (pc := 94) dX11_order_94 ci_1 ?_
            refine bz_isub (pc := 95) dX11_order_95 ?_
            exact bz_retI (pc := 96) dX11_order_96 rfl rfl hP29
          · have hP30 := hP22.2 c
            clear hP22
            refine bz_aload_n (pc := 68) dX11_order_68 rfl rfl ?_
            refine bz_ldc (pc := 69) dX11_order_69 ct_X11_118 ?_
            refine bz_kIV (as := [.inl (-1000002)]) (st := []) (ci := 11) (n := 1) (mc := 0) (ms := 0) (bc := bc) (bs := bs) (yc := kX11_finding) (q := (RX11, TX11, 9)) (b := a0) (pc := 71) dX11_order_71 sc_X11_finding ml_X11_79 im_X11_finding se_X11_finding rfl rfl rfl (Nat.le_of_ble_eq_true rfl) hP30 (fun x_30 h_31 hP31 => ?_)
            clear hP30
            exact bz_retI (pc := 74) dX11_order_74 rfl rfl hP31
        · have hP32 := hP18.2 c
          clear hP18
          refine bz_aload_n (pc := 49) dX11_order_49 rfl rfl ?_
          refine bz_ldc (pc := 50) dX11_order_50 ct_X11_78 ?_
          refine bz_kIV (as := [.inl (-1000001)]) (st := []) (ci := 11) (n := 1) (mc := 0) (ms := 0) (bc := bc) (bs := bs) (yc := kX11_finding) (q := (RX11, TX11, 9)) (b := a0) (pc := 52) dX11_order_52 sc_X11_finding ml_X11_79 im_X11_finding se_X11_finding rfl rfl rfl (Nat.le_of_ble_eq_true rfl) hP32 (fun x_32 h_33 hP33 => ?_)
          clear hP32
          exact bz_retI (pc := 55) dX11_order_55 rfl rfl hP33
theorem m_X11_order {G : bz_G} {l : Launch} {d mc ms : Nat} {F : Option bz_V → bz_H → Prop} (a0 : Nat) (x1 : Int32) (x2 : Int32) (x3 : Int32) (x4 : Int32) (h : bz_H) (hP : w_X11_order_0 G l d F a0 x1 x2 x3 x4 h) : bz_Call G l (d + 1) kX11_order [.inr (some a0), .inl x1, .inl x2, .inl x3, .inl x4] h mc ms F :=
  bz_body (by decide) (Nat.le_of_ble_eq_true rfl) (fun κ hl => g_X11_order_0 hl a0 x1 x2 x3 x4 h hP)
def w_X11_planJoined_0 (G : bz_G) (l : Launch) (d : Nat) (F : Option bz_V → bz_H → Prop) (a0 : Nat) (x1 : Int32) (x2 : Int32) (x3 : Int32) (h : bz_H) : Prop := bz_rR h a0 11 0 (fun r_1 => bz_nn r_1 (fun a_4 => bz_rc h a_4 10 (bz_cR G l d kX10_riderAt [.inr (some a_4), .inl x1] h 0 0 (fun r_2 h_3 => bz_rR h_3 a0 11 0 (fun r_5 => bz_nn r_5 (fun a_8 => bz_rc h_3 a_8 10 (bz_cR G l d kX10_orderAt [.inr (some a_8), .inl x2] h_3 0 0 (fun r_6 h_7 => bz_rR h_7 a0 11 0 (fun r_9 => bz_nn r_9 (fun a_12 => bz_rc h_7 a_12 10 (bz_cR G l d kX10_orderAt [.inr (some a_12), .inl x3] h_7 0 0 (fun r_10 h_11 => (r_2 = none → F (some (.inl (-1000001))) h_11) ∧ (∀ a_13, r_2 = some a_13 → (r_6 = none → F (some (.inl (-1000001))) h_11) ∧ (∀ a_14, r_6 = some a_14 → (r_10 = none → F (some (.inl (-1000001))) h_11) ∧ (∀ a_15, r_10 = some a_15 → (¬ x2 = x3 → bz_rI h_11 a_14 2 7 (fun x_16 => (¬ x_16 = 0 → F (some (.inl (-1000005))) h_11) ∧ (x_16 = 0 → bz_rI h_11 a_15 2 7 (fun x_17 => (x_17 = 0 → bz_rR h_11 a0 11 6 (fun r_18 => bz_rI h_11 a_13 3 1 (fun x_19 => bz_rI h_11 a_13 3 4 (fun x_20 => bz_rR h_11 a0 11 0 (fun r_21 => bz_nn r_21 (fun a_22 => bz_rI h_11 a_22 10 12 (fun x_23 => bz_rc h_11 a_13 3 (bz_cI G l d kX3_startFrom [.inr (some a_13), .inl x_23] h_11 0 0 (fun x_24 h_25 => bz_nn r_18 (fun a_28 => bz_rc h_25 a_28 9 (bz_cV G l d kX9_setOut [.inr (some a_28), .inl x_19, .inl x_20, .inl x_24] h_25 0 0 (fun h_27 => bz_rR h_27 a0 11 6 (fun r_29 => bz_nn r_29 (fun a_32 => bz_rc h_27 a_32 9 (bz_cI G l d kX9_planTwo [.inr (some a_32), .inr (some a_14), .inr (some a_15)] h_27 0 0 (fun x_30 h_31 => (x_30 = 0 → F (some (.inl (-1000004))) h_31) ∧ (¬ (x_30 = 0) → F (some (.inl 0)) h_31))))))))))))))))) ∧ (¬ (x_17 = 0) → F (some (.inl (-1000005))) h_11))))) ∧ (x2 = x3 → F (some (.inl (-1000001))) h_11))))))))))))))))
set_option maxRecDepth 20000 in
set_option maxHeartbeats 4000000 in
theorem g_X11_planJoined_0 {G : bz_G} {κ : bz_K} {l : Launch} {d : Nat} {F : Option bz_V → bz_H → Prop} {bc bs : Nat} (hl : κ.2.1 = l) (a0 : Nat) (x1 : Int32) (x2 : Int32) (x3 : Int32) (h : bz_H) (hP0 : w_X11_planJoined_0 G l d F a0 x1 x2 x3 h) : bz_J G κ kX11_planJoined (d + 1) F bc bs 0 [some (.inr (some a0)), some (.inl x1), some (.inl x2), some (.inl x3), none, none, none] [] h := by
  subst hl
  unfold w_X11_planJoined_0 at hP0
  refine bz_aload_n (pc := 0) dX11_planJoined_0 rfl rfl ?_
  refine bz_rw_rR (pc := 1) dX11_planJoined_1 fl_X11_12 hP0 (fun r_1 hP1 => ?_)
  clear hP0
  refine bz_iload_n (pc := 4) dX11_planJoined_4 rfl rfl ?_
  obtain ⟨a_4, rfl, hP2⟩ := hP1
  refine bz_kRV (as := [.inl x1]) (st := []) (ci := 10) (n := 1) (mc := 0) (ms := 0) (bc := bc) (bs := bs) (yc := kX10_riderAt) (q := (RX10, TX10, 16)) (b := a_4) (pc := 5) dX11_planJoined_5 sc_X10_riderAt ml_X11_179 im_X10_riderAt se_X10_riderAt rfl rfl rfl (Nat.le_of_ble_eq_true rfl) hP2 (fun r_2 h_3 hP3 => ?_)
  clear hP2
  refine bz_s_astore (pc := 8) dX11_planJoined_8 (Nat.le_of_ble_eq_true rfl) [some (.inr (some a0)), some (.inl x1), some (.inl x2), some (.inl x3), some (.inr r_2), none, none] rfl ?_
  refine bz_aload_n (pc := 10) dX11_planJoined_10 rfl rfl ?_
  refine bz_rw_rR (pc := 11) dX11_planJoined_11 fl_X11_12 hP3 (fun r_5 hP4 => ?_)
  clear hP3
  refine bz_iload_n (pc := 14) dX11_planJoined_14 rfl rfl ?_
  obtain ⟨a_8, rfl, hP5⟩ := hP4
  refine bz_kRV (as := [.inl x2]) (st := []) (ci := 10) (n := 1) (mc := 0) (ms := 0) (bc := bc) (bs := bs) (yc := kX10_orderAt) (q := (RX10, TX10, 16)) (b := a_8) (pc := 15) dX11_planJoined_15 sc_X10_orderAt ml_X11_132 im_X10_orderAt se_X10_orderAt rfl rfl rfl (Nat.le_of_ble_eq_true rfl) hP5 (fun r_6 h_7 hP6 => ?_)
  clear hP5
  refine bz_s_astore (pc := 18) dX11_planJoined_18 (Nat.le_of_ble_eq_true rfl) [some (.inr (some a0)), some (.inl x1), some (.inl x2), some (.inl x3), some (.inr r_2), some (.inr r_6), none] rfl ?_
  refine bz_aload_n (pc := 20) dX11_planJoined_20 rfl rfl ?_
  refine bz_rw_rR (pc := 21) dX11_planJoined_21 fl_X11_12 hP6 (fun r_9 hP7 => ?_)
  clear hP6
  refine bz_iload_n (pc := 24) dX11_planJoined_24 rfl rfl ?_
  obtain ⟨a_12, rfl, hP8⟩ := hP7
  refine bz_kRV (as := [.inl x3]) (st := []) (ci := 10) (n := 1) (mc := 0) (ms := 0) (bc := bc) (bs := bs) (yc := kX10_orderAt) (q := (RX10, TX10, 16)) (b := a_12) (pc := 25) dX11_planJoined_25 sc_X10_orderAt ml_X11_132 im_X10_orderAt se_X10_orderAt rfl rfl rfl (Nat.le_of_ble_eq_true rfl) hP8 (fun r_10 h_11 hP9 => ?_)
  clear hP8
  refine bz_s_astore (pc := 28) dX11_planJoined_28 (Nat.le_of_ble_eq_true rfl) [some (.inr (some a0)), some (.inl x1), some (.inl x2), some (.inl x3), some (.inr r_2), some (.inr r_6), some (.inr r_10)] rfl ?_
  refine bz_aload (pc := 30) dX11_planJoined_30 rfl ?_
  refine bz_ifnull (tgt := 50) (pc := 32) dX11_planJoined_32 rfl (fun c => ?_) (fun a_13 c => ?_)
  · have hP10 := hP9.1 c
    clear hP9
    subst c
    refine bz_ldc (pc := 50) dX11_planJoined_50 ct_X11_78 ?_
    exact bz_retI (pc := 52) dX11_planJoined_52 rfl rfl hP10
  · have hP11 := hP9.2 a_13 c
    clear hP9
    subst c
    refine bz_aload (pc := 35) dX11_planJoined_35 rfl ?_
    refine bz_ifnull (tgt := 50) (pc := 37) dX11_planJoined_37 rfl (fun c => ?_) (fun a_14 c => ?_)
    · have hP12 := hP11.1 c
      clear hP11
      subst c
      refine bz_ldc (pc := 50) dX11_planJoined_50 ct_X11_78 ?_
      exact bz_retI (pc := 52) dX11_planJoined_52 rfl rfl hP12
    · have hP13 := hP11.2 a_14 c
      clear hP11
      subst c
      refine bz_aload (pc := 40) dX11_planJoined_40 rfl ?_
      refine bz_ifnull (tgt := 50) (pc := 42) dX11_planJoined_42 rfl (fun c => ?_) (fun a_15 c => ?_)
      · have hP14 := hP13.1 c
        clear hP13
        subst c
        refine bz_ldc (pc := 50) dX11_planJoined_50 ct_X11_78 ?_
        exact bz_retI (pc := 52) dX11_planJoined_52 rfl rfl hP14
      · have hP15 := hP13.2 a_15 c
        clear hP13
        subst c
        refine bz_iload_n (pc := 45) dX11_planJoined_45 rfl rfl ?_
        refine bz_iload_n (pc := 46) dX11_planJoined_46 rfl rfl ?_
        refine bz_icmp_ne (tgt := 53) (pc := 47) dX11_planJoined_47 rfl (fun c => ?_) (fun c => ?_)
        · have hP16 := hP15.1 c
          clear hP15
          refine bz_aload (pc := 53) dX11_planJoined_53 rfl ?_
          refine bz_rw_rI (pc := 55) dX11_planJoined_55 fl_X11_136 hP16 (fun x_16 hP17 => ?_)
          clear hP16
          refine bz_if_ne (tgt := 69) (pc := 58) dX11_planJoined_58 rfl (fun c => ?_) (fun c => ?_)
          · have hP18 := hP17.1 c
            clear hP17
            refine bz_ldc (pc := 69) dX11_planJoined_69 ct_X11_107 ?_
            exact bz_retI (pc := 71) dX11_planJoined_71 rfl rfl hP18
          · have hP19 := hP17.2 c
            clear hP17
            refine bz_aload (pc := 61) dX11_planJoined_61 rfl ?_
            refine bz_rw_rI (pc := 63) dX11_planJoined_63 fl_X11_136 hP19 (fun x_17 hP20 => ?_)
            clear hP19
            refine bz_if_eq (tgt := 72) (pc := 66) dX11_planJoined_66 rfl (fun c => ?_) (fun c => ?_)
            · have hP21 := hP20.1 c
              clear hP20
              refine bz_aload_n (pc := 72) dX11_planJoined_72 rfl rfl ?_
              refine bz_rw_rR (pc := 73) dX11_planJoined_73 fl_X11_50 hP21 (fun r_18 hP22 => ?_)
              clear hP21
              refine bz_aload (pc := 76) dX11_planJoined_76 rfl ?_
              refine bz_rw_rI (pc := 78) dX11_planJoined_78 fl_X11_183 hP22 (fun x_19 hP23 => ?_)
              clear hP22
              refine bz_aload (pc := 81) dX11_planJoined_81 rfl ?_
              refine bz_rw_rI (pc := 83) dX11_planJoined_83 fl_X11_188 hP23 (fun x_20 hP24 => ?_)
              clear hP23
              refine bz_aload (pc := 86) dX11_planJoined_86 rfl ?_
              refine bz_aload_n (pc := 88) dX11_planJoined_88 rfl rfl ?_
              refine bz_rw_rR (pc := 89) dX11_planJoined_89 fl_X11_12 hP24 (fun r_21 hP25 => ?_)
              clear hP24
              obtain ⟨a_22, rfl, hP26⟩ := hP25
              refine bz_rw_rI (pc := 92) dX11_planJoined_92 fl_X11_103 hP26 (fun x_23 hP27 => ?_)
              clear hP26
              refine bz_kIV (as := [.inl x_23]) (st := [.inl x_20, .inl x_19, .inr r_18]) (ci := 3) (n := 1) (mc := 0) (ms := 0) (bc := bc) (bs := bs) (yc := kX3_startFrom) (q := (RX3, TX3, 9)) (b := a_13) (pc := 95) dX11_planJoined_95 sc_X3_startFrom ml_X11_212 im_X3_startFrom se_X3_startFrom rfl rfl rfl (Nat.le_of_ble_eq_true rfl) hP27 (fun x_24 h_25 hP28 => ?_)
              clear hP27
              obtain ⟨a_28, rfl, hP29⟩ := hP28
              refine bz_kVV (as := [.inl x_19, .inl x_20, .inl x_24]) (st := []) (ci := 9) (n := 3) (mc := 0) (ms := 0) (bc := bc) (bs := bs) (yc := kX9_setOut) (q := (RX9, TX9, 11)) (b := a_28) (pc := 98) dX11_planJoined_98 sc_X9_setOut ml_X11_420 im_X9_setOut se_X9_setOut rfl rfl rfl (Nat.le_of_ble_eq_true rfl) hP29 (fun h_27 hP30 => ?_)
              clear hP29
              refine bz_aload_n (pc := 101) dX11_planJoined_101 rfl rfl ?_
              refine bz_rw_rR (pc := 102) dX11_planJoined_102 fl_X11_50 hP30 (fun r_29 hP31 => ?_)
              clear hP30
              refine bz_aload (pc := 105) dX11_planJoined_105 rfl ?_
              refine bz_aload (pc := 107) dX11_planJoined_107 rfl ?_
              obtain ⟨a_32, rfl, hP32⟩ := hP31
              refine bz_kIV (as := [.inr (some a_14), .inr (some a_15)]) (st := []) (ci := 9) (n := 2) (mc := 0) (ms := 0) (bc := bc) (bs := bs) (yc := kX9_planTwo) (q := (RX9, TX9, 11)) (b := a_32) (pc := 109) dX11_planJoined_109 sc_X9_planTwo ml_X11_423 im_X9_planTwo se_X9_planTwo rfl rfl rfl (Nat.le_of_ble_eq_true rfl) hP32 (fun x_30 h_31 hP33 => ?_)
              clear hP32
              refine bz_if_eq (tgt := 119) (pc := 112) dX11_planJoined_112 rfl (fun c => ?_) (fun c => ?_)
              · have hP34 := hP33.1 c
                clear hP33
                refine bz_ldc (pc := 119) dX11_planJoined_119 ct_X11_102 ?_
                exact bz_retI (pc := 121) dX11_planJoined_121 rfl rfl hP34
              · have hP35 := hP33.2 c
                clear hP33
                refine bz_iconst (pc := 115) dX11_planJoined_115 ci_0 ?_
                refine bz_goto (tgt := 121) (pc := 116) dX11_planJoined_116 rfl ?_
                exact bz_retI (pc := 121) dX11_planJoined_121 rfl rfl hP35
            · have hP36 := hP20.2 c
              clear hP20
              refine bz_ldc (pc := 69) dX11_planJoined_69 ct_X11_107 ?_
              exact bz_retI (pc := 71) dX11_planJoined_71 rfl rfl hP36
        · have hP37 := hP15.2 c
          clear hP15
          refine bz_ldc (pc := 50) dX11_planJoined_50 ct_X11_78 ?_
          exact bz_retI (pc := 52) dX11_planJoined_52 rfl rfl hP37
theorem m_X11_planJoined {G : bz_G} {l : Launch} {d mc ms : Nat} {F : Option bz_V → bz_H → Prop} (a0 : Nat) (x1 : Int32) (x2 : Int32) (x3 : Int32) (h : bz_H) (hP : w_X11_planJoined_0 G l d F a0 x1 x2 x3 h) : bz_Call G l (d + 1) kX11_planJoined [.inr (some a0), .inl x1, .inl x2, .inl x3] h mc ms F :=
  bz_body (by decide) (Nat.le_of_ble_eq_true rfl) (fun κ hl => g_X11_planJoined_0 hl a0 x1 x2 x3 h hP)
def w_X11_rain_0 (G : bz_G) (l : Launch) (d : Nat) (F : Option bz_V → bz_H → Prop) (a0 : Nat) (x1 : Int32) (x2 : Int32) (x3 : Int32) (h : bz_H) : Prop := bz_cI G l d kX11_isMinute [.inl x1] h 0 0 (fun x_1 h_2 => (x_1 = 0 → bz_rc h_2 a0 11 (bz_cI G l d kX11_finding [.inr (some a0), .inl (-1000001)] h_2 0 0 (fun x_3 h_4 => F (some (.inl x_3)) h_4))) ∧ (¬ (x_1 = 0) → bz_cI G l d kX11_isMinute [.inl x2] h_2 0 0 (fun x_5 h_6 => (x_5 = 0 → bz_rc h_6 a0 11 (bz_cI G l d kX11_finding [.inr (some a0), .inl (-1000001)] h_6 0 0 (fun x_7 h_8 => F (some (.inl x_7)) h_8))) ∧ (¬ (x_5 = 0) → (x2 < x1 → bz_rc h_6 a0 11 (bz_cI G l d kX11_finding [.inr (some a0), .inl (-1000001)] h_6 0 0 (fun x_9 h_10 => F (some (.inl x_9)) h_10))) ∧ (¬ (x2 < x1) → bz_cI G l d kX11_isWithin [.inl x3, .inl 1, .inl 99] h_6 0 0 (fun x_11 h_12 => (¬ x_11 = 0 → bz_rR h_12 a0 11 0 (fun r_13 => bz_nn r_13 (fun a_14 => bz_rR h_12 a_14 10 6 (fun r_15 => bz_nn r_15 (fun a_18 => bz_rc h_12 a_18 4 (bz_cI G l d kX4_isFull [.inr (some a_18)] h_12 0 0 (fun x_16 h_17 => (x_16 = 0 → bz_rR h_17 a0 11 0 (fun r_19 => bz_nn r_19 (fun a_20 => bz_rR h_17 a_20 10 6 (fun r_21 => bz_nn r_21 (fun a_24 => bz_rc h_17 a_24 4 (bz_cI G l d kX4_add [.inr (some a_24), .inl x1, .inl x2, .inl x3] h_17 0 0 (fun x_22 h_23 => F (some (.inl x_22)) h_23))))))) ∧ (¬ (x_16 = 0) → bz_rc h_17 a0 11 (bz_cI G l d kX11_finding [.inr (some a0), .inl (-1000002)] h_17 0 0 (fun x_25 h_26 => F (some (.inl x_25)) h_26)))))))))) ∧ (x_11 = 0 → bz_rc h_12 a0 11 (bz_cI G l d kX11_finding [.inr (some a0), .inl (-1000001)] h_12 0 0 (fun x_27 h_28 => F (some (.inl x_27)) h_28)))))))))
set_option maxRecDepth 20000 in
set_option maxHeartbeats 4000000 in
theorem g_X11_rain_0 {G : bz_G} {κ : bz_K} {l : Launch} {d : Nat} {F : Option bz_V → bz_H → Prop} {bc bs : Nat} (hl : κ.2.1 = l) (a0 : Nat) (x1 : Int32) (x2 : Int32) (x3 : Int32) (h : bz_H) (hP0 : w_X11_rain_0 G l d F a0 x1 x2 x3 h) : bz_J G κ kX11_rain (d + 1) F bc bs 0 [some (.inr (some a0)), some (.inl x1), some (.inl x2), some (.inl x3)] [] h := by
  subst hl
  unfold w_X11_rain_0 at hP0
  refine bz_iload_n (pc := 0) dX11_rain_0 rfl rfl ?_
  refine bz_kIS (as := [.inl x1]) (st := []) (n := 1) (mc := 0) (ms := 0) (bc := bc) (bs := bs) (yc := kX11_isMinute) (pc := 1) dX11_rain_1 sc_X11_isMinute ml_X11_313 ss_X11_isMinute rfl (Nat.le_of_ble_eq_true rfl) hP0 (fun x_1 h_2 hP1 => ?_)
  clear hP0
  refine bz_if_eq (tgt := 29) (pc := 4) dX11_rain_4 rfl (fun c => ?_) (fun c => ?_)
  · have hP2 := hP1.1 c
    clear hP1
    refine bz_aload_n (pc := 29) dX11_rain_29 rfl rfl ?_
    refine bz_ldc (pc := 30) dX11_rain_30 ct_X11_78 ?_
    refine bz_kIV (as := [.inl (-1000001)]) (st := []) (ci := 11) (n := 1) (mc := 0) (ms := 0) (bc := bc) (bs := bs) (yc := kX11_finding) (q := (RX11, TX11, 9)) (b := a0) (pc := 32) dX11_rain_32 sc_X11_finding ml_X11_79 im_X11_finding se_X11_finding rfl rfl rfl (Nat.le_of_ble_eq_true rfl) hP2 (fun x_3 h_4 hP3 => ?_)
    clear hP2
    exact bz_retI (pc := 35) dX11_rain_35 rfl rfl hP3
  · have hP4 := hP1.2 c
    clear hP1
    refine bz_iload_n (pc := 7) dX11_rain_7 rfl rfl ?_
    refine bz_kIS (as := [.inl x2]) (st := []) (n := 1) (mc := 0) (ms := 0) (bc := bc) (bs := bs) (yc := kX11_isMinute) (pc := 8) dX11_rain_8 sc_X11_isMinute ml_X11_313 ss_X11_isMinute rfl (Nat.le_of_ble_eq_true rfl) hP4 (fun x_5 h_6 hP5 => ?_)
    clear hP4
    refine bz_if_eq (tgt := 29) (pc := 11) dX11_rain_11 rfl (fun c => ?_) (fun c => ?_)
    · have hP6 := hP5.1 c
      clear hP5
      refine bz_aload_n (pc := 29) dX11_rain_29 rfl rfl ?_
      refine bz_ldc (pc := 30) dX11_rain_30 ct_X11_78 ?_
      refine bz_kIV (as := [.inl (-1000001)]) (st := []) (ci := 11) (n := 1) (mc := 0) (ms := 0) (bc := bc) (bs := bs) (yc := kX11_finding) (q := (RX11, TX11, 9)) (b := a0) (pc := 32) dX11_rain_32 sc_X11_finding ml_X11_79 im_X11_finding se_X11_finding rfl rfl rfl (Nat.le_of_ble_eq_true rfl) hP6 (fun x_7 h_8 hP7 => ?_)
      clear hP6
      exact bz_retI (pc := 35) dX11_rain_35 rfl rfl hP7
    · have hP8 := hP5.2 c
      clear hP5
      refine bz_iload_n (pc := 14) dX11_rain_14 rfl rfl ?_
      refine bz_iload_n (pc := 15) dX11_rain_15 rfl rfl ?_
      refine bz_icmp_lt (tgt := 29) (pc := 16) dX11_rain_16 rfl (fun c => ?_) (fun c => ?_)
      · have hP9 := hP8.1 c
        clear hP8
        refine bz_aload_n (pc := 29) dX11_rain_29 rfl rfl ?_
        refine bz_ldc (pc := 30) dX11_rain_30 ct_X11_78 ?_
        refine bz_kIV (as := [.inl (-1000001)]) (st := []) (ci := 11) (n := 1) (mc := 0) (ms := 0) (bc := bc) (bs := bs) (yc := kX11_finding) (q := (RX11, TX11, 9)) (b := a0) (pc := 32) dX11_rain_32 sc_X11_finding ml_X11_79 im_X11_finding se_X11_finding rfl rfl rfl (Nat.le_of_ble_eq_true rfl) hP9 (fun x_9 h_10 hP10 => ?_)
        clear hP9
        exact bz_retI (pc := 35) dX11_rain_35 rfl rfl hP10
      · have hP11 := hP8.2 c
        clear hP8
        refine bz_iload_n (pc := 19) dX11_rain_19 rfl rfl ?_
        refine bz_iconst (pc := 20) dX11_rain_20 ci_1 ?_
        refine bz_bipush (pc := 21) dX11_rain_21 cb_99 ?_
        refine bz_kIS (as := [.inl x3, .inl 1, .inl 99]) (st := []) (n := 3) (mc := 0) (ms := 0) (bc := bc) (bs := bs) (yc := kX11_isWithin) (pc := 23) dX11_rain_23 sc_X11_isWithin ml_X11_74 ss_X11_isWithin rfl (Nat.le_of_ble_eq_true rfl) hP11 (fun x_11 h_12 hP12 => ?_)
        clear hP11
        refine bz_if_ne (tgt := 36) (pc := 26) dX11_rain_26 rfl (fun c => ?_) (fun c => ?_)
        · have hP13 := hP12.1 c
          clear hP12
          refine bz_aload_n (pc := 36) dX11_rain_36 rfl rfl ?_
          refine bz_rw_rR (pc := 37) dX11_rain_37 fl_X11_12 hP13 (fun r_13 hP14 => ?_)
          clear hP13
          obtain ⟨a_14, rfl, hP15⟩ := hP14
          refine bz_rw_rR (pc := 40) dX11_rain_40 fl_X11_316 hP15 (fun r_15 hP16 => ?_)
          clear hP15
          obtain ⟨a_18, rfl, hP17⟩ := hP16
          refine bz_kIV (as := []) (st := []) (ci := 4) (n := 0) (mc := 0) (ms := 0) (bc := bc) (bs := bs) (yc := kX4_isFull) (q := (RX4, TX4, 2)) (b := a_18) (pc := 43) dX11_rain_43 sc_X4_isFull ml_X11_112 im_X4_isFull se_X4_isFull rfl rfl rfl (Nat.le_of_ble_eq_true rfl) hP17 (fun x_16 h_17 hP18 => ?_)
          clear hP17
          refine bz_if_eq (tgt := 56) (pc := 46) dX11_rain_46 rfl (fun c => ?_) (fun c => ?_)
          · have hP19 := hP18.1 c
            clear hP18
            refine bz_aload_n (pc := 56) dX11_rain_56 rfl rfl ?_
            refine bz_rw_rR (pc := 57) dX11_rain_57 fl_X11_12 hP19 (fun r_19 hP20 => ?_)
            clear hP19
            obtain ⟨a_20, rfl, hP21⟩ := hP20
            refine bz_rw_rR (pc := 60) dX11_rain_60 fl_X11_316 hP21 (fun r_21 hP22 => ?_)
            clear hP21
            refine bz_iload_n (pc := 63) dX11_rain_63 rfl rfl ?_
            refine bz_iload_n (pc := 64) dX11_rain_64 rfl rfl ?_
            refine bz_iload_n (pc := 65) dX11_rain_65 rfl rfl ?_
            obtain ⟨a_24, rfl, hP23⟩ := hP22
            refine bz_kIV (as := [.inl x1, .inl x2, .inl x3]) (st := []) (ci := 4) (n := 3) (mc := 0) (ms := 0) (bc := bc) (bs := bs) (yc := kX4_add) (q := (RX4, TX4, 2)) (b := a_24) (pc := 66) dX11_rain_66 sc_X4_add ml_X11_119 im_X4_add se_X4_add rfl rfl rfl (Nat.le_of_ble_eq_true rfl) hP23 (fun x_22 h_23 hP24 => ?_)
            clear hP23
            exact bz_retI (pc := 69) dX11_rain_69 rfl rfl hP24
          · have hP25 := hP18.2 c
            clear hP18
            refine bz_aload_n (pc := 49) dX11_rain_49 rfl rfl ?_
            refine bz_ldc (pc := 50) dX11_rain_50 ct_X11_118 ?_
            refine bz_kIV (as := [.inl (-1000002)]) (st := []) (ci := 11) (n := 1) (mc := 0) (ms := 0) (bc := bc) (bs := bs) (yc := kX11_finding) (q := (RX11, TX11, 9)) (b := a0) (pc := 52) dX11_rain_52 sc_X11_finding ml_X11_79 im_X11_finding se_X11_finding rfl rfl rfl (Nat.le_of_ble_eq_true rfl) hP25 (fun x_25 h_26 hP26 => ?_)
            clear hP25
            exact bz_retI (pc := 55) dX11_rain_55 rfl rfl hP26
        · have hP27 := hP12.2 c
          clear hP12
          refine bz_aload_n (pc := 29) dX11_rain_29 rfl rfl ?_
          refine bz_ldc (pc := 30) dX11_rain_30 ct_X11_78 ?_
          refine bz_kIV (as := [.inl (-1000001)]) (st := []) (ci := 11) (n := 1) (mc := 0) (ms := 0) (bc := bc) (bs := bs) (yc := kX11_finding) (q := (RX11, TX11, 9)) (b := a0) (pc := 32) dX11_rain_32 sc_X11_finding ml_X11_79 im_X11_finding se_X11_finding rfl rfl rfl (Nat.le_of_ble_eq_true rfl) hP27 (fun x_27 h_28 hP28 => ?_)
          clear hP27
          exact bz_retI (pc := 35) dX11_rain_35 rfl rfl hP28
theorem m_X11_rain {G : bz_G} {l : Launch} {d mc ms : Nat} {F : Option bz_V → bz_H → Prop} (a0 : Nat) (x1 : Int32) (x2 : Int32) (x3 : Int32) (h : bz_H) (hP : w_X11_rain_0 G l d F a0 x1 x2 x3 h) : bz_Call G l (d + 1) kX11_rain [.inr (some a0), .inl x1, .inl x2, .inl x3] h mc ms F :=
  bz_body (by decide) (Nat.le_of_ble_eq_true rfl) (fun κ hl => g_X11_rain_0 hl a0 x1 x2 x3 h hP)
def w_X11_refuse_0 (G : bz_G) (l : Launch) (d : Nat) (F : Option bz_V → bz_H → Prop) (a0 : Nat) (x1 : Int32) (x2 : Int32) (h : bz_H) : Prop := bz_rR h a0 11 0 (fun r_1 => bz_nn r_1 (fun a_4 => bz_rc h a_4 10 (bz_cR G l d kX10_riderAt [.inr (some a_4), .inl x1] h 0 0 (fun r_2 h_3 => bz_rR h_3 a0 11 0 (fun r_5 => bz_nn r_5 (fun a_8 => bz_rc h_3 a_8 10 (bz_cR G l d kX10_orderAt [.inr (some a_8), .inl x2] h_3 0 0 (fun r_6 h_7 => (r_2 = none → bz_rc h_7 a0 11 (bz_cI G l d kX11_finding [.inr (some a0), .inl (-1000001)] h_7 0 0 (fun x_10 h_11 => F (some (.inl x_10)) h_11))) ∧ (∀ a_9, r_2 = some a_9 → (∀ a_12, r_6 = some a_12 → bz_rI h_7 a_12 2 7 (fun x_15 => (¬ x_15 = 0 → bz_rc h_7 a0 11 (bz_cI G l d kX11_finding [.inr (some a0), .inl (-1000005)] h_7 0 0 (fun x_16 h_17 => F (some (.inl x_16)) h_17))) ∧ (x_15 = 0 → bz_rc h_7 a_12 2 (bz_cI G l d kX2_isRefusedBy [.inr (some a_12), .inl x1] h_7 0 0 (fun x_18 h_19 => (x_18 = 0 → bz_rI h_19 a_12 2 14 (fun x_20 => bz_wI h_19 a_12 2 14 (x_20 ||| (1 <<< (x1 &&& 31))) (fun h_21 => bz_rI h_21 a_9 3 7 (fun x_22 => bz_wI h_21 a_9 3 7 (x_22 + 1) (fun h_23 => bz_rI h_23 a_9 3 7 (fun x_24 => F (some (.inl x_24)) h_23)))))) ∧ (¬ (x_18 = 0) → bz_rc h_19 a0 11 (bz_cI G l d kX11_finding [.inr (some a0), .inl (-1000005)] h_19 0 0 (fun x_25 h_26 => F (some (.inl x_25)) h_26)))))))) ∧ (r_6 = none → bz_rc h_7 a0 11 (bz_cI G l d kX11_finding [.inr (some a0), .inl (-1000001)] h_7 0 0 (fun x_13 h_14 => F (some (.inl x_13)) h_14))))))))))))
set_option maxRecDepth 20000 in
set_option maxHeartbeats 4000000 in
theorem g_X11_refuse_0 {G : bz_G} {κ : bz_K} {l : Launch} {d : Nat} {F : Option bz_V → bz_H → Prop} {bc bs : Nat} (hl : κ.2.1 = l) (a0 : Nat) (x1 : Int32) (x2 : Int32) (h : bz_H) (hP0 : w_X11_refuse_0 G l d F a0 x1 x2 h) : bz_J G κ kX11_refuse (d + 1) F bc bs 0 [some (.inr (some a0)), some (.inl x1), some (.inl x2), none, none] [] h := by
  subst hl
  unfold w_X11_refuse_0 at hP0
  refine bz_aload_n (pc := 0) dX11_refuse_0 rfl rfl ?_
  refine bz_rw_rR (pc := 1) dX11_refuse_1 fl_X11_12 hP0 (fun r_1 hP1 => ?_)
  clear hP0
  refine bz_iload_n (pc := 4) dX11_refuse_4 rfl rfl ?_
  obtain ⟨a_4, rfl, hP2⟩ := hP1
  refine bz_kRV (as := [.inl x1]) (st := []) (ci := 10) (n := 1) (mc := 0) (ms := 0) (bc := bc) (bs := bs) (yc := kX10_riderAt) (q := (RX10, TX10, 16)) (b := a_4) (pc := 5) dX11_refuse_5 sc_X10_riderAt ml_X11_179 im_X10_riderAt se_X10_riderAt rfl rfl rfl (Nat.le_of_ble_eq_true rfl) hP2 (fun r_2 h_3 hP3 => ?_)
  clear hP2
  refine bz_s_astore_n (pc := 8) dX11_refuse_8 rfl (Nat.le_of_ble_eq_true rfl) [some (.inr (some a0)), some (.inl x1), some (.inl x2), some (.inr r_2), none] rfl ?_
  refine bz_aload_n (pc := 9) dX11_refuse_9 rfl rfl ?_
  refine bz_rw_rR (pc := 10) dX11_refuse_10 fl_X11_12 hP3 (fun r_5 hP4 => ?_)
  clear hP3
  refine bz_iload_n (pc := 13) dX11_refuse_13 rfl rfl ?_
  obtain ⟨a_8, rfl, hP5⟩ := hP4
  refine bz_kRV (as := [.inl x2]) (st := []) (ci := 10) (n := 1) (mc := 0) (ms := 0) (bc := bc) (bs := bs) (yc := kX10_orderAt) (q := (RX10, TX10, 16)) (b := a_8) (pc := 14) dX11_refuse_14 sc_X10_orderAt ml_X11_132 im_X10_orderAt se_X10_orderAt rfl rfl rfl (Nat.le_of_ble_eq_true rfl) hP5 (fun r_6 h_7 hP6 => ?_)
  clear hP5
  refine bz_s_astore (pc := 17) dX11_refuse_17 (Nat.le_of_ble_eq_true rfl) [some (.inr (some a0)), some (.inl x1), some (.inl x2), some (.inr r_2), some (.inr r_6)] rfl ?_
  refine bz_aload_n (pc := 19) dX11_refuse_19 rfl rfl ?_
  refine bz_ifnull (tgt := 28) (pc := 20) dX11_refuse_20 rfl (fun c => ?_) (fun a_9 c => ?_)
  · have hP7 := hP6.1 c
    clear hP6
    subst c
    refine bz_aload_n (pc := 28) dX11_refuse_28 rfl rfl ?_
    refine bz_ldc (pc := 29) dX11_refuse_29 ct_X11_78 ?_
    refine bz_kIV (as := [.inl (-1000001)]) (st := []) (ci := 11) (n := 1) (mc := 0) (ms := 0) (bc := bc) (bs := bs) (yc := kX11_finding) (q := (RX11, TX11, 9)) (b := a0) (pc := 31) dX11_refuse_31 sc_X11_finding ml_X11_79 im_X11_finding se_X11_finding rfl rfl rfl (Nat.le_of_ble_eq_true rfl) hP7 (fun x_10 h_11 hP8 => ?_)
    clear hP7
    exact bz_retI (pc := 34) dX11_refuse_34 rfl rfl hP8
  · have hP9 := hP6.2 a_9 c
    clear hP6
    subst c
    refine bz_aload (pc := 23) dX11_refuse_23 rfl ?_
    refine bz_ifnonnull (tgt := 35) (pc := 25) dX11_refuse_25 rfl (fun a_12 c => ?_) (fun c => ?_)
    · have hP10 := hP9.1 a_12 c
      clear hP9
      subst c
      refine bz_aload (pc := 35) dX11_refuse_35 rfl ?_
      refine bz_rw_rI (pc := 37) dX11_refuse_37 fl_X11_136 hP10 (fun x_15 hP11 => ?_)
      clear hP10
      refine bz_if_ne (tgt := 52) (pc := 40) dX11_refuse_40 rfl (fun c => ?_) (fun c => ?_)
      · have hP12 := hP11.1 c
        clear hP11
        refine bz_aload_n (pc := 52) dX11_refuse_52 rfl rfl ?_
        refine bz_ldc (pc := 53) dX11_refuse_53 ct_X11_107 ?_
        refine bz_kIV (as := [.inl (-1000005)]) (st := []) (ci := 11) (n := 1) (mc := 0) (ms := 0) (bc := bc) (bs := bs) (yc := kX11_finding) (q := (RX11, TX11, 9)) (b := a0) (pc := 55) dX11_refuse_55 sc_X11_finding ml_X11_79 im_X11_finding se_X11_finding rfl rfl rfl (Nat.le_of_ble_eq_true rfl) hP12 (fun x_16 h_17 hP13 => ?_)
        clear hP12
        exact bz_retI (pc := 58) dX11_refuse_58 rfl rfl hP13
      · have hP14 := hP11.2 c
        clear hP11
        refine bz_aload (pc := 43) dX11_refuse_43 rfl ?_
        refine bz_iload_n (pc := 45) dX11_refuse_45 rfl rfl ?_
        refine bz_kIV (as := [.inl x1]) (st := []) (ci := 2) (n := 1) (mc := 0) (ms := 0) (bc := bc) (bs := bs) (yc := kX2_isRefusedBy) (q := (RX2, TX2, 15)) (b := a_12) (pc := 46) dX11_refuse_46 sc_X2_isRefusedBy ml_X11_300 im_X2_isRefusedBy se_X2_isRefusedBy rfl rfl rfl (Nat.le_of_ble_eq_true rfl) hP14 (fun x_18 h_19 hP15 => ?_)
        clear hP14
        refine bz_if_eq (tgt := 59) (pc := 49) dX11_refuse_49 rfl (fun c => ?_) (fun c => ?_)
        · have hP16 := hP15.1 c
          clear hP15
          refine bz_aload (pc := 59) dX11_refuse_59 rfl ?_
          refine bz_dup (pc := 61) dX11_refuse_61 ?_
          refine bz_rw_rI (pc := 62) dX11_refuse_62 fl_X11_303 hP16 (fun x_20 hP17 => ?_)
          clear hP16
          refine bz_iconst (pc := 65) dX11_refuse_65 ci_1 ?_
          refine bz_iload_n (pc := 66) dX11_refuse_66 rfl rfl ?_
          refine bz_ishl (pc := 67) dX11_refuse_67 ?_
          refine bz_ior (pc := 68) dX11_refuse_68 ?_
          refine bz_rw_wI (pc := 69) dX11_refuse_69 fl_X11_303 (fun q h9 => by cases h9; rfl) rfl hP17 (fun h_21 hP18 => ?_)
          clear hP17
          refine bz_aload_n (pc := 72) dX11_refuse_72 rfl rfl ?_
          refine bz_dup (pc := 73) dX11_refuse_73 ?_
          refine bz_rw_rI (pc := 74) dX11_refuse_74 fl_X11_206 hP18 (fun x_22 hP19 => ?_)
          clear hP18
          refine bz_iconst (pc := 77) dX11_refuse_77 ci_1 ?_
          refine bz_iadd (pc := 78) dX11_refuse_78 ?_
          refine bz_rw_wI (pc := 79) dX11_refuse_79 fl_X11_206 (fun q h9 => by cases h9; rfl) rfl hP19 (fun h_23 hP20 => ?_)
          clear hP19
          refine bz_aload_n (pc := 82) dX11_refuse_82 rfl rfl ?_
          refine bz_rw_rI (pc := 83) dX11_refuse_83 fl_X11_206 hP20 (fun x_24 hP21 => ?_)
          clear hP20
          exact bz_retI (pc := 86) dX11_refuse_86 rfl rfl hP21
        · have hP22 := hP15.2 c
          clear hP15
          refine bz_aload_n (pc := 52) dX11_refuse_52 rfl rfl ?_
          refine bz_ldc (pc := 53) dX11_refuse_53 ct_X11_107 ?_
          refine bz_kIV (as := [.inl (-1000005)]) (st := []) (ci := 11) (n := 1) (mc := 0) (ms := 0) (bc := bc) (bs := bs) (yc := kX11_finding) (q := (RX11, TX11, 9)) (b := a0) (pc := 55) dX11_refuse_55 sc_X11_finding ml_X11_79 im_X11_finding se_X11_finding rfl rfl rfl (Nat.le_of_ble_eq_true rfl) hP22 (fun x_25 h_26 hP23 => ?_)
          clear hP22
          exact bz_retI (pc := 58) dX11_refuse_58 rfl rfl hP23
    · have hP24 := hP9.2 c
      clear hP9
      subst c
      refine bz_aload_n (pc := 28) dX11_refuse_28 rfl rfl ?_
      refine bz_ldc (pc := 29) dX11_refuse_29 ct_X11_78 ?_
      refine bz_kIV (as := [.inl (-1000001)]) (st := []) (ci := 11) (n := 1) (mc := 0) (ms := 0) (bc := bc) (bs := bs) (yc := kX11_finding) (q := (RX11, TX11, 9)) (b := a0) (pc := 31) dX11_refuse_31 sc_X11_finding ml_X11_79 im_X11_finding se_X11_finding rfl rfl rfl (Nat.le_of_ble_eq_true rfl) hP24 (fun x_13 h_14 hP25 => ?_)
      clear hP24
      exact bz_retI (pc := 34) dX11_refuse_34 rfl rfl hP25
theorem m_X11_refuse {G : bz_G} {l : Launch} {d mc ms : Nat} {F : Option bz_V → bz_H → Prop} (a0 : Nat) (x1 : Int32) (x2 : Int32) (h : bz_H) (hP : w_X11_refuse_0 G l d F a0 x1 x2 h) : bz_Call G l (d + 1) kX11_refuse [.inr (some a0), .inl x1, .inl x2] h mc ms F :=
  bz_body (by decide) (Nat.le_of_ble_eq_true rfl) (fun κ hl => g_X11_refuse_0 hl a0 x1 x2 h hP)
def w_X11_riderOf_0 (G : bz_G) (l : Launch) (d : Nat) (F : Option bz_V → bz_H → Prop) (a0 : Nat) (x1 : Int32) (x2 : Int32) (h : bz_H) : Prop := bz_rR h a0 11 0 (fun r_1 => bz_nn r_1 (fun a_4 => bz_rc h a_4 10 (bz_cR G l d kX10_riderAt [.inr (some a_4), .inl x1] h 0 0 (fun r_2 h_3 => (r_2 = none → bz_rc h_3 a0 11 (bz_cI G l d kX11_finding [.inr (some a0), .inl (-1000001)] h_3 0 0 (fun x_6 h_7 => F (some (.inl x_6)) h_7))) ∧ (∀ a_5, r_2 = some a_5 → bz_cI G l d kX11_isWithin [.inl x2, .inl 0, .inl 7] h_3 0 0 (fun x_8 h_9 => (¬ x_8 = 0 → (x2 = 0 → bz_rI h_9 a_5 3 1 (fun x_10 => F (some (.inl x_10)) h_9)) ∧ (¬ x2 = 0 → (x2 = 1 → bz_rI h_9 a_5 3 4 (fun x_11 => F (some (.inl x_11)) h_9)) ∧ (¬ x2 = 1 → (x2 = 2 → bz_rI h_9 a_5 3 5 (fun x_12 => F (some (.inl x_12)) h_9)) ∧ (¬ x2 = 2 → (x2 = 3 → bz_rI h_9 a_5 3 6 (fun x_13 => F (some (.inl x_13)) h_9)) ∧ (¬ x2 = 3 → (x2 = 4 → bz_rR h_9 a0 11 0 (fun r_14 => bz_nn r_14 (fun a_17 => bz_rc h_9 a_17 10 (bz_cI G l d kX10_engagedOf [.inr (some a_17), .inl x1] h_9 0 0 (fun x_15 h_16 => F (some (.inl x_15)) h_16))))) ∧ (¬ x2 = 4 → (x2 = 5 → bz_rR h_9 a0 11 0 (fun r_18 => bz_nn r_18 (fun a_21 => bz_rc h_9 a_21 10 (bz_cI G l d kX10_payOfRider [.inr (some a_21), .inl x1] h_9 0 0 (fun x_19 h_20 => F (some (.inl x_19)) h_20))))) ∧ (¬ x2 = 5 → (x2 = 6 → bz_rR h_9 a0 11 0 (fun r_22 => bz_nn r_22 (fun a_25 => bz_rc h_9 a_25 10 (bz_cI G l d kX10_ratingOfRider [.inr (some a_25), .inl x1] h_9 0 0 (fun x_23 h_24 => F (some (.inl x_23)) h_24))))) ∧ (¬ x2 = 6 → bz_rI h_9 a_5 3 7 (fun x_26 => F (some (.inl x_26)) h_9))))))))) ∧ (x_8 = 0 → bz_rc h_9 a0 11 (bz_cI G l d kX11_finding [.inr (some a0), .inl (-1000001)] h_9 0 0 (fun x_27 h_28 => F (some (.inl x_27)) h_28)))))))))
set_option maxRecDepth 20000 in
set_option maxHeartbeats 4000000 in
theorem g_X11_riderOf_0 {G : bz_G} {κ : bz_K} {l : Launch} {d : Nat} {F : Option bz_V → bz_H → Prop} {bc bs : Nat} (hl : κ.2.1 = l) (a0 : Nat) (x1 : Int32) (x2 : Int32) (h : bz_H) (hP0 : w_X11_riderOf_0 G l d F a0 x1 x2 h) : bz_J G κ kX11_riderOf (d + 1) F bc bs 0 [some (.inr (some a0)), some (.inl x1), some (.inl x2), none] [] h := by
  subst hl
  unfold w_X11_riderOf_0 at hP0
  refine bz_aload_n (pc := 0) dX11_riderOf_0 rfl rfl ?_
  refine bz_rw_rR (pc := 1) dX11_riderOf_1 fl_X11_12 hP0 (fun r_1 hP1 => ?_)
  clear hP0
  refine bz_iload_n (pc := 4) dX11_riderOf_4 rfl rfl ?_
  obtain ⟨a_4, rfl, hP2⟩ := hP1
  refine bz_kRV (as := [.inl x1]) (st := []) (ci := 10) (n := 1) (mc := 0) (ms := 0) (bc := bc) (bs := bs) (yc := kX10_riderAt) (q := (RX10, TX10, 16)) (b := a_4) (pc := 5) dX11_riderOf_5 sc_X10_riderAt ml_X11_179 im_X10_riderAt se_X10_riderAt rfl rfl rfl (Nat.le_of_ble_eq_true rfl) hP2 (fun r_2 h_3 hP3 => ?_)
  clear hP2
  refine bz_s_astore_n (pc := 8) dX11_riderOf_8 rfl (Nat.le_of_ble_eq_true rfl) [some (.inr (some a0)), some (.inl x1), some (.inl x2), some (.inr r_2)] rfl ?_
  refine bz_aload_n (pc := 9) dX11_riderOf_9 rfl rfl ?_
  refine bz_ifnull (tgt := 23) (pc := 10) dX11_riderOf_10 rfl (fun c => ?_) (fun a_5 c => ?_)
  · have hP4 := hP3.1 c
    clear hP3
    subst c
    refine bz_aload_n (pc := 23) dX11_riderOf_23 rfl rfl ?_
    refine bz_ldc (pc := 24) dX11_riderOf_24 ct_X11_78 ?_
    refine bz_kIV (as := [.inl (-1000001)]) (st := []) (ci := 11) (n := 1) (mc := 0) (ms := 0) (bc := bc) (bs := bs) (yc := kX11_finding) (q := (RX11, TX11, 9)) (b := a0) (pc := 26) dX11_riderOf_26 sc_X11_finding ml_X11_79 im_X11_finding se_X11_finding rfl rfl rfl (Nat.le_of_ble_eq_true rfl) hP4 (fun x_6 h_7 hP5 => ?_)
    clear hP4
    exact bz_retI (pc := 29) dX11_riderOf_29 rfl rfl hP5
  · have hP6 := hP3.2 a_5 c
    clear hP3
    subst c
    refine bz_iload_n (pc := 13) dX11_riderOf_13 rfl rfl ?_
    refine bz_iconst (pc := 14) dX11_riderOf_14 ci_0 ?_
    refine bz_bipush (pc := 15) dX11_riderOf_15 cb_7 ?_
    refine bz_kIS (as := [.inl x2, .inl 0, .inl 7]) (st := []) (n := 3) (mc := 0) (ms := 0) (bc := bc) (bs := bs) (yc := kX11_isWithin) (pc := 17) dX11_riderOf_17 sc_X11_isWithin ml_X11_74 ss_X11_isWithin rfl (Nat.le_of_ble_eq_true rfl) hP6 (fun x_8 h_9 hP7 => ?_)
    clear hP6
    refine bz_if_ne (tgt := 30) (pc := 20) dX11_riderOf_20 rfl (fun c => ?_) (fun c => ?_)
    · have hP8 := hP7.1 c
      clear hP7
      refine bz_iload_n (pc := 30) dX11_riderOf_30 rfl rfl ?_
      refine bz_table (pc := 31) [(0, 41), (1, 46), (2, 51), (3, 56), (4, 61), (5, 70), (6, 79)] dX11_riderOf_31 (by decide) (by decide) (by decide) (by decide) (by decide) ?_
      refine ⟨fun c => ?_, fun c => ?_⟩
      · have hP9 := hP8.1 c
        clear hP8
        show bz_J G κ kX11_riderOf (d + 1) F bc bs 72 [some (.inr (some a0)), some (.inl x1), some (.inl x2), some (.inr (some a_5))] [] h_9
        refine bz_aload_n (pc := 72) dX11_riderOf_72 rfl rfl ?_
        refine bz_rw_rI (pc := 73) dX11_riderOf_73 fl_X11_183 hP9 (fun x_10 hP10 => ?_)
        clear hP9
        exact bz_retI (pc := 76) dX11_riderOf_76 rfl rfl hP10
      · have hP11 := hP8.2 c
        clear hP8
        refine ⟨fun c => ?_, fun c => ?_⟩
        · have hP12 := hP11.1 c
          clear hP11
          show bz_J G κ kX11_riderOf (d + 1) F bc bs 77 [some (.inr (some a0)), some (.inl x1), some (.inl x2), some (.inr (some a_5))] [] h_9
          refine bz_aload_n (pc := 77) dX11_riderOf_77 rfl rfl ?_
          refine bz_rw_rI (pc := 78) dX11_riderOf_78 fl_X11_188 hP12 (fun x_11 hP13 => ?_)
          clear hP12
          exact bz_retI (pc := 81) dX11_riderOf_81 rfl rfl hP13
        · have hP14 := hP11.2 c
          clear hP11
          refine ⟨fun c => ?_, fun c => ?_⟩
          · have hP15 := hP14.1 c
            clear hP14
            show bz_J G κ kX11_riderOf (d + 1) F bc bs 82 [some (.inr (some a0)), some (.inl x1), some (.inl x2), some (.inr (some a_5))] [] h_9
            refine bz_aload_n (pc := 82) dX11_riderOf_82 rfl rfl ?_
            refine bz_rw_rI (pc := 83) dX11_riderOf_83 fl_X11_191 hP15 (fun x_12 hP16 => ?_)
            clear hP15
            exact bz_retI (pc := 86) dX11_riderOf_86 rfl rfl hP16
          · have hP17 := hP14.2 c
            clear hP14
            refine ⟨fun c => ?_, fun c => ?_⟩
            · have hP18 := hP17.1 c
              clear hP17
              show bz_J G κ kX11_riderOf (d + 1) F bc bs 87 [some (.inr (some a0)), some (.inl x1), some (.inl x2), some (.inr (some a_5))] [] h_9
              refine bz_aload_n (pc := 87) dX11_riderOf_87 rfl rfl ?_
              refine bz_rw_rI (pc := 88) dX11_riderOf_88 fl_X11_194 hP18 (fun x_13 hP19 => ?_)
              clear hP18
              exact bz_retI (pc := 91) dX11_riderOf_91 rfl rfl hP19
            · have hP20 := hP17.2 c
              clear hP17
              refine ⟨fun c => ?_, fun c => ?_⟩
              · have hP21 := hP20.1 c
                clear hP20
                show bz_J G κ kX11_riderOf (d + 1) F bc bs 92 [some (.inr (some a0)), some (.inl x1), some (.inl x2), some (.inr (some a_5))] [] h_9
                refine bz_aload_n (pc := 92) dX11_riderOf_92 rfl rfl ?_
                refine bz_rw_rR (pc := 93) dX11_riderOf_93 fl_X11_12 hP21 (fun r_14 hP22 => ?_)
                clear hP21
                refine bz_iload_n (pc := 96) dX11_riderOf_96 rfl rfl ?_
                obtain ⟨a_17, rfl, hP23⟩ := hP22
                refine bz_kIV (as := [.inl x1]) (st := []) (ci := 10) (n := 1) (mc := 0) (ms := 0) (bc := bc) (bs := bs) (yc := kX10_engagedOf) (q := (RX10, TX10, 16)) (b := a_17) (pc := 97) dX11_riderOf_97 sc_X10_engagedOf ml_X11_197 im_X10_engagedOf se_X10_engagedOf rfl rfl rfl (Nat.le_of_ble_eq_true rfl) hP23 (fun x_15 h_16 hP24 => ?_)
                clear hP23
                exact bz_retI (pc := 100) dX11_riderOf_100 rfl rfl hP24
              · have hP25 := hP20.2 c
                clear hP20
                refine ⟨fun c => ?_, fun c => ?_⟩
                · have hP26 := hP25.1 c
                  clear hP25
                  show bz_J G κ kX11_riderOf (d + 1) F bc bs 101 [some (.inr (some a0)), some (.inl x1), some (.inl x2), some (.inr (some a_5))] [] h_9
                  refine bz_aload_n (pc := 101) dX11_riderOf_101 rfl rfl ?_
                  refine bz_rw_rR (pc := 102) dX11_riderOf_102 fl_X11_12 hP26 (fun r_18 hP27 => ?_)
                  clear hP26
                  refine bz_iload_n (pc := 105) dX11_riderOf_105 rfl rfl ?_
                  obtain ⟨a_21, rfl, hP28⟩ := hP27
                  refine bz_kIV (as := [.inl x1]) (st := []) (ci := 10) (n := 1) (mc := 0) (ms := 0) (bc := bc) (bs := bs) (yc := kX10_payOfRider) (q := (RX10, TX10, 16)) (b := a_21) (pc := 106) dX11_riderOf_106 sc_X10_payOfRider ml_X11_200 im_X10_payOfRider se_X10_payOfRider rfl rfl rfl (Nat.le_of_ble_eq_true rfl) hP28 (fun x_19 h_20 hP29 => ?_)
                  clear hP28
                  exact bz_retI (pc := 109) dX11_riderOf_109 rfl rfl hP29
                · have hP30 := hP25.2 c
                  clear hP25
                  refine ⟨fun c => ?_, fun c => ?_⟩
                  · have hP31 := hP30.1 c
                    clear hP30
                    show bz_J G κ kX11_riderOf (d + 1) F bc bs 110 [some (.inr (some a0)), some (.inl x1), some (.inl x2), some (.inr (some a_5))] [] h_9
                    refine bz_aload_n (pc := 110) dX11_riderOf_110 rfl rfl ?_
                    refine bz_rw_rR (pc := 111) dX11_riderOf_111 fl_X11_12 hP31 (fun r_22 hP32 => ?_)
                    clear hP31
                    refine bz_iload_n (pc := 114) dX11_riderOf_114 rfl rfl ?_
                    obtain ⟨a_25, rfl, hP33⟩ := hP32
                    refine bz_kIV (as := [.inl x1]) (st := []) (ci := 10) (n := 1) (mc := 0) (ms := 0) (bc := bc) (bs := bs) (yc := kX10_ratingOfRider) (q := (RX10, TX10, 16)) (b := a_25) (pc := 115) dX11_riderOf_115 sc_X10_ratingOfRider ml_X11_203 im_X10_ratingOfRider se_X10_ratingOfRider rfl rfl rfl (Nat.le_of_ble_eq_true rfl) hP33 (fun x_23 h_24 hP34 => ?_)
                    clear hP33
                    exact bz_retI (pc := 118) dX11_riderOf_118 rfl rfl hP34
                  · have hP35 := hP30.2 c
                    clear hP30
                    show bz_J G κ kX11_riderOf (d + 1) F bc bs 119 [some (.inr (some a0)), some (.inl x1), some (.inl x2), some (.inr (some a_5))] [] h_9
                    refine bz_aload_n (pc := 119) dX11_riderOf_119 rfl rfl ?_
                    refine bz_rw_rI (pc := 120) dX11_riderOf_120 fl_X11_206 hP35 (fun x_26 hP36 => ?_)
                    clear hP35
                    exact bz_retI (pc := 123) dX11_riderOf_123 rfl rfl hP36
    · have hP37 := hP7.2 c
      clear hP7
      refine bz_aload_n (pc := 23) dX11_riderOf_23 rfl rfl ?_
      refine bz_ldc (pc := 24) dX11_riderOf_24 ct_X11_78 ?_
      refine bz_kIV (as := [.inl (-1000001)]) (st := []) (ci := 11) (n := 1) (mc := 0) (ms := 0) (bc := bc) (bs := bs) (yc := kX11_finding) (q := (RX11, TX11, 9)) (b := a0) (pc := 26) dX11_riderOf_26 sc_X11_finding ml_X11_79 im_X11_finding se_X11_finding rfl rfl rfl (Nat.le_of_ble_eq_true rfl) hP37 (fun x_27 h_28 hP38 => ?_)
      clear hP37
      exact bz_retI (pc := 29) dX11_riderOf_29 rfl rfl hP38
theorem m_X11_riderOf {G : bz_G} {l : Launch} {d mc ms : Nat} {F : Option bz_V → bz_H → Prop} (a0 : Nat) (x1 : Int32) (x2 : Int32) (h : bz_H) (hP : w_X11_riderOf_0 G l d F a0 x1 x2 h) : bz_Call G l (d + 1) kX11_riderOf [.inr (some a0), .inl x1, .inl x2] h mc ms F :=
  bz_body (by decide) (Nat.le_of_ble_eq_true rfl) (fun κ hl => g_X11_riderOf_0 hl a0 x1 x2 h hP)
def w_X11_rider_0 (G : bz_G) (l : Launch) (d : Nat) (F : Option bz_V → bz_H → Prop) (a0 : Nat) (x1 : Int32) (x2 : Int32) (h : bz_H) : Prop := bz_cI G l d kX11_isWithin [.inl x1, .inl 0, .inl 6] h 0 0 (fun x_1 h_2 => (x_1 = 0 → bz_rc h_2 a0 11 (bz_cI G l d kX11_finding [.inr (some a0), .inl (-1000001)] h_2 0 0 (fun x_3 h_4 => F (some (.inl x_3)) h_4))) ∧ (¬ (x_1 = 0) → bz_cI G l d kX11_isCrossing [.inl x2] h_2 0 0 (fun x_5 h_6 => (¬ x_5 = 0 → bz_rR h_6 a0 11 0 (fun r_7 => bz_nn r_7 (fun a_8 => bz_rI h_6 a_8 10 10 (fun x_9 => (x_9 < 12 → bz_rR h_6 a0 11 0 (fun r_10 => bz_nn r_10 (fun a_13 => bz_rc h_6 a_13 10 (bz_cV G l d kX10_addRider [.inr (some a_13), .inl x1, .inl x2] h_6 0 0 (fun h_12 => bz_rR h_12 a0 11 0 (fun r_14 => bz_nn r_14 (fun a_15 => bz_rI h_12 a_15 10 10 (fun x_16 => F (some (.inl (x_16 - 1))) h_12)))))))) ∧ (¬ (x_9 < 12) → bz_rc h_6 a0 11 (bz_cI G l d kX11_finding [.inr (some a0), .inl (-1000002)] h_6 0 0 (fun x_17 h_18 => F (some (.inl x_17)) h_18))))))) ∧ (x_5 = 0 → bz_rc h_6 a0 11 (bz_cI G l d kX11_finding [.inr (some a0), .inl (-1000001)] h_6 0 0 (fun x_19 h_20 => F (some (.inl x_19)) h_20))))))
set_option maxRecDepth 20000 in
set_option maxHeartbeats 4000000 in
theorem g_X11_rider_0 {G : bz_G} {κ : bz_K} {l : Launch} {d : Nat} {F : Option bz_V → bz_H → Prop} {bc bs : Nat} (hl : κ.2.1 = l) (a0 : Nat) (x1 : Int32) (x2 : Int32) (h : bz_H) (hP0 : w_X11_rider_0 G l d F a0 x1 x2 h) : bz_J G κ kX11_rider (d + 1) F bc bs 0 [some (.inr (some a0)), some (.inl x1), some (.inl x2)] [] h := by
  subst hl
  unfold w_X11_rider_0 at hP0
  refine bz_iload_n (pc := 0) dX11_rider_0 rfl rfl ?_
  refine bz_iconst (pc := 1) dX11_rider_1 ci_0 ?_
  refine bz_bipush (pc := 2) dX11_rider_2 cb_6 ?_
  refine bz_kIS (as := [.inl x1, .inl 0, .inl 6]) (st := []) (n := 3) (mc := 0) (ms := 0) (bc := bc) (bs := bs) (yc := kX11_isWithin) (pc := 4) dX11_rider_4 sc_X11_isWithin ml_X11_74 ss_X11_isWithin rfl (Nat.le_of_ble_eq_true rfl) hP0 (fun x_1 h_2 hP1 => ?_)
  clear hP0
  refine bz_if_eq (tgt := 17) (pc := 7) dX11_rider_7 rfl (fun c => ?_) (fun c => ?_)
  · have hP2 := hP1.1 c
    clear hP1
    refine bz_aload_n (pc := 17) dX11_rider_17 rfl rfl ?_
    refine bz_ldc (pc := 18) dX11_rider_18 ct_X11_78 ?_
    refine bz_kIV (as := [.inl (-1000001)]) (st := []) (ci := 11) (n := 1) (mc := 0) (ms := 0) (bc := bc) (bs := bs) (yc := kX11_finding) (q := (RX11, TX11, 9)) (b := a0) (pc := 20) dX11_rider_20 sc_X11_finding ml_X11_79 im_X11_finding se_X11_finding rfl rfl rfl (Nat.le_of_ble_eq_true rfl) hP2 (fun x_3 h_4 hP3 => ?_)
    clear hP2
    exact bz_retI (pc := 23) dX11_rider_23 rfl rfl hP3
  · have hP4 := hP1.2 c
    clear hP1
    refine bz_iload_n (pc := 10) dX11_rider_10 rfl rfl ?_
    refine bz_kIS (as := [.inl x2]) (st := []) (n := 1) (mc := 0) (ms := 0) (bc := bc) (bs := bs) (yc := kX11_isCrossing) (pc := 11) dX11_rider_11 sc_X11_isCrossing ml_X11_70 ss_X11_isCrossing rfl (Nat.le_of_ble_eq_true rfl) hP4 (fun x_5 h_6 hP5 => ?_)
    clear hP4
    refine bz_if_ne (tgt := 24) (pc := 14) dX11_rider_14 rfl (fun c => ?_) (fun c => ?_)
    · have hP6 := hP5.1 c
      clear hP5
      refine bz_aload_n (pc := 24) dX11_rider_24 rfl rfl ?_
      refine bz_rw_rR (pc := 25) dX11_rider_25 fl_X11_12 hP6 (fun r_7 hP7 => ?_)
      clear hP6
      obtain ⟨a_8, rfl, hP8⟩ := hP7
      refine bz_rw_rI (pc := 28) dX11_rider_28 fl_X11_172 hP8 (fun x_9 hP9 => ?_)
      clear hP8
      refine bz_bipush (pc := 31) dX11_rider_31 cb_12 ?_
      refine bz_icmp_lt (tgt := 43) (pc := 33) dX11_rider_33 rfl (fun c => ?_) (fun c => ?_)
      · have hP10 := hP9.1 c
        clear hP9
        refine bz_aload_n (pc := 43) dX11_rider_43 rfl rfl ?_
        refine bz_rw_rR (pc := 44) dX11_rider_44 fl_X11_12 hP10 (fun r_10 hP11 => ?_)
        clear hP10
        refine bz_iload_n (pc := 47) dX11_rider_47 rfl rfl ?_
        refine bz_iload_n (pc := 48) dX11_rider_48 rfl rfl ?_
        obtain ⟨a_13, rfl, hP12⟩ := hP11
        refine bz_kVV (as := [.inl x1, .inl x2]) (st := []) (ci := 10) (n := 2) (mc := 0) (ms := 0) (bc := bc) (bs := bs) (yc := kX10_addRider) (q := (RX10, TX10, 16)) (b := a_13) (pc := 49) dX11_rider_49 sc_X10_addRider ml_X11_175 im_X10_addRider se_X10_addRider rfl rfl rfl (Nat.le_of_ble_eq_true rfl) hP12 (fun h_12 hP13 => ?_)
        clear hP12
        refine bz_aload_n (pc := 52) dX11_rider_52 rfl rfl ?_
        refine bz_rw_rR (pc := 53) dX11_rider_53 fl_X11_12 hP13 (fun r_14 hP14 => ?_)
        clear hP13
        obtain ⟨a_15, rfl, hP15⟩ := hP14
        refine bz_rw_rI (pc := 56) dX11_rider_56 fl_X11_172 hP15 (fun x_16 hP16 => ?_)
        clear hP15
        refine bz_iconst (pc := 59) dX11_rider_59 ci_1 ?_
        refine bz_isub (pc := 60) dX11_rider_60 ?_
        exact bz_retI (pc := 61) dX11_rider_61 rfl rfl hP16
      · have hP17 := hP9.2 c
        clear hP9
        refine bz_aload_n (pc := 36) dX11_rider_36 rfl rfl ?_
        refine bz_ldc (pc := 37) dX11_rider_37 ct_X11_118 ?_
        refine bz_kIV (as := [.inl (-1000002)]) (st := []) (ci := 11) (n := 1) (mc := 0) (ms := 0) (bc := bc) (bs := bs) (yc := kX11_finding) (q := (RX11, TX11, 9)) (b := a0) (pc := 39) dX11_rider_39 sc_X11_finding ml_X11_79 im_X11_finding se_X11_finding rfl rfl rfl (Nat.le_of_ble_eq_true rfl) hP17 (fun x_17 h_18 hP18 => ?_)
        clear hP17
        exact bz_retI (pc := 42) dX11_rider_42 rfl rfl hP18
    · have hP19 := hP5.2 c
      clear hP5
      refine bz_aload_n (pc := 17) dX11_rider_17 rfl rfl ?_
      refine bz_ldc (pc := 18) dX11_rider_18 ct_X11_78 ?_
      refine bz_kIV (as := [.inl (-1000001)]) (st := []) (ci := 11) (n := 1) (mc := 0) (ms := 0) (bc := bc) (bs := bs) (yc := kX11_finding) (q := (RX11, TX11, 9)) (b := a0) (pc := 20) dX11_rider_20 sc_X11_finding ml_X11_79 im_X11_finding se_X11_finding rfl rfl rfl (Nat.le_of_ble_eq_true rfl) hP19 (fun x_19 h_20 hP20 => ?_)
      clear hP19
      exact bz_retI (pc := 23) dX11_rider_23 rfl rfl hP20
theorem m_X11_rider {G : bz_G} {l : Launch} {d mc ms : Nat} {F : Option bz_V → bz_H → Prop} (a0 : Nat) (x1 : Int32) (x2 : Int32) (h : bz_H) (hP : w_X11_rider_0 G l d F a0 x1 x2 h) : bz_Call G l (d + 1) kX11_rider [.inr (some a0), .inl x1, .inl x2] h mc ms F :=
  bz_body (by decide) (Nat.le_of_ble_eq_true rfl) (fun κ hl => g_X11_rider_0 hl a0 x1 x2 h hP)
def w_X11_road_0 (G : bz_G) (l : Launch) (d : Nat) (F : Option bz_V → bz_H → Prop) (a0 : Nat) (x1 : Int32) (x2 : Int32) (x3 : Int32) (h : bz_H) : Prop := bz_cI G l d kX11_isRoad [.inl x1, .inl x2, .inl x3] h 0 0 (fun x_1 h_2 => (¬ x_1 = 0 → bz_rR h_2 a0 11 0 (fun r_3 => bz_nn r_3 (fun a_4 => bz_rR h_2 a_4 10 0 (fun r_5 => bz_nn r_5 (fun a_8 => bz_rc h_2 a_8 8 (bz_cI G l d kX8_addRoad [.inr (some a_8), .inl x1, .inl x2, .inl x3] h_2 0 0 (fun x_6 h_7 => F (some (.inl x_6)) h_7))))))) ∧ (x_1 = 0 → bz_rc h_2 a0 11 (bz_cI G l d kX11_finding [.inr (some a0), .inl (-1000001)] h_2 0 0 (fun x_9 h_10 => F (some (.inl x_9)) h_10))))
set_option maxRecDepth 20000 in
set_option maxHeartbeats 4000000 in
theorem g_X11_road_0 {G : bz_G} {κ : bz_K} {l : Launch} {d : Nat} {F : Option bz_V → bz_H → Prop} {bc bs : Nat} (hl : κ.2.1 = l) (a0 : Nat) (x1 : Int32) (x2 : Int32) (x3 : Int32) (h : bz_H) (hP0 : w_X11_road_0 G l d F a0 x1 x2 x3 h) : bz_J G κ kX11_road (d + 1) F bc bs 0 [some (.inr (some a0)), some (.inl x1), some (.inl x2), some (.inl x3)] [] h := by
  subst hl
  unfold w_X11_road_0 at hP0
  refine bz_iload_n (pc := 0) dX11_road_0 rfl rfl ?_
  refine bz_iload_n (pc := 1) dX11_road_1 rfl rfl ?_
  refine bz_iload_n (pc := 2) dX11_road_2 rfl rfl ?_
  refine bz_kIS (as := [.inl x1, .inl x2, .inl x3]) (st := []) (n := 3) (mc := 0) (ms := 0) (bc := bc) (bs := bs) (yc := kX11_isRoad) (pc := 3) dX11_road_3 sc_X11_isRoad ml_X11_92 ss_X11_isRoad rfl (Nat.le_of_ble_eq_true rfl) hP0 (fun x_1 h_2 hP1 => ?_)
  clear hP0
  refine bz_if_ne (tgt := 16) (pc := 6) dX11_road_6 rfl (fun c => ?_) (fun c => ?_)
  · have hP2 := hP1.1 c
    clear hP1
    refine bz_aload_n (pc := 16) dX11_road_16 rfl rfl ?_
    refine bz_rw_rR (pc := 17) dX11_road_17 fl_X11_12 hP2 (fun r_3 hP3 => ?_)
    clear hP2
    obtain ⟨a_4, rfl, hP4⟩ := hP3
    refine bz_rw_rR (pc := 20) dX11_road_20 fl_X11_43 hP4 (fun r_5 hP5 => ?_)
    clear hP4
    refine bz_iload_n (pc := 23) dX11_road_23 rfl rfl ?_
    refine bz_iload_n (pc := 24) dX11_road_24 rfl rfl ?_
    refine bz_iload_n (pc := 25) dX11_road_25 rfl rfl ?_
    obtain ⟨a_8, rfl, hP6⟩ := hP5
    refine bz_kIV (as := [.inl x1, .inl x2, .inl x3]) (st := []) (ci := 8) (n := 3) (mc := 0) (ms := 0) (bc := bc) (bs := bs) (yc := kX8_addRoad) (q := (RX8, TX8, 4)) (b := a_8) (pc := 26) dX11_road_26 sc_X8_addRoad ml_X11_95 im_X8_addRoad se_X8_addRoad rfl rfl rfl (Nat.le_of_ble_eq_true rfl) hP6 (fun x_6 h_7 hP7 => ?_)
    clear hP6
    exact bz_retI (pc := 29) dX11_road_29 rfl rfl hP7
  · have hP8 := hP1.2 c
    clear hP1
    refine bz_aload_n (pc := 9) dX11_road_9 rfl rfl ?_
    refine bz_ldc (pc := 10) dX11_road_10 ct_X11_78 ?_
    refine bz_kIV (as := [.inl (-1000001)]) (st := []) (ci := 11) (n := 1) (mc := 0) (ms := 0) (bc := bc) (bs := bs) (yc := kX11_finding) (q := (RX11, TX11, 9)) (b := a0) (pc := 12) dX11_road_12 sc_X11_finding ml_X11_79 im_X11_finding se_X11_finding rfl rfl rfl (Nat.le_of_ble_eq_true rfl) hP8 (fun x_9 h_10 hP9 => ?_)
    clear hP8
    exact bz_retI (pc := 15) dX11_road_15 rfl rfl hP9
theorem m_X11_road {G : bz_G} {l : Launch} {d mc ms : Nat} {F : Option bz_V → bz_H → Prop} (a0 : Nat) (x1 : Int32) (x2 : Int32) (x3 : Int32) (h : bz_H) (hP : w_X11_road_0 G l d F a0 x1 x2 x3 h) : bz_Call G l (d + 1) kX11_road [.inr (some a0), .inl x1, .inl x2, .inl x3] h mc ms F :=
  bz_body (by decide) (Nat.le_of_ble_eq_true rfl) (fun κ hl => g_X11_road_0 hl a0 x1 x2 x3 h hP)
def w_X11_roads_0 (G : bz_G) (κ : bz_K) (l : Launch) (d : Nat) (F : Option bz_V → bz_H → Prop) (bc bs : Nat) (a0 : Nat) (x1 : Int32) (h : bz_H) : Prop := bz_rc h a0 11 (bz_cR G l d kX11_sheetAt [.inr (some a0), .inl x1] h 0 0 (fun r_1 h_2 => (∀ a_3, r_1 = some a_3 → bz_rc h_2 a_3 5 (bz_cI G l d kX5_isMissing [.inr (some a_3)] h_2 0 0 (fun x_6 h_7 => (x_6 = 0 → bz_J G κ kX11_roads (d + 1) F bc bs 37 [some (.inr (some a0)), some (.inl x1), some (.inr (some a_3)), some (.inl 0), some (.inl 0), none, none, none] [] h_7) ∧ (¬ (x_6 = 0) → bz_rc h_7 a0 11 (bz_cI G l d kX11_finding [.inr (some a0), .inl (-1000006)] h_7 0 0 (fun x_8 h_9 => F (some (.inl x_8)) h_9)))))) ∧ (r_1 = none → bz_rc h_2 a0 11 (bz_cI G l d kX11_finding [.inr (some a0), .inl (-1000001)] h_2 0 0 (fun x_4 h_5 => F (some (.inl x_4)) h_5)))))
set_option maxRecDepth 20000 in
set_option maxHeartbeats 4000000 in
theorem g_X11_roads_0 {G : bz_G} {κ : bz_K} {l : Launch} {d : Nat} {F : Option bz_V → bz_H → Prop} {bc bs : Nat} (hl : κ.2.1 = l) (a0 : Nat) (x1 : Int32) (h : bz_H) (hP0 : w_X11_roads_0 G κ l d F bc bs a0 x1 h) : bz_J G κ kX11_roads (d + 1) F bc bs 0 [some (.inr (some a0)), some (.inl x1), none, none, none, none, none, none] [] h := by
  subst hl
  unfold w_X11_roads_0 at hP0
  refine bz_aload_n (pc := 0) dX11_roads_0 rfl rfl ?_
  refine bz_iload_n (pc := 1) dX11_roads_1 rfl rfl ?_
  refine bz_kRV (as := [.inl x1]) (st := []) (ci := 11) (n := 1) (mc := 0) (ms := 0) (bc := bc) (bs := bs) (yc := kX11_sheetAt) (q := (RX11, TX11, 9)) (b := a0) (pc := 2) dX11_roads_2 sc_X11_sheetAt ml_X11_380 im_X11_sheetAt se_X11_sheetAt rfl rfl rfl (Nat.le_of_ble_eq_true rfl) hP0 (fun r_1 h_2 hP1 => ?_)
  clear hP0
  refine bz_s_astore_n (pc := 5) dX11_roads_5 rfl (Nat.le_of_ble_eq_true rfl) [some (.inr (some a0)), some (.inl x1), some (.inr r_1), none, none, none, none, none] rfl ?_
  refine bz_aload_n (pc := 6) dX11_roads_6 rfl rfl ?_
  refine bz_ifnonnull (tgt := 17) (pc := 7) dX11_roads_7 rfl (fun a_3 c => ?_) (fun c => ?_)
  · have hP2 := hP1.1 a_3 c
    clear hP1
    subst c
    refine bz_aload_n (pc := 17) dX11_roads_17 rfl rfl ?_
    refine bz_kIV (as := []) (st := []) (ci := 5) (n := 0) (mc := 0) (ms := 0) (bc := bc) (bs := bs) (yc := kX5_isMissing) (q := (RX5, TX5, 3)) (b := a_3) (pc := 18) dX11_roads_18 sc_X5_isMissing ml_X11_389 im_X5_isMissing se_X5_isMissing rfl rfl rfl (Nat.le_of_ble_eq_true rfl) hP2 (fun x_6 h_7 hP3 => ?_)
    clear hP2
    refine bz_if_eq (tgt := 32) (pc := 21) dX11_roads_21 rfl (fun c => ?_) (fun c => ?_)
    · have hP4 := hP3.1 c
      clear hP3
      refine bz_iconst (pc := 32) dX11_roads_32 ci_0 ?_
      refine bz_s_istore_n (pc := 33) dX11_roads_33 rfl (Nat.le_of_ble_eq_true rfl) [some (.inr (some a0)), some (.inl x1), some (.inr (some a_3)), some (.inl 0), none, none, none, none] rfl ?_
      refine bz_iconst (pc := 34) dX11_roads_34 ci_0 ?_
      refine bz_s_istore (pc := 35) dX11_roads_35 (Nat.le_of_ble_eq_true rfl) [some (.inr (some a0)), some (.inl x1), some (.inr (some a_3)), some (.inl 0), some (.inl 0), none, none, none] rfl ?_
      exact hP4
    · have hP5 := hP3.2 c
      clear hP3
      refine bz_aload_n (pc := 24) dX11_roads_24 rfl rfl ?_
      refine bz_ldcw (pc := 25) dX11_roads_25 ct_X11_374 ?_
      refine bz_kIV (as := [.inl (-1000006)]) (st := []) (ci := 11) (n := 1) (mc := 0) (ms := 0) (bc := bc) (bs := bs) (yc := kX11_finding) (q := (RX11, TX11, 9)) (b := a0) (pc := 28) dX11_roads_28 sc_X11_finding ml_X11_79 im_X11_finding se_X11_finding rfl rfl rfl (Nat.le_of_ble_eq_true rfl) hP5 (fun x_8 h_9 hP6 => ?_)
      clear hP5
      exact bz_retI (pc := 31) dX11_roads_31 rfl rfl hP6
  · have hP7 := hP1.2 c
    clear hP1
    subst c
    refine bz_aload_n (pc := 10) dX11_roads_10 rfl rfl ?_
    refine bz_ldc (pc := 11) dX11_roads_11 ct_X11_78 ?_
    refine bz_kIV (as := [.inl (-1000001)]) (st := []) (ci := 11) (n := 1) (mc := 0) (ms := 0) (bc := bc) (bs := bs) (yc := kX11_finding) (q := (RX11, TX11, 9)) (b := a0) (pc := 13) dX11_roads_13 sc_X11_finding ml_X11_79 im_X11_finding se_X11_finding rfl rfl rfl (Nat.le_of_ble_eq_true rfl) hP7 (fun x_4 h_5 hP8 => ?_)
    clear hP7
    exact bz_retI (pc := 16) dX11_roads_16 rfl rfl hP8
def w_X11_roads_37 (G : bz_G) (κ : bz_K) (l : Launch) (d : Nat) (F : Option bz_V → bz_H → Prop) (bc bs : Nat) (a0 : Nat) (x1 : Int32) (r2 : Option Nat) (x3 : Int32) (x4 : Int32) (u5 : Option bz_V) (u6 : Option bz_V) (u7 : Option bz_V) (h : bz_H) : Prop := bz_nn r2 (fun a_10 => bz_rI h a_10 5 2 (fun x_11 => (x_11 ≤ (x4 + 2) → F (some (.inl x3)) h) ∧ (¬ (x_11 ≤ (x4 + 2)) → bz_rR h a_10 5 0 (fun r_12 => bz_nn r_12 (fun a_13 => bz_rA h a_13 x4 (fun x_14 => bz_rR h a_10 5 0 (fun r_15 => bz_nn r_15 (fun a_16 => bz_rA h a_16 (x4 + 1) (fun x_17 => bz_rR h a_10 5 0 (fun r_18 => bz_nn r_18 (fun a_19 => bz_rA h a_19 (x4 + 2) (fun x_20 => bz_cI G l d kX11_isRoad [.inl x_14, .inl x_17, .inl x_20] h 0 0 (fun x_21 h_22 => (¬ x_21 = 0 → bz_rR h_22 a0 11 0 (fun r_23 => bz_nn r_23 (fun a_24 => bz_rR h_22 a_24 10 0 (fun r_25 => bz_nn r_25 (fun a_28 => bz_rc h_22 a_28 8 (bz_cI G l d kX8_addRoad [.inr (some a_28), .inl x_14, .inl x_17, .inl x_20] h_22 0 0 (fun x_26 h_27 => bz_J G κ kX11_roads (d + 1) F bc bs 37 [some (.inr (some a0)), some (.inl x1), some (.inr (some a_10)), some (.inl (x3 + 1)), some (.inl (x4 + 3)), some (.inl x_14), some (.inl x_17), some (.inl x_20)] [] h_27))))))) ∧ (x_21 = 0 → F (some (.inl x3)) h_22))))))))))))))
set_option maxRecDepth 20000 in
set_option maxHeartbeats 4000000 in
theorem g_X11_roads_37 {G : bz_G} {κ : bz_K} {l : Launch} {d : Nat} {F : Option bz_V → bz_H → Prop} {bc bs : Nat} (hl : κ.2.1 = l) (a0 : Nat) (x1 : Int32) (r2 : Option Nat) (x3 : Int32) (x4 : Int32) (u5 : Option bz_V) (u6 : Option bz_V) (u7 : Option bz_V) (h : bz_H) (hP0 : w_X11_roads_37 G κ l d F bc bs a0 x1 r2 x3 x4 u5 u6 u7 h) : bz_J G κ kX11_roads (d + 1) F bc bs 37 [some (.inr (some a0)), some (.inl x1), some (.inr r2), some (.inl x3), some (.inl x4), u5, u6, u7] [] h := by
  subst hl
  unfold w_X11_roads_37 at hP0
  refine bz_iload (pc := 37) dX11_roads_37 rfl ?_
  refine bz_iconst (pc := 39) dX11_roads_39 ci_2 ?_
  refine bz_iadd (pc := 40) dX11_roads_40 ?_
  refine bz_aload_n (pc := 41) dX11_roads_41 rfl rfl ?_
  obtain ⟨a_10, rfl, hP1⟩ := hP0
  refine bz_rw_rI (pc := 42) dX11_roads_42 fl_X11_388 hP1 (fun x_11 hP2 => ?_)
  clear hP1
  refine bz_icmp_ge (tgt := 120) (pc := 45) dX11_roads_45 rfl (fun c => ?_) (fun c => ?_)
  · have hP3 := hP2.1 c
    clear hP2
    refine bz_iload_n (pc := 120) dX11_roads_120 rfl rfl ?_
    exact bz_retI (pc := 121) dX11_roads_121 rfl rfl hP3
  · have hP4 := hP2.2 c
    clear hP2
    refine bz_aload_n (pc := 48) dX11_roads_48 rfl rfl ?_
    refine bz_rw_rR (pc := 49) dX11_roads_49 fl_X11_401 hP4 (fun r_12 hP5 => ?_)
    clear hP4
    refine bz_iload (pc := 52) dX11_roads_52 rfl ?_
    obtain ⟨a_13, rfl, hP6⟩ := hP5
    refine bz_rw_rA (pc := 54) dX11_roads_54 hP6 (fun x_14 hP7 => ?_)
    clear hP6
    refine bz_s_istore (pc := 55) dX11_roads_55 (Nat.le_of_ble_eq_true rfl) [some (.inr (some a0)), some (.inl x1), some (.inr (some a_10)), some (.inl x3), some (.inl x4), some (.inl x_14), u6, u7] rfl ?_
    refine bz_aload_n (pc := 57) dX11_roads_57 rfl rfl ?_
    refine bz_rw_rR (pc := 58) dX11_roads_58 fl_X11_401 hP7 (fun r_15 hP8 => ?_)
    clear hP7
    refine bz_iload (pc := 61) dX11_roads_61 rfl ?_
    refine bz_iconst (pc := 63) dX11_roads_63 ci_1 ?_
    refine bz_iadd (pc := 64) dX11_roads_64 ?_
    obtain ⟨a_16, rfl, hP9⟩ := hP8
    refine bz_rw_rA (pc := 65) dX11_roads_65 hP9 (fun x_17 hP10 => ?_)
    clear hP9
    refine bz_s_istore (pc := 66) dX11_roads_66 (Nat.le_of_ble_eq_true rfl) [some (.inr (some a0)), some (.inl x1), some (.inr (some a_10)), some (.inl x3), some (.inl x4), some (.inl x_14), some (.inl x_17), u7] rfl ?_
    refine bz_aload_n (pc := 68) dX11_roads_68 rfl rfl ?_
    refine bz_rw_rR (pc := 69) dX11_roads_69 fl_X11_401 hP10 (fun r_18 hP11 => ?_)
    clear hP10
    refine bz_iload (pc := 72) dX11_roads_72 rfl ?_
    refine bz_iconst (pc := 74) dX11_roads_74 ci_2 ?_
    refine bz_iadd (pc := 75) dX11_roads_75 ?_
    obtain ⟨a_19, rfl, hP12⟩ := hP11
    refine bz_rw_rA (pc := 76) dX11_roads_76 hP12 (fun x_20 hP13 => ?_)
    clear hP12
    refine bz_s_istore (pc := 77) dX11_roads_77 (Nat.le_of_ble_eq_true rfl) [some (.inr (some a0)), some (.inl x1), some (.inr (some a_10)), some (.inl x3), some (.inl x4), some (.inl x_14), some (.inl x_17), some (.inl x_20)] rfl ?_
    refine bz_iload (pc := 79) dX11_roads_79 rfl ?_
    refine bz_iload (pc := 81) dX11_roads_81 rfl ?_
    refine bz_iload (pc := 83) dX11_roads_83 rfl ?_
    refine bz_kIS (as := [.inl x_14, .inl x_17, .inl x_20]) (st := []) (n := 3) (mc := 0) (ms := 0) (bc := bc) (bs := bs) (yc := kX11_isRoad) (pc := 85) dX11_roads_85 sc_X11_isRoad ml_X11_92 ss_X11_isRoad rfl (Nat.le_of_ble_eq_true rfl) hP13 (fun x_21 h_22 hP14 => ?_)
    clear hP13
    refine bz_if_ne (tgt := 94) (pc := 88) dX11_roads_88 rfl (fun c => ?_) (fun c => ?_)
    · have hP15 := hP14.1 c
      clear hP14
      refine bz_aload_n (pc := 94) dX11_roads_94 rfl rfl ?_
      refine bz_rw_rR (pc := 95) dX11_roads_95 fl_X11_12 hP15 (fun r_23 hP16 => ?_)
      clear hP15
      obtain ⟨a_24, rfl, hP17⟩ := hP16
      refine bz_rw_rR (pc := 98) dX11_roads_98 fl_X11_43 hP17 (fun r_25 hP18 => ?_)
      clear hP17
      refine bz_iload (pc := 101) dX11_roads_101 rfl ?_
      refine bz_iload (pc := 103) dX11_roads_103 rfl ?_
      refine bz_iload (pc := 105) dX11_roads_105 rfl ?_
      obtain ⟨a_28, rfl, hP19⟩ := hP18
      refine bz_kIV (as := [.inl x_14, .inl x_17, .inl x_20]) (st := []) (ci := 8) (n := 3) (mc := 0) (ms := 0) (bc := bc) (bs := bs) (yc := kX8_addRoad) (q := (RX8, TX8, 4)) (b := a_28) (pc := 107) dX11_roads_107 sc_X8_addRoad ml_X11_95 im_X8_addRoad se_X8_addRoad rfl rfl rfl (Nat.le_of_ble_eq_true rfl) hP19 (fun x_26 h_27 hP20 => ?_)
      clear hP19
      refine bz_pop (pc := 110) dX11_roads_110 ?_
      refine bz_s_iinc (pc := 111) dX11_roads_111 (Nat.le_of_ble_eq_true rfl) rfl rfl [some (.inr (some a0)), some (.inl x1), some (.inr (some a_10)), some (.inl (x3 + 1)), some (.inl x4), some (.inl x_14), some (.inl x_17), some (.inl x_20)] rfl ?_
      refine bz_s_iinc (pc := 114) dX11_roads_114 (Nat.le_of_ble_eq_true rfl) rfl rfl [some (.inr (some a0)), some (.inl x1), some (.inr (some a_10)), some (.inl (x3 + 1)), some (.inl (x4 + 3)), some (.inl x_14), some (.inl x_17), some (.inl x_20)] rfl ?_
      refine bz_goto (tgt := 37) (pc := 117) dX11_roads_117 rfl ?_
      exact hP20
    · have hP21 := hP14.2 c
      clear hP14
      refine bz_goto (tgt := 120) (pc := 91) dX11_roads_91 rfl ?_
      refine bz_iload_n (pc := 120) dX11_roads_120 rfl rfl ?_
      exact bz_retI (pc := 121) dX11_roads_121 rfl rfl hP21
theorem m_X11_roads {G : bz_G} {l : Launch} {d mc ms : Nat} {F : Option bz_V → bz_H → Prop} (a0 : Nat) (x1 : Int32) (h : bz_H) (hP : ∀ (κ : bz_K) (bc bs : Nat), κ.2.1 = l → w_X11_roads_0 G κ l d F bc bs a0 x1 h) : bz_Call G l (d + 1) kX11_roads [.inr (some a0), .inl x1] h mc ms F :=
  bz_body (by decide) (Nat.le_of_ble_eq_true rfl) (fun κ hl => g_X11_roads_0 hl a0 x1 h (hP κ mc ms hl))
def w_X11_says_0 (G : bz_G) (l : Launch) (d : Nat) (F : Option bz_V → bz_H → Prop) (a0 : Nat) (x1 : Int32) (x2 : Int32) (x3 : Int32) (h : bz_H) : Prop := bz_rR h a0 11 0 (fun r_1 => bz_nn r_1 (fun a_4 => bz_rc h a_4 10 (bz_cR G l d kX10_textAt [.inr (some a_4), .inl x1] h 0 0 (fun r_2 h_3 => bz_rR h_3 a0 11 0 (fun r_5 => bz_nn r_5 (fun a_8 => bz_rc h_3 a_8 10 (bz_cR G l d kX10_riderAt [.inr (some a_8), .inl x2] h_3 0 0 (fun r_6 h_7 => bz_rR h_7 a0 11 0 (fun r_9 => bz_nn r_9 (fun a_12 => bz_rc h_7 a_12 10 (bz_cR G l d kX10_orderAt [.inr (some a_12), .inl x3] h_7 0 0 (fun r_10 h_11 => (r_2 = none → bz_rc h_11 a0 11 (bz_cI G l d kX11_finding [.inr (some a0), .inl (-1000001)] h_11 0 0 (fun x_14 h_15 => F (some (.inl x_14)) h_15))) ∧ (∀ a_13, r_2 = some a_13 → (r_6 = none → bz_rc h_11 a0 11 (bz_cI G l d kX11_finding [.inr (some a0), .inl (-1000001)] h_11 0 0 (fun x_17 h_18 => F (some (.inl x_17)) h_18))) ∧ (∀ a_16, r_6 = some a_16 → (∀ a_19, r_10 = some a_19 → bz_rR h_11 a0 11 0 (fun r_22 => bz_rR h_11 a0 11 7 (fun r_23 => bz_nn r_22 (fun a_26 => bz_rc h_11 a_26 10 (bz_cV G l d kX10_nameRider [.inr (some a_26), .inr r_23, .inl x2, .inr (some a_19)] h_11 0 0 (fun h_25 => bz_rI h_25 a_19 2 7 (fun x_27 => (¬ x_27 = 1 → bz_rR h_25 a0 11 6 (fun r_28 => bz_rI h_25 a_16 3 1 (fun x_29 => bz_rI h_25 a_16 3 4 (fun x_30 => bz_rR h_25 a0 11 0 (fun r_31 => bz_nn r_31 (fun a_32 => bz_rI h_25 a_32 10 12 (fun x_33 => bz_rc h_25 a_16 3 (bz_cI G l d kX3_startFrom [.inr (some a_16), .inl x_33] h_25 0 0 (fun x_34 h_35 => bz_nn r_28 (fun a_38 => bz_rc h_35 a_38 9 (bz_cI G l d kX9_planOne [.inr (some a_38), .inl x_29, .inl x_30, .inl x_34, .inr (some a_19)] h_35 0 0 (fun x_36 h_37 => bz_rR h_37 a0 11 7 (fun r_39 => bz_rR h_37 a0 11 0 (fun r_40 => bz_nn r_40 (fun a_41 => bz_rI h_37 a_41 10 12 (fun x_42 => bz_rI h_37 a_19 2 3 (fun x_43 => (x_36 = 0 → bz_nn r_39 (fun a_46 => bz_rc h_37 a_46 0 (bz_cV G l d kX0_putTimes [.inr (some a_46), .inl (x_42 - x_43), .inl 0] h_37 0 0 (fun h_45 => bz_rR h_45 a0 11 7 (fun r_47 => bz_nn r_47 (fun a_50 => bz_rc h_45 a_50 0 (bz_cI G l d kX0_worthOf [.inr (some a_50), .inr (some a_13)] h_45 0 0 (fun x_48 h_49 => F (some (.inl x_48)) h_49)))))))) ∧ (¬ (x_36 = 0) → bz_rR h_37 a0 11 6 (fun r_51 => bz_nn r_51 (fun a_52 => bz_rI h_37 a_52 9 10 (fun x_53 => bz_nn r_39 (fun a_56 => bz_rc h_37 a_56 0 (bz_cV G l d kX0_putTimes [.inr (some a_56), .inl (x_42 - x_43), .inl x_53] h_37 0 0 (fun h_55 => bz_rR h_55 a0 11 7 (fun r_57 => bz_nn r_57 (fun a_60 => bz_rc h_55 a_60 0 (bz_cI G l d kX0_worthOf [.inr (some a_60), .inr (some a_13)] h_55 0 0 (fun x_58 h_59 => F (some (.inl x_58)) h_59)))))))))))))))))))))))))))) ∧ (x_27 = 1 → bz_rR h_25 a0 11 7 (fun r_61 => bz_rI h_25 a_19 2 9 (fun x_62 => bz_rI h_25 a_19 2 3 (fun x_63 => bz_rI h_25 a_19 2 11 (fun x_64 => bz_nn r_61 (fun a_67 => bz_rc h_25 a_67 0 (bz_cV G l d kX0_putTimes [.inr (some a_67), .inl (x_62 - x_63), .inl x_64] h_25 0 0 (fun h_66 => bz_rR h_66 a0 11 7 (fun r_68 => bz_nn r_68 (fun a_71 => bz_rc h_66 a_71 0 (bz_cI G l d kX0_worthOf [.inr (some a_71), .inr (some a_13)] h_66 0 0 (fun x_69 h_70 => F (some (.inl x_69)) h_70))))))))))))))))))) ∧ (r_10 = none → bz_rc h_11 a0 11 (bz_cI G l d kX11_finding [.inr (some a0), .inl (-1000001)] h_11 0 0 (fun x_20 h_21 => F (some (.inl x_20)) h_21)))))))))))))))))
set_option maxRecDepth 20000 in
set_option maxHeartbeats 4000000 in
theorem g_X11_says_0 {G : bz_G} {κ : bz_K} {l : Launch} {d : Nat} {F : Option bz_V → bz_H → Prop} {bc bs : Nat} (hl : κ.2.1 = l) (a0 : Nat) (x1 : Int32) (x2 : Int32) (x3 : Int32) (h : bz_H) (hP0 : w_X11_says_0 G l d F a0 x1 x2 x3 h) : bz_J G κ kX11_says (d + 1) F bc bs 0 [some (.inr (some a0)), some (.inl x1), some (.inl x2), some (.inl x3), none, none, none, none] [] h := by
  subst hl
  unfold w_X11_says_0 at hP0
  refine bz_aload_n (pc := 0) dX11_says_0 rfl rfl ?_
  refine bz_rw_rR (pc := 1) dX11_says_1 fl_X11_12 hP0 (fun r_1 hP1 => ?_)
  clear hP0
  refine bz_iload_n (pc := 4) dX11_says_4 rfl rfl ?_
  obtain ⟨a_4, rfl, hP2⟩ := hP1
  refine bz_kRV (as := [.inl x1]) (st := []) (ci := 10) (n := 1) (mc := 0) (ms := 0) (bc := bc) (bs := bs) (yc := kX10_textAt) (q := (RX10, TX10, 16)) (b := a_4) (pc := 5) dX11_says_5 sc_X10_textAt ml_X11_281 im_X10_textAt se_X10_textAt rfl rfl rfl (Nat.le_of_ble_eq_true rfl) hP2 (fun r_2 h_3 hP3 => ?_)
  clear hP2
  refine bz_s_astore (pc := 8) dX11_says_8 (Nat.le_of_ble_eq_true rfl) [some (.inr (some a0)), some (.inl x1), some (.inl x2), some (.inl x3), some (.inr r_2), none, none, none] rfl ?_
  refine bz_aload_n (pc := 10) dX11_says_10 rfl rfl ?_
  refine bz_rw_rR (pc := 11) dX11_says_11 fl_X11_12 hP3 (fun r_5 hP4 => ?_)
  clear hP3
  refine bz_iload_n (pc := 14) dX11_says_14 rfl rfl ?_
  obtain ⟨a_8, rfl, hP5⟩ := hP4
  refine bz_kRV (as := [.inl x2]) (st := []) (ci := 10) (n := 1) (mc := 0) (ms := 0) (bc := bc) (bs := bs) (yc := kX10_riderAt) (q := (RX10, TX10, 16)) (b := a_8) (pc := 15) dX11_says_15 sc_X10_riderAt ml_X11_179 im_X10_riderAt se_X10_riderAt rfl rfl rfl (Nat.le_of_ble_eq_true rfl) hP5 (fun r_6 h_7 hP6 => ?_)
  clear hP5
  refine bz_s_astore (pc := 18) dX11_says_18 (Nat.le_of_ble_eq_true rfl) [some (.inr (some a0)), some (.inl x1), some (.inl x2), some (.inl x3), some (.inr r_2), some (.inr r_6), none, none] rfl ?_
  refine bz_aload_n (pc := 20) dX11_says_20 rfl rfl ?_
  refine bz_rw_rR (pc := 21) dX11_says_21 fl_X11_12 hP6 (fun r_9 hP7 => ?_)
  clear hP6
  refine bz_iload_n (pc := 24) dX11_says_24 rfl rfl ?_
  obtain ⟨a_12, rfl, hP8⟩ := hP7
  refine bz_kRV (as := [.inl x3]) (st := []) (ci := 10) (n := 1) (mc := 0) (ms := 0) (bc := bc) (bs := bs) (yc := kX10_orderAt) (q := (RX10, TX10, 16)) (b := a_12) (pc := 25) dX11_says_25 sc_X10_orderAt ml_X11_132 im_X10_orderAt se_X10_orderAt rfl rfl rfl (Nat.le_of_ble_eq_true rfl) hP8 (fun r_10 h_11 hP9 => ?_)
  clear hP8
  refine bz_s_astore (pc := 28) dX11_says_28 (Nat.le_of_ble_eq_true rfl) [some (.inr (some a0)), some (.inl x1), some (.inl x2), some (.inl x3), some (.inr r_2), some (.inr r_6), some (.inr r_10), none] rfl ?_
  refine bz_aload (pc := 30) dX11_says_30 rfl ?_
  refine bz_ifnull (tgt := 45) (pc := 32) dX11_says_32 rfl (fun c => ?_) (fun a_13 c => ?_)
  · have hP10 := hP9.1 c
    clear hP9
    subst c
    refine bz_aload_n (pc := 45) dX11_says_45 rfl rfl ?_
    refine bz_ldc (pc := 46) dX11_says_46 ct_X11_78 ?_
    refine bz_kIV (as := [.inl (-1000001)]) (st := []) (ci := 11) (n := 1) (mc := 0) (ms := 0) (bc := bc) (bs := bs) (yc := kX11_finding) (q := (RX11, TX11, 9)) (b := a0) (pc := 48) dX11_says_48 sc_X11_finding ml_X11_79 im_X11_finding se_X11_finding rfl rfl rfl (Nat.le_of_ble_eq_true rfl) hP10 (fun x_14 h_15 hP11 => ?_)
    clear hP10
    exact bz_retI (pc := 51) dX11_says_51 rfl rfl hP11
  · have hP12 := hP9.2 a_13 c
    clear hP9
    subst c
    refine bz_aload (pc := 35) dX11_says_35 rfl ?_
    refine bz_ifnull (tgt := 45) (pc := 37) dX11_says_37 rfl (fun c => ?_) (fun a_16 c => ?_)
    · have hP13 := hP12.1 c
      clear hP12
      subst c
      refine bz_aload_n (pc := 45) dX11_says_45 rfl rfl ?_
      refine bz_ldc (pc := 46) dX11_says_46 ct_X11_78 ?_
      refine bz_kIV (as := [.inl (-1000001)]) (st := []) (ci := 11) (n := 1) (mc := 0) (ms := 0) (bc := bc) (bs := bs) (yc := kX11_finding) (q := (RX11, TX11, 9)) (b := a0) (pc := 48) dX11_says_48 sc_X11_finding ml_X11_79 im_X11_finding se_X11_finding rfl rfl rfl (Nat.le_of_ble_eq_true rfl) hP13 (fun x_17 h_18 hP14 => ?_)
      clear hP13
      exact bz_retI (pc := 51) dX11_says_51 rfl rfl hP14
    · have hP15 := hP12.2 a_16 c
      clear hP12
      subst c
      refine bz_aload (pc := 40) dX11_says_40 rfl ?_
      refine bz_ifnonnull (tgt := 52) (pc := 42) dX11_says_42 rfl (fun a_19 c => ?_) (fun c => ?_)
      · have hP16 := hP15.1 a_19 c
        clear hP15
        subst c
        refine bz_aload_n (pc := 52) dX11_says_52 rfl rfl ?_
        refine bz_rw_rR (pc := 53) dX11_says_53 fl_X11_12 hP16 (fun r_22 hP17 => ?_)
        clear hP16
        refine bz_aload_n (pc := 56) dX11_says_56 rfl rfl ?_
        refine bz_rw_rR (pc := 57) dX11_says_57 fl_X11_57 hP17 (fun r_23 hP18 => ?_)
        clear hP17
        refine bz_iload_n (pc := 60) dX11_says_60 rfl rfl ?_
        refine bz_aload (pc := 61) dX11_says_61 rfl ?_
        obtain ⟨a_26, rfl, hP19⟩ := hP18
        refine bz_kVV (as := [.inr r_23, .inl x2, .inr (some a_19)]) (st := []) (ci := 10) (n := 3) (mc := 0) (ms := 0) (bc := bc) (bs := bs) (yc := kX10_nameRider) (q := (RX10, TX10, 16)) (b := a_26) (pc := 63) dX11_says_63 sc_X10_nameRider ml_X11_285 im_X10_nameRider se_X10_nameRider rfl rfl rfl (Nat.le_of_ble_eq_true rfl) hP19 (fun h_25 hP20 => ?_)
        clear hP19
        refine bz_aload (pc := 66) dX11_says_66 rfl ?_
        refine bz_rw_rI (pc := 68) dX11_says_68 fl_X11_136 hP20 (fun x_27 hP21 => ?_)
        clear hP20
        refine bz_iconst (pc := 71) dX11_says_71 ci_1 ?_
        refine bz_icmp_ne (tgt := 101) (pc := 72) dX11_says_72 rfl (fun c => ?_) (fun c => ?_)
        · have hP22 := hP21.1 c
          clear hP21
          refine bz_aload_n (pc := 101) dX11_says_101 rfl rfl ?_
          refine bz_rw_rR (pc := 102) dX11_says_102 fl_X11_50 hP22 (fun r_28 hP23 => ?_)
          clear hP22
          refine bz_aload (pc := 105) dX11_says_105 rfl ?_
          refine bz_rw_rI (pc := 107) dX11_says_107 fl_X11_183 hP23 (fun x_29 hP24 => ?_)
          clear hP23
          refine bz_aload (pc := 110) dX11_says_110 rfl ?_
          refine bz_rw_rI (pc := 112) dX11_says_112 fl_X11_188 hP24 (fun x_30 hP25 => ?_)
          clear hP24
          refine bz_aload (pc := 115) dX11_says_115 rfl ?_
          refine bz_aload_n (pc := 117) dX11_says_117 rfl rfl ?_
          refine bz_rw_rR (pc := 118) dX11_says_118 fl_X11_12 hP25 (fun r_31 hP26 => ?_)
          clear hP25
          obtain ⟨a_32, rfl, hP27⟩ := hP26
          refine bz_rw_rI (pc := 121) dX11_says_121 fl_X11_103 hP27 (fun x_33 hP28 => ?_)
          clear hP27
          refine bz_kIV (as := [.inl x_33]) (st := [.inl x_30, .inl x_29, .inr r_28]) (ci := 3) (n := 1) (mc := 0) (ms := 0) (bc := bc) (bs := bs) (yc := kX3_startFrom) (q := (RX3, TX3, 9)) (b := a_16) (pc := 124) dX11_says_124 sc_X3_startFrom ml_X11_212 im_X3_startFrom se_X3_startFrom rfl rfl rfl (Nat.le_of_ble_eq_true rfl) hP28 (fun x_34 h_35 hP29 => ?_)
          clear hP28
          refine bz_aload (pc := 127) dX11_says_127 rfl ?_
          obtain ⟨a_38, rfl, hP30⟩ := hP29
          refine bz_kIV (as := [.inl x_29, .inl x_30, .inl x_34, .inr (some a_19)]) (st := []) (ci := 9) (n := 4) (mc := 0) (ms := 0) (bc := bc) (bs := bs) (yc := kX9_planOne) (q := (RX9, TX9, 11)) (b := a_38) (pc := 129) dX11_says_129 sc_X9_planOne ml_X11_215 im_X9_planOne se_X9_planOne rfl rfl rfl (Nat.le_of_ble_eq_true rfl) hP30 (fun x_36 h_37 hP31 => ?_)
          clear hP30
          refine bz_s_istore (pc := 132) dX11_says_132 (Nat.le_of_ble_eq_true rfl) [some (.inr (some a0)), some (.inl x1), some (.inl x2), some (.inl x3), some (.inr (some a_13)), some (.inr (some a_16)), some (.inr (some a_19)), some (.inl x_36)] rfl ?_
          refine bz_aload_n (pc := 134) dX11_says_134 rfl rfl ?_
          refine bz_rw_rR (pc := 135) dX11_says_135 fl_X11_57 hP31 (fun r_39 hP32 => ?_)
          clear hP31
          refine bz_aload_n (pc := 138) dX11_says_138 rfl rfl ?_
          refine bz_rw_rR (pc := 139) dX11_says_139 fl_X11_12 hP32 (fun r_40 hP33 => ?_)
          clear hP32
          obtain ⟨a_41, rfl, hP34⟩ := hP33
          refine bz_rw_rI (pc := 142) dX11_says_142 fl_X11_103 hP34 (fun x_42 hP35 => ?_)
          clear hP34
          refine bz_aload (pc := 145) dX11_says_145 rfl ?_
          refine bz_rw_rI (pc := 147) dX11_says_147 fl_X11_147 hP35 (fun x_43 hP36 => ?_)
          clear hP35
          refine bz_isub (pc := 150) dX11_says_150 ?_
          refine bz_iload (pc := 151) dX11_says_151 rfl ?_
          refine bz_if_eq (tgt := 166) (pc := 153) dX11_says_153 rfl (fun c => ?_) (fun c => ?_)
          · have hP37 := hP36.1 c
            clear hP36
            refine bz_iconst (pc := 166) dX11_says_166 ci_0 ?_
            obtain ⟨a_46, rfl, hP38⟩ := hP37
            refine bz_kVV (as := [.inl (x_42 - x_43), .inl 0]) (st := []) (ci := 0) (n := 2) (mc := 0) (ms := 0) (bc := bc) (bs := bs) (yc := kX0_putTimes) (q := (RX0, TX0, 2)) (b := a_46) (pc := 167) dX11_says_167 sc_X0_putTimes ml_X11_289 im_X0_putTimes se_X0_putTimes rfl rfl rfl (Nat.le_of_ble_eq_true rfl) hP38 (fun h_45 hP39 => ?_)
            clear hP38
            refine bz_aload_n (pc := 170) dX11_says_170 rfl rfl ?_
            refine bz_rw_rR (pc := 171) dX11_says_171 fl_X11_57 hP39 (fun r_47 hP40 => ?_)
            clear hP39
            refine bz_aload (pc := 174) dX11_says_174 rfl ?_
            obtain ⟨a_50, rfl, hP41⟩ := hP40
            refine bz_kIV (as := [.inr (some a_13)]) (st := []) (ci := 0) (n := 1) (mc := 0) (ms := 0) (bc := bc) (bs := bs) (yc := kX0_worthOf) (q := (RX0, TX0, 2)) (b := a_50) (pc := 176) dX11_says_176 sc_X0_worthOf ml_X11_292 im_X0_worthOf se_X0_worthOf rfl rfl rfl (Nat.le_of_ble_eq_true rfl) hP41 (fun x_48 h_49 hP42 => ?_)
            clear hP41
            exact bz_retI (pc := 179) dX11_says_179 rfl rfl hP42
          · have hP43 := hP36.2 c
            clear hP36
            refine bz_aload_n (pc := 156) dX11_says_156 rfl rfl ?_
            refine bz_rw_rR (pc := 157) dX11_says_157 fl_X11_50 hP43 (fun r_51 hP44 => ?_)
            clear hP43
            obtain ⟨a_52, rfl, hP45⟩ := hP44
            refine bz_rw_rI (pc := 160) dX11_says_160 fl_X11_222 hP45 (fun x_53 hP46 => ?_)
            clear hP45
            refine bz_goto (tgt := 167) (pc := 163) dX11_says_163 rfl ?_
            obtain ⟨a_56, rfl, hP47⟩ := hP46
            refine bz_kVV (as := [.inl (x_42 - x_43), .inl x_53]) (st := []) (ci := 0) (n := 2) (mc := 0) (ms := 0) (bc := bc) (bs := bs) (yc := kX0_putTimes) (q := (RX0, TX0, 2)) (b := a_56) (pc := 167) dX11_says_167 sc_X0_putTimes ml_X11_289 im_X0_putTimes se_X0_putTimes rfl rfl rfl (Nat.le_of_ble_eq_true rfl) hP47 (fun h_55 hP48 => ?_)
            clear hP47
            refine bz_aload_n (pc := 170) dX11_says_170 rfl rfl ?_
            refine bz_rw_rR (pc := 171) dX11_says_171 fl_X11_57 hP48 (fun r_57 hP49 => ?_)
            clear hP48
            refine bz_aload (pc := 174) dX11_says_174 rfl ?_
            obtain ⟨a_60, rfl, hP50⟩ := hP49
            refine bz_kIV (as := [.inr (some a_13)]) (st := []) (ci := 0) (n := 1) (mc := 0) (ms := 0) (bc := bc) (bs := bs) (yc := kX0_worthOf) (q := (RX0, TX0, 2)) (b := a_60) (pc := 176) dX11_says_176 sc_X0_worthOf ml_X11_292 im_X0_worthOf se_X0_worthOf rfl rfl rfl (Nat.le_of_ble_eq_true rfl) hP50 (fun x_58 h_59 hP51 => ?_)
            clear hP50
            exact bz_retI (pc := 179) dX11_says_179 rfl rfl hP51
        · have hP52 := hP21.2 c
          clear hP21
          refine bz_aload_n (pc := 75) dX11_says_75 rfl rfl ?_
          refine bz_rw_rR (pc := 76) dX11_says_76 fl_X11_57 hP52 (fun r_61 hP53 => ?_)
          clear hP52
          refine bz_aload (pc := 79) dX11_says_79 rfl ?_
          refine bz_rw_rI (pc := 81) dX11_says_81 fl_X11_156 hP53 (fun x_62 hP54 => ?_)
          clear hP53
          refine bz_aload (pc := 84) dX11_says_84 rfl ?_
          refine bz_rw_rI (pc := 86) dX11_says_86 fl_X11_147 hP54 (fun x_63 hP55 => ?_)
          clear hP54
          refine bz_isub (pc := 89) dX11_says_89 ?_
          refine bz_aload (pc := 90) dX11_says_90 rfl ?_
          refine bz_rw_rI (pc := 92) dX11_says_92 fl_X11_162 hP55 (fun x_64 hP56 => ?_)
          clear hP55
          obtain ⟨a_67, rfl, hP57⟩ := hP56
          refine bz_kVV (as := [.inl (x_62 - x_63), .inl x_64]) (st := []) (ci := 0) (n := 2) (mc := 0) (ms := 0) (bc := bc) (bs := bs) (yc := kX0_putTimes) (q := (RX0, TX0, 2)) (b := a_67) (pc := 95) dX11_says_95 sc_X0_putTimes ml_X11_289 im_X0_putTimes se_X0_putTimes rfl rfl rfl (Nat.le_of_ble_eq_true rfl) hP57 (fun h_66 hP58 => ?_)
          clear hP57
          refine bz_goto (tgt := 170) (pc := 98) dX11_says_98 rfl ?_
          refine bz_aload_n (pc := 170) dX11_says_170 rfl rfl ?_
          refine bz_rw_rR (pc := 171) dX11_says_171 fl_X11_57 hP58 (fun r_68 hP59 => ?_)
          clear hP58
          refine bz_aload (pc := 174) dX11_says_174 rfl ?_
          obtain ⟨a_71, rfl, hP60⟩ := hP59
          refine bz_kIV (as := [.inr (some a_13)]) (st := []) (ci := 0) (n := 1) (mc := 0) (ms := 0) (bc := bc) (bs := bs) (yc := kX0_worthOf) (q := (RX0, TX0, 2)) (b := a_71) (pc := 176) dX11_says_176 sc_X0_worthOf ml_X11_292 im_X0_worthOf se_X0_worthOf rfl rfl rfl (Nat.le_of_ble_eq_true rfl) hP60 (fun x_69 h_70 hP61 => ?_)
          clear hP60
          exact bz_retI (pc := 179) dX11_says_179 rfl rfl hP61
      · have hP62 := hP15.2 c
        clear hP15
        subst c
        refine bz_aload_n (pc := 45) dX11_says_45 rfl rfl ?_
        refine bz_ldc (pc := 46) dX11_says_46 ct_X11_78 ?_
        refine bz_kIV (as := [.inl (-1000001)]) (st := []) (ci := 11) (n := 1) (mc := 0) (ms := 0) (bc := bc) (bs := bs) (yc := kX11_finding) (q := (RX11, TX11, 9)) (b := a0) (pc := 48) dX11_says_48 sc_X11_finding ml_X11_79 im_X11_finding se_X11_finding rfl rfl rfl (Nat.le_of_ble_eq_true rfl) hP62 (fun x_20 h_21 hP63 => ?_)
        clear hP62
        exact bz_retI (pc := 51) dX11_says_51 rfl rfl hP63
theorem m_X11_says {G : bz_G} {l : Launch} {d mc ms : Nat} {F : Option bz_V → bz_H → Prop} (a0 : Nat) (x1 : Int32) (x2 : Int32) (x3 : Int32) (h : bz_H) (hP : w_X11_says_0 G l d F a0 x1 x2 x3 h) : bz_Call G l (d + 1) kX11_says [.inr (some a0), .inl x1, .inl x2, .inl x3] h mc ms F :=
  bz_body (by decide) (Nat.le_of_ble_eq_true rfl) (fun κ hl => g_X11_says_0 hl a0 x1 x2 x3 h hP)
def w_X11_seen_0 (G : bz_G) (l : Launch) (d : Nat) (F : Option bz_V → bz_H → Prop) (a0 : Nat) (x1 : Int32) (x2 : Int32) (x3 : Int32) (h : bz_H) : Prop := bz_rR h a0 11 0 (fun r_1 => bz_nn r_1 (fun a_4 => bz_rc h a_4 10 (bz_cR G l d kX10_riderAt [.inr (some a_4), .inl x1] h 0 0 (fun r_2 h_3 => (r_2 = none → bz_rc h_3 a0 11 (bz_cI G l d kX11_finding [.inr (some a0), .inl (-1000001)] h_3 0 0 (fun x_6 h_7 => F (some (.inl x_6)) h_7))) ∧ (∀ a_5, r_2 = some a_5 → bz_cI G l d kX11_isCrossing [.inl x2] h_3 0 0 (fun x_8 h_9 => (x_8 = 0 → bz_rc h_9 a0 11 (bz_cI G l d kX11_finding [.inr (some a0), .inl (-1000001)] h_9 0 0 (fun x_10 h_11 => F (some (.inl x_10)) h_11))) ∧ (¬ (x_8 = 0) → bz_cI G l d kX11_isMinute [.inl x3] h_9 0 0 (fun x_12 h_13 => (¬ x_12 = 0 → bz_rR h_13 a0 11 0 (fun r_14 => bz_nn r_14 (fun a_15 => bz_rR h_13 a_15 10 7 (fun r_16 => bz_nn r_16 (fun a_19 => bz_rc h_13 a_19 4 (bz_cI G l d kX4_isFull [.inr (some a_19)] h_13 0 0 (fun x_17 h_18 => (x_17 = 0 → bz_rR h_18 a0 11 0 (fun r_20 => bz_nn r_20 (fun a_21 => bz_rR h_18 a_21 10 7 (fun r_22 => bz_nn r_22 (fun a_25 => bz_rc h_18 a_25 4 (bz_cI G l d kX4_add [.inr (some a_25), .inl x1, .inl x2, .inl x3] h_18 0 0 (fun x_23 h_24 => F (some (.inl x_23)) h_24))))))) ∧ (¬ (x_17 = 0) → bz_rc h_18 a0 11 (bz_cI G l d kX11_finding [.inr (some a0), .inl (-1000002)] h_18 0 0 (fun x_26 h_27 => F (some (.inl x_26)) h_27)))))))))) ∧ (x_12 = 0 → bz_rc h_13 a0 11 (bz_cI G l d kX11_finding [.inr (some a0), .inl (-1000001)] h_13 0 0 (fun x_28 h_29 => F (some (.inl x_28)) h_29)))))))))))
set_option maxRecDepth 20000 in
set_option maxHeartbeats 4000000 in
theorem g_X11_seen_0 {G : bz_G} {κ : bz_K} {l : Launch} {d : Nat} {F : Option bz_V → bz_H → Prop} {bc bs : Nat} (hl : κ.2.1 = l) (a0 : Nat) (x1 : Int32) (x2 : Int32) (x3 : Int32) (h : bz_H) (hP0 : w_X11_seen_0 G l d F a0 x1 x2 x3 h) : bz_J G κ kX11_seen (d + 1) F bc bs 0 [some (.inr (some a0)), some (.inl x1), some (.inl x2), some (.inl x3)] [] h := by
  subst hl
  unfold w_X11_seen_0 at hP0
  refine bz_aload_n (pc := 0) dX11_seen_0 rfl rfl ?_
  refine bz_rw_rR (pc := 1) dX11_seen_1 fl_X11_12 hP0 (fun r_1 hP1 => ?_)
  clear hP0
  refine bz_iload_n (pc := 4) dX11_seen_4 rfl rfl ?_
  obtain ⟨a_4, rfl, hP2⟩ := hP1
  refine bz_kRV (as := [.inl x1]) (st := []) (ci := 10) (n := 1) (mc := 0) (ms := 0) (bc := bc) (bs := bs) (yc := kX10_riderAt) (q := (RX10, TX10, 16)) (b := a_4) (pc := 5) dX11_seen_5 sc_X10_riderAt ml_X11_179 im_X10_riderAt se_X10_riderAt rfl rfl rfl (Nat.le_of_ble_eq_true rfl) hP2 (fun r_2 h_3 hP3 => ?_)
  clear hP2
  refine bz_ifnull (tgt := 25) (pc := 8) dX11_seen_8 rfl (fun c => ?_) (fun a_5 c => ?_)
  · have hP4 := hP3.1 c
    clear hP3
    subst c
    refine bz_aload_n (pc := 25) dX11_seen_25 rfl rfl ?_
    refine bz_ldc (pc := 26) dX11_seen_26 ct_X11_78 ?_
    refine bz_kIV (as := [.inl (-1000001)]) (st := []) (ci := 11) (n := 1) (mc := 0) (ms := 0) (bc := bc) (bs := bs) (yc := kX11_finding) (q := (RX11, TX11, 9)) (b := a0) (pc := 28) dX11_seen_28 sc_X11_finding ml_X11_79 im_X11_finding se_X11_finding rfl rfl rfl (Nat.le_of_ble_eq_true rfl) hP4 (fun x_6 h_7 hP5 => ?_)
    clear hP4
    exact bz_retI (pc := 31) dX11_seen_31 rfl rfl hP5
  · have hP6 := hP3.2 a_5 c
    clear hP3
    subst c
    refine bz_iload_n (pc := 11) dX11_seen_11 rfl rfl ?_
    refine bz_kIS (as := [.inl x2]) (st := []) (n := 1) (mc := 0) (ms := 0) (bc := bc) (bs := bs) (yc := kX11_isCrossing) (pc := 12) dX11_seen_12 sc_X11_isCrossing ml_X11_70 ss_X11_isCrossing rfl (Nat.le_of_ble_eq_true rfl) hP6 (fun x_8 h_9 hP7 => ?_)
    clear hP6
    refine bz_if_eq (tgt := 25) (pc := 15) dX11_seen_15 rfl (fun c => ?_) (fun c => ?_)
    · have hP8 := hP7.1 c
      clear hP7
      refine bz_aload_n (pc := 25) dX11_seen_25 rfl rfl ?_
      refine bz_ldc (pc := 26) dX11_seen_26 ct_X11_78 ?_
      refine bz_kIV (as := [.inl (-1000001)]) (st := []) (ci := 11) (n := 1) (mc := 0) (ms := 0) (bc := bc) (bs := bs) (yc := kX11_finding) (q := (RX11, TX11, 9)) (b := a0) (pc := 28) dX11_seen_28 sc_X11_finding ml_X11_79 im_X11_finding se_X11_finding rfl rfl rfl (Nat.le_of_ble_eq_true rfl) hP8 (fun x_10 h_11 hP9 => ?_)
      clear hP8
      exact bz_retI (pc := 31) dX11_seen_31 rfl rfl hP9
    · have hP10 := hP7.2 c
      clear hP7
      refine bz_iload_n (pc := 18) dX11_seen_18 rfl rfl ?_
      refine bz_kIS (as := [.inl x3]) (st := []) (n := 1) (mc := 0) (ms := 0) (bc := bc) (bs := bs) (yc := kX11_isMinute) (pc := 19) dX11_seen_19 sc_X11_isMinute ml_X11_313 ss_X11_isMinute rfl (Nat.le_of_ble_eq_true rfl) hP10 (fun x_12 h_13 hP11 => ?_)
      clear hP10
      refine bz_if_ne (tgt := 32) (pc := 22) dX11_seen_22 rfl (fun c => ?_) (fun c => ?_)
      · have hP12 := hP11.1 c
        clear hP11
        refine bz_aload_n (pc := 32) dX11_seen_32 rfl rfl ?_
        refine bz_rw_rR (pc := 33) dX11_seen_33 fl_X11_12 hP12 (fun r_14 hP13 => ?_)
        clear hP12
        obtain ⟨a_15, rfl, hP14⟩ := hP13
        refine bz_rw_rR (pc := 36) dX11_seen_36 fl_X11_340 hP14 (fun r_16 hP15 => ?_)
        clear hP14
        obtain ⟨a_19, rfl, hP16⟩ := hP15
        refine bz_kIV (as := []) (st := []) (ci := 4) (n := 0) (mc := 0) (ms := 0) (bc := bc) (bs := bs) (yc := kX4_isFull) (q := (RX4, TX4, 2)) (b := a_19) (pc := 39) dX11_seen_39 sc_X4_isFull ml_X11_112 im_X4_isFull se_X4_isFull rfl rfl rfl (Nat.le_of_ble_eq_true rfl) hP16 (fun x_17 h_18 hP17 => ?_)
        clear hP16
        refine bz_if_eq (tgt := 52) (pc := 42) dX11_seen_42 rfl (fun c => ?_) (fun c => ?_)
        · have hP18 := hP17.1 c
          clear hP17
          refine bz_aload_n (pc := 52) dX11_seen_52 rfl rfl ?_
          refine bz_rw_rR (pc := 53) dX11_seen_53 fl_X11_12 hP18 (fun r_20 hP19 => ?_)
          clear hP18
          obtain ⟨a_21, rfl, hP20⟩ := hP19
          refine bz_rw_rR (pc := 56) dX11_seen_56 fl_X11_340 hP20 (fun r_22 hP21 => ?_)
          clear hP20
          refine bz_iload_n (pc := 59) dX11_seen_59 rfl rfl ?_
          refine bz_iload_n (pc := 60) dX11_seen_60 rfl rfl ?_
          refine bz_iload_n (pc := 61) dX11_seen_61 rfl rfl ?_
          obtain ⟨a_25, rfl, hP22⟩ := hP21
          refine bz_kIV (as := [.inl x1, .inl x2, .inl x3]) (st := []) (ci := 4) (n := 3) (mc := 0) (ms := 0) (bc := bc) (bs := bs) (yc := kX4_add) (q := (RX4, TX4, 2)) (b := a_25) (pc := 62) dX11_seen_62 sc_X4_add ml_X11_119 im_X4_add se_X4_add rfl rfl rfl (Nat.le_of_ble_eq_true rfl) hP22 (fun x_23 h_24 hP23 => ?_)
          clear hP22
          exact bz_retI (pc := 65) dX11_seen_65 rfl rfl hP23
        · have hP24 := hP17.2 c
          clear hP17
          refine bz_aload_n (pc := 45) dX11_seen_45 rfl rfl ?_
          refine bz_ldc (pc := 46) dX11_seen_46 ct_X11_118 ?_
          refine bz_kIV (as := [.inl (-1000002)]) (st := []) (ci := 11) (n := 1) (mc := 0) (ms := 0) (bc := bc) (bs := bs) (yc := kX11_finding) (q := (RX11, TX11, 9)) (b := a0) (pc := 48) dX11_seen_48 sc_X11_finding ml_X11_79 im_X11_finding se_X11_finding rfl rfl rfl (Nat.le_of_ble_eq_true rfl) hP24 (fun x_26 h_27 hP25 => ?_)
          clear hP24
          exact bz_retI (pc := 51) dX11_seen_51 rfl rfl hP25
      · have hP26 := hP11.2 c
        clear hP11
        refine bz_aload_n (pc := 25) dX11_seen_25 rfl rfl ?_
        refine bz_ldc (pc := 26) dX11_seen_26 ct_X11_78 ?_
        refine bz_kIV (as := [.inl (-1000001)]) (st := []) (ci := 11) (n := 1) (mc := 0) (ms := 0) (bc := bc) (bs := bs) (yc := kX11_finding) (q := (RX11, TX11, 9)) (b := a0) (pc := 28) dX11_seen_28 sc_X11_finding ml_X11_79 im_X11_finding se_X11_finding rfl rfl rfl (Nat.le_of_ble_eq_true rfl) hP26 (fun x_28 h_29 hP27 => ?_)
        clear hP26
        exact bz_retI (pc := 31) dX11_seen_31 rfl rfl hP27
theorem m_X11_seen {G : bz_G} {l : Launch} {d mc ms : Nat} {F : Option bz_V → bz_H → Prop} (a0 : Nat) (x1 : Int32) (x2 : Int32) (x3 : Int32) (h : bz_H) (hP : w_X11_seen_0 G l d F a0 x1 x2 x3 h) : bz_Call G l (d + 1) kX11_seen [.inr (some a0), .inl x1, .inl x2, .inl x3] h mc ms F :=
  bz_body (by decide) (Nat.le_of_ble_eq_true rfl) (fun κ hl => g_X11_seen_0 hl a0 x1 x2 x3 h hP)
def w_X11_sheetAt_0 (G : bz_G) (l : Launch) (d : Nat) (F : Option bz_V → bz_H → Prop) (a0 : Nat) (x1 : Int32) (h : bz_H) : Prop := bz_cI G l d kX11_isWithin [.inl x1, .inl 0, .inl 3] h 0 0 (fun x_1 h_2 => (x_1 = 0 → F (some (.inr none)) h_2) ∧ (¬ (x_1 = 0) → bz_rR h_2 a0 11 4 (fun r_3 => bz_nn r_3 (fun a_4 => bz_rQ h_2 a_4 x1 (fun r_5 => F (some (.inr r_5)) h_2)))))
set_option maxRecDepth 20000 in
set_option maxHeartbeats 4000000 in
theorem g_X11_sheetAt_0 {G : bz_G} {κ : bz_K} {l : Launch} {d : Nat} {F : Option bz_V → bz_H → Prop} {bc bs : Nat} (hl : κ.2.1 = l) (a0 : Nat) (x1 : Int32) (h : bz_H) (hP0 : w_X11_sheetAt_0 G l d F a0 x1 h) : bz_J G κ kX11_sheetAt (d + 1) F bc bs 0 [some (.inr (some a0)), some (.inl x1)] [] h := by
  subst hl
  unfold w_X11_sheetAt_0 at hP0
  refine bz_iload_n (pc := 0) dX11_sheetAt_0 rfl rfl ?_
  refine bz_iconst (pc := 1) dX11_sheetAt_1 ci_0 ?_
  refine bz_iconst (pc := 2) dX11_sheetAt_2 ci_3 ?_
  refine bz_kIS (as := [.inl x1, .inl 0, .inl 3]) (st := []) (n := 3) (mc := 0) (ms := 0) (bc := bc) (bs := bs) (yc := kX11_isWithin) (pc := 3) dX11_sheetAt_3 sc_X11_isWithin ml_X11_74 ss_X11_isWithin rfl (Nat.le_of_ble_eq_true rfl) hP0 (fun x_1 h_2 hP1 => ?_)
  clear hP0
  refine bz_if_eq (tgt := 18) (pc := 6) dX11_sheetAt_6 rfl (fun c => ?_) (fun c => ?_)
  · have hP2 := hP1.1 c
    clear hP1
    refine bz_null (pc := 18) dX11_sheetAt_18 ?_
    exact bz_retR (pc := 19) dX11_sheetAt_19 rfl (by first | exact Or.inl ⟨_, rfl⟩ | exact Or.inr ⟨_, rfl⟩) hP2
  · have hP3 := hP1.2 c
    clear hP1
    refine bz_aload_n (pc := 9) dX11_sheetAt_9 rfl rfl ?_
    refine bz_rw_rR (pc := 10) dX11_sheetAt_10 fl_X11_32 hP3 (fun r_3 hP4 => ?_)
    clear hP3
    refine bz_iload_n (pc := 13) dX11_sheetAt_13 rfl rfl ?_
    obtain ⟨a_4, rfl, hP5⟩ := hP4
    refine bz_rw_ldq (pc := 14) dX11_sheetAt_14 hP5 (fun r_5 hP6 => ?_)
    clear hP5
    refine bz_goto (tgt := 19) (pc := 15) dX11_sheetAt_15 rfl ?_
    exact bz_retR (pc := 19) dX11_sheetAt_19 rfl (by first | exact Or.inl ⟨_, rfl⟩ | exact Or.inr ⟨_, rfl⟩) hP6
theorem m_X11_sheetAt {G : bz_G} {l : Launch} {d mc ms : Nat} {F : Option bz_V → bz_H → Prop} (a0 : Nat) (x1 : Int32) (h : bz_H) (hP : w_X11_sheetAt_0 G l d F a0 x1 h) : bz_Call G l (d + 1) kX11_sheetAt [.inr (some a0), .inl x1] h mc ms F :=
  bz_body (by decide) (Nat.le_of_ble_eq_true rfl) (fun κ hl => g_X11_sheetAt_0 hl a0 x1 h hP)
def w_X11_sheet_0 (G : bz_G) (l : Launch) (d : Nat) (F : Option bz_V → bz_H → Prop) (a0 : Nat) (x1 : Int32) (x2 : Int32) (x3 : Int32) (h : bz_H) : Prop := bz_rc h a0 11 (bz_cR G l d kX11_sheetAt [.inr (some a0), .inl x1] h 0 0 (fun r_1 h_2 => (r_1 = none → bz_rc h_2 a0 11 (bz_cI G l d kX11_finding [.inr (some a0), .inl (-1000001)] h_2 0 0 (fun x_4 h_5 => F (some (.inl x_4)) h_5))) ∧ (∀ a_3, r_1 = some a_3 → (x2 = 0 → (0 ≤ x3 → (x3 ≤ 60 → bz_rc h_2 a_3 5 (bz_cV G l d kX5_begin [.inr (some a_3), .inl x2, .inl x3] h_2 0 0 (fun h_7 => bz_rI h_7 a_3 5 2 (fun x_8 => F (some (.inl x_8)) h_7)))) ∧ (¬ (x3 ≤ 60) → bz_rc h_2 a0 11 (bz_cI G l d kX11_finding [.inr (some a0), .inl (-1000001)] h_2 0 0 (fun x_9 h_10 => F (some (.inl x_9)) h_10)))) ∧ (¬ (0 ≤ x3) → bz_rc h_2 a0 11 (bz_cI G l d kX11_finding [.inr (some a0), .inl (-1000007)] h_2 0 0 (fun x_11 h_12 => F (some (.inl x_11)) h_12)))) ∧ (¬ (x2 = 0) → (x2 = 8 → (0 ≤ x3 → (x3 ≤ 60 → bz_rc h_2 a_3 5 (bz_cV G l d kX5_begin [.inr (some a_3), .inl x2, .inl x3] h_2 0 0 (fun h_14 => bz_rI h_14 a_3 5 2 (fun x_15 => F (some (.inl x_15)) h_14)))) ∧ (¬ (x3 ≤ 60) → bz_rc h_2 a0 11 (bz_cI G l d kX11_finding [.inr (some a0), .inl (-1000001)] h_2 0 0 (fun x_16 h_17 => F (some (.inl x_16)) h_17)))) ∧ (¬ (0 ≤ x3) → bz_rc h_2 a0 11 (bz_cI G l d kX11_finding [.inr (some a0), .inl (-1000007)] h_2 0 0 (fun x_18 h_19 => F (some (.inl x_18)) h_19)))) ∧ (¬ (x2 = 8) → (x2 = 16 → (0 ≤ x3 → (x3 ≤ 60 → bz_rc h_2 a_3 5 (bz_cV G l d kX5_begin [.inr (some a_3), .inl x2, .inl x3] h_2 0 0 (fun h_21 => bz_rI h_21 a_3 5 2 (fun x_22 => F (some (.inl x_22)) h_21)))) ∧ (¬ (x3 ≤ 60) → bz_rc h_2 a0 11 (bz_cI G l d kX11_finding [.inr (some a0), .inl (-1000001)] h_2 0 0 (fun x_23 h_24 => F (some (.inl x_23)) h_24)))) ∧ (¬ (0 ≤ x3) → bz_rc h_2 a0 11 (bz_cI G l d kX11_finding [.inr (some a0), .inl (-1000007)] h_2 0 0 (fun x_25 h_26 => F (some (.inl x_25)) h_26)))) ∧ (¬ (x2 = 16) → (x2 = 32 → (0 ≤ x3 → (x3 ≤ 60 → bz_rc h_2 a_3 5 (bz_cV G l d kX5_begin [.inr (some a_3), .inl x2, .inl x3] h_2 0 0 (fun h_28 => bz_rI h_28 a_3 5 2 (fun x_29 => F (some (.inl x_29)) h_28)))) ∧ (¬ (x3 ≤ 60) → bz_rc h_2 a0 11 (bz_cI G l d kX11_finding [.inr (some a0), .inl (-1000001)] h_2 0 0 (fun x_30 h_31 => F (some (.inl x_30)) h_31)))) ∧ (¬ (0 ≤ x3) → bz_rc h_2 a0 11 (bz_cI G l d kX11_finding [.inr (some a0), .inl (-1000007)] h_2 0 0 (fun x_32 h_33 => F (some (.inl x_32)) h_33)))) ∧ (¬ (x2 = 32) → bz_rc h_2 a0 11 (bz_cI G l d kX11_finding [.inr (some a0), .inl (-1000001)] h_2 0 0 (fun x_34 h_35 => F (some (.inl x_34)) h_35)))))))))
set_option maxRecDepth 20000 in
set_option maxHeartbeats 4000000 in
theorem g_X11_sheet_0 {G : bz_G} {κ : bz_K} {l : Launch} {d : Nat} {F : Option bz_V → bz_H → Prop} {bc bs : Nat} (hl : κ.2.1 = l) (a0 : Nat) (x1 : Int32) (x2 : Int32) (x3 : Int32) (h : bz_H) (hP0 : w_X11_sheet_0 G l d F a0 x1 x2 x3 h) : bz_J G κ kX11_sheet (d + 1) F bc bs 0 [some (.inr (some a0)), some (.inl x1), some (.inl x2), some (.inl x3), none] [] h := by
  subst hl
  unfold w_X11_sheet_0 at hP0
  refine bz_aload_n (pc := 0) dX11_sheet_0 rfl rfl ?_
  refine bz_iload_n (pc := 1) dX11_sheet_1 rfl rfl ?_
  refine bz_kRV (as := [.inl x1]) (st := []) (ci := 11) (n := 1) (mc := 0) (ms := 0) (bc := bc) (bs := bs) (yc := kX11_sheetAt) (q := (RX11, TX11, 9)) (b := a0) (pc := 2) dX11_sheet_2 sc_X11_sheetAt ml_X11_380 im_X11_sheetAt se_X11_sheetAt rfl rfl rfl (Nat.le_of_ble_eq_true rfl) hP0 (fun r_1 h_2 hP1 => ?_)
  clear hP0
  refine bz_s_astore (pc := 5) dX11_sheet_5 (Nat.le_of_ble_eq_true rfl) [some (.inr (some a0)), some (.inl x1), some (.inl x2), some (.inl x3), some (.inr r_1)] rfl ?_
  refine bz_aload (pc := 7) dX11_sheet_7 rfl ?_
  refine bz_ifnull (tgt := 34) (pc := 9) dX11_sheet_9 rfl (fun c => ?_) (fun a_3 c => ?_)
  · have hP2 := hP1.1 c
    clear hP1
    subst c
    refine bz_aload_n (pc := 34) dX11_sheet_34 rfl rfl ?_
    refine bz_ldc (pc := 35) dX11_sheet_35 ct_X11_78 ?_
    refine bz_kIV (as := [.inl (-1000001)]) (st := []) (ci := 11) (n := 1) (mc := 0) (ms := 0) (bc := bc) (bs := bs) (yc := kX11_finding) (q := (RX11, TX11, 9)) (b := a0) (pc := 37) dX11_sheet_37 sc_X11_finding ml_X11_79 im_X11_finding se_X11_finding rfl rfl rfl (Nat.le_of_ble_eq_true rfl) hP2 (fun x_4 h_5 hP3 => ?_)
    clear hP2
    exact bz_retI (pc := 40) dX11_sheet_40 rfl rfl hP3
  · have hP4 := hP1.2 a_3 c
    clear hP1
    subst c
    refine bz_iload_n (pc := 12) dX11_sheet_12 rfl rfl ?_
    refine bz_if_eq (tgt := 41) (pc := 13) dX11_sheet_13 rfl (fun c => ?_) (fun c => ?_)
    · have hP5 := hP4.1 c
      clear hP4
      refine bz_iload_n (pc := 41) dX11_sheet_41 rfl rfl ?_
      refine bz_if_ge (tgt := 53) (pc := 42) dX11_sheet_42 rfl (fun c => ?_) (fun c => ?_)
      · have hP6 := hP5.1 c
        clear hP5
        refine bz_iload_n (pc := 53) dX11_sheet_53 rfl rfl ?_
        refine bz_bipush (pc := 54) dX11_sheet_54 cb_60 ?_
        refine bz_icmp_le (tgt := 66) (pc := 56) dX11_sheet_56 rfl (fun c => ?_) (fun c => ?_)
        · have hP7 := hP6.1 c
          clear hP6
          refine bz_aload (pc := 66) dX11_sheet_66 rfl ?_
          refine bz_iload_n (pc := 68) dX11_sheet_68 rfl rfl ?_
          refine bz_iload_n (pc := 69) dX11_sheet_69 rfl rfl ?_
          refine bz_kVV (as := [.inl x2, .inl x3]) (st := []) (ci := 5) (n := 2) (mc := 0) (ms := 0) (bc := bc) (bs := bs) (yc := kX5_begin) (q := (RX5, TX5, 3)) (b := a_3) (pc := 70) dX11_sheet_70 sc_X5_begin ml_X11_385 im_X5_begin se_X5_begin rfl rfl rfl (Nat.le_of_ble_eq_true rfl) hP7 (fun h_7 hP8 => ?_)
          clear hP7
          refine bz_aload (pc := 73) dX11_sheet_73 rfl ?_
          refine bz_rw_rI (pc := 75) dX11_sheet_75 fl_X11_388 hP8 (fun x_8 hP9 => ?_)
          clear hP8
          exact bz_retI (pc := 78) dX11_sheet_78 rfl rfl hP9
        · have hP10 := hP6.2 c
          clear hP6
          refine bz_aload_n (pc := 59) dX11_sheet_59 rfl rfl ?_
          refine bz_ldc (pc := 60) dX11_sheet_60 ct_X11_78 ?_
          refine bz_kIV (as := [.inl (-1000001)]) (st := []) (ci := 11) (n := 1) (mc := 0) (ms := 0) (bc := bc) (bs := bs) (yc := kX11_finding) (q := (RX11, TX11, 9)) (b := a0) (pc := 62) dX11_sheet_62 sc_X11_finding ml_X11_79 im_X11_finding se_X11_finding rfl rfl rfl (Nat.le_of_ble_eq_true rfl) hP10 (fun x_9 h_10 hP11 => ?_)
          clear hP10
          exact bz_retI (pc := 65) dX11_sheet_65 rfl rfl hP11
      · have hP12 := hP5.2 c
        clear hP5
        refine bz_aload_n (pc := 45) dX11_sheet_45 rfl rfl ?_
        refine bz_ldcw (pc := 46) dX11_sheet_46 ct_X11_384 ?_
        refine bz_kIV (as := [.inl (-1000007)]) (st := []) (ci := 11) (n := 1) (mc := 0) (ms := 0) (bc := bc) (bs := bs) (yc := kX11_finding) (q := (RX11, TX11, 9)) (b := a0) (pc := 49) dX11_sheet_49 sc_X11_finding ml_X11_79 im_X11_finding se_X11_finding rfl rfl rfl (Nat.le_of_ble_eq_true rfl) hP12 (fun x_11 h_12 hP13 => ?_)
        clear hP12
        exact bz_retI (pc := 52) dX11_sheet_52 rfl rfl hP13
    · have hP14 := hP4.2 c
      clear hP4
      refine bz_iload_n (pc := 16) dX11_sheet_16 rfl rfl ?_
      refine bz_bipush (pc := 17) dX11_sheet_17 cb_8 ?_
      refine bz_icmp_eq (tgt := 41) (pc := 19) dX11_sheet_19 rfl (fun c => ?_) (fun c => ?_)
      · have hP15 := hP14.1 c
        clear hP14
        refine bz_iload_n (pc := 41) dX11_sheet_41 rfl rfl ?_
        refine bz_if_ge (tgt := 53) (pc := 42) dX11_sheet_42 rfl (fun c => ?_) (fun c => ?_)
        · have hP16 := hP15.1 c
          clear hP15
          refine bz_iload_n (pc := 53) dX11_sheet_53 rfl rfl ?_
          refine bz_bipush (pc := 54) dX11_sheet_54 cb_60 ?_
          refine bz_icmp_le (tgt := 66) (pc := 56) dX11_sheet_56 rfl (fun c => ?_) (fun c => ?_)
          · have hP17 := hP16.1 c
            clear hP16
            refine bz_aload (pc := 66) dX11_sheet_66 rfl ?_
            refine bz_iload_n (pc := 68) dX11_sheet_68 rfl rfl ?_
            refine bz_iload_n (pc := 69) dX11_sheet_69 rfl rfl ?_
            refine bz_kVV (as := [.inl x2, .inl x3]) (st := []) (ci := 5) (n := 2) (mc := 0) (ms := 0) (bc := bc) (bs := bs) (yc := kX5_begin) (q := (RX5, TX5, 3)) (b := a_3) (pc := 70) dX11_sheet_70 sc_X5_begin ml_X11_385 im_X5_begin se_X5_begin rfl rfl rfl (Nat.le_of_ble_eq_true rfl) hP17 (fun h_14 hP18 => ?_)
            clear hP17
            refine bz_aload (pc := 73) dX11_sheet_73 rfl ?_
            refine bz_rw_rI (pc := 75) dX11_sheet_75 fl_X11_388 hP18 (fun x_15 hP19 => ?_)
            clear hP18
            exact bz_retI (pc := 78) dX11_sheet_78 rfl rfl hP19
          · have hP20 := hP16.2 c
            clear hP16
            refine bz_aload_n (pc := 59) dX11_sheet_59 rfl rfl ?_
            refine bz_ldc (pc := 60) dX11_sheet_60 ct_X11_78 ?_
            refine bz_kIV (as := [.inl (-1000001)]) (st := []) (ci := 11) (n := 1) (mc := 0) (ms := 0) (bc := bc) (bs := bs) (yc := kX11_finding) (q := (RX11, TX11, 9)) (b := a0) (pc := 62) dX11_sheet_62 sc_X11_finding ml_X11_79 im_X11_finding se_X11_finding rfl rfl rfl (Nat.le_of_ble_eq_true rfl) hP20 (fun x_16 h_17 hP21 => ?_)
            clear hP20
            exact bz_retI (pc := 65) dX11_sheet_65 rfl rfl hP21
        · have hP22 := hP15.2 c
          clear hP15
          refine bz_aload_n (pc := 45) dX11_sheet_45 rfl rfl ?_
          refine bz_ldcw (pc := 46) dX11_sheet_46 ct_X11_384 ?_
          refine bz_kIV (as := [.inl (-1000007)]) (st := []) (ci := 11) (n := 1) (mc := 0) (ms := 0) (bc := bc) (bs := bs) (yc := kX11_finding) (q := (RX11, TX11, 9)) (b := a0) (pc := 49) dX11_sheet_49 sc_X11_finding ml_X11_79 im_X11_finding se_X11_finding rfl rfl rfl (Nat.le_of_ble_eq_true rfl) hP22 (fun x_18 h_19 hP23 => ?_)
          clear hP22
          exact bz_retI (pc := 52) dX11_sheet_52 rfl rfl hP23
      · have hP24 := hP14.2 c
        clear hP14
        refine bz_iload_n (pc := 22) dX11_sheet_22 rfl rfl ?_
        refine bz_bipush (pc := 23) dX11_sheet_23 cb_16 ?_
        refine bz_icmp_eq (tgt := 41) (pc := 25) dX11_sheet_25 rfl (fun c => ?_) (fun c => ?_)
        · have hP25 := hP24.1 c
          clear hP24
          refine bz_iload_n (pc := 41) dX11_sheet_41 rfl rfl ?_
          refine bz_if_ge (tgt := 53) (pc := 42) dX11_sheet_42 rfl (fun c => ?_) (fun c => ?_)
          · have hP26 := hP25.1 c
            clear hP25
            refine bz_iload_n (pc := 53) dX11_sheet_53 rfl rfl ?_
            refine bz_bipush (pc := 54) dX11_sheet_54 cb_60 ?_
            refine bz_icmp_le (tgt := 66) (pc := 56) dX11_sheet_56 rfl (fun c => ?_) (fun c => ?_)
            · have hP27 := hP26.1 c
              clear hP26
              refine bz_aload (pc := 66) dX11_sheet_66 rfl ?_
              refine bz_iload_n (pc := 68) dX11_sheet_68 rfl rfl ?_
              refine bz_iload_n (pc := 69) dX11_sheet_69 rfl rfl ?_
              refine bz_kVV (as := [.inl x2, .inl x3]) (st := []) (ci := 5) (n := 2) (mc := 0) (ms := 0) (bc := bc) (bs := bs) (yc := kX5_begin) (q := (RX5, TX5, 3)) (b := a_3) (pc := 70) dX11_sheet_70 sc_X5_begin ml_X11_385 im_X5_begin se_X5_begin rfl rfl rfl (Nat.le_of_ble_eq_true rfl) hP27 (fun h_21 hP28 => ?_)
              clear hP27
              refine bz_aload (pc := 73) dX11_sheet_73 rfl ?_
              refine bz_rw_rI (pc := 75) dX11_sheet_75 fl_X11_388 hP28 (fun x_22 hP29 => ?_)
              clear hP28
              exact bz_retI (pc := 78) dX11_sheet_78 rfl rfl hP29
            · have hP30 := hP26.2 c
              clear hP26
              refine bz_aload_n (pc := 59) dX11_sheet_59 rfl rfl ?_
              refine bz_ldc (pc := 60) dX11_sheet_60 ct_X11_78 ?_
              refine bz_kIV (as := [.inl (-1000001)]) (st := []) (ci := 11) (n := 1) (mc := 0) (ms := 0) (bc := bc) (bs := bs) (yc := kX11_finding) (q := (RX11, TX11, 9)) (b := a0) (pc := 62) dX11_sheet_62 sc_X11_finding ml_X11_79 im_X11_finding se_X11_finding rfl rfl rfl (Nat.le_of_ble_eq_true rfl) hP30 (fun x_23 h_24 hP31 => ?_)
              clear hP30
              exact bz_retI (pc := 65) dX11_sheet_65 rfl rfl hP31
          · have hP32 := hP25.2 c
            clear hP25
            refine bz_aload_n (pc := 45) dX11_sheet_45 rfl rfl ?_
            refine bz_ldcw (pc := 46) dX11_sheet_46 ct_X11_384 ?_
            refine bz_kIV (as := [.inl (-1000007)]) (st := []) (ci := 11) (n := 1) (mc := 0) (ms := 0) (bc := bc) (bs := bs) (yc := kX11_finding) (q := (RX11, TX11, 9)) (b := a0) (pc := 49) dX11_sheet_49 sc_X11_finding ml_X11_79 im_X11_finding se_X11_finding rfl rfl rfl (Nat.le_of_ble_eq_true rfl) hP32 (fun x_25 h_26 hP33 => ?_)
            clear hP32
            exact bz_retI (pc := 52) dX11_sheet_52 rfl rfl hP33
        · have hP34 := hP24.2 c
          clear hP24
          refine bz_iload_n (pc := 28) dX11_sheet_28 rfl rfl ?_
          refine bz_bipush (pc := 29) dX11_sheet_29 cb_32 ?_
          refine bz_icmp_eq (tgt := 41) (pc := 31) dX11_sheet_31 rfl (fun c => ?_) (fun c => ?_)
          · have hP35 := hP34.1 c
            clear hP34
            refine bz_iload_n (pc := 41) dX11_sheet_41 rfl rfl ?_
            refine bz_if_ge (tgt := 53) (pc := 42) dX11_sheet_42 rfl (fun c => ?_) (fun c => ?_)
            · have hP36 := hP35.1 c
              clear hP35
              refine bz_iload_n (pc := 53) dX11_sheet_53 rfl rfl ?_
              refine bz_bipush (pc := 54) dX11_sheet_54 cb_60 ?_
              refine bz_icmp_le (tgt := 66) (pc := 56) dX11_sheet_56 rfl (fun c => ?_) (fun c => ?_)
              · have hP37 := hP36.1 c
                clear hP36
                refine bz_aload (pc := 66) dX11_sheet_66 rfl ?_
                refine bz_iload_n (pc := 68) dX11_sheet_68 rfl rfl ?_
                refine bz_iload_n (pc := 69) dX11_sheet_69 rfl rfl ?_
                refine bz_kVV (as := [.inl x2, .inl x3]) (st := []) (ci := 5) (n := 2) (mc := 0) (ms := 0) (bc := bc) (bs := bs) (yc := kX5_begin) (q := (RX5, TX5, 3)) (b := a_3) (pc := 70) dX11_sheet_70 sc_X5_begin ml_X11_385 im_X5_begin se_X5_begin rfl rfl rfl (Nat.le_of_ble_eq_true rfl) hP37 (fun h_28 hP38 => ?_)
                clear hP37
                refine bz_aload (pc := 73) dX11_sheet_73 rfl ?_
                refine bz_rw_rI (pc := 75) dX11_sheet_75 fl_X11_388 hP38 (fun x_29 hP39 => ?_)
                clear hP38
                exact bz_retI (pc := 78) dX11_sheet_78 rfl rfl hP39
              · have hP40 := hP36.2 c
                clear hP36
                refine bz_aload_n (pc := 59) dX11_sheet_59 rfl rfl ?_
                refine bz_ldc (pc := 60) dX11_sheet_60 ct_X11_78 ?_
                refine bz_kIV (as := [.inl (-1000001)]) (st := []) (ci := 11) (n := 1) (mc := 0) (ms := 0) (bc := bc) (bs := bs) (yc := kX11_finding) (q := (RX11, TX11, 9)) (b := a0) (pc := 62) dX11_sheet_62 sc_X11_finding ml_X11_79 im_X11_finding se_X11_finding rfl rfl rfl (Nat.le_of_ble_eq_true rfl) hP40 (fun x_30 h_31 hP41 => ?_)
                clear hP40
                exact bz_retI (pc := 65) dX11_sheet_65 rfl rfl hP41
            · have hP42 := hP35.2 c
              clear hP35
              refine bz_aload_n (pc := 45) dX11_sheet_45 rfl rfl ?_
              refine bz_ldcw (pc := 46) dX11_sheet_46 ct_X11_384 ?_
              refine bz_kIV (as := [.inl (-1000007)]) (st := []) (ci := 11) (n := 1) (mc := 0) (ms := 0) (bc := bc) (bs := bs) (yc := kX11_finding) (q := (RX11, TX11, 9)) (b := a0) (pc := 49) dX11_sheet_49 sc_X11_finding ml_X11_79 im_X11_finding se_X11_finding rfl rfl rfl (Nat.le_of_ble_eq_true rfl) hP42 (fun x_32 h_33 hP43 => ?_)
              clear hP42
              exact bz_retI (pc := 52) dX11_sheet_52 rfl rfl hP43
          · have hP44 := hP34.2 c
            clear hP34
            refine bz_aload_n (pc := 34) dX11_sheet_34 rfl rfl ?_
            refine bz_ldc (pc := 35) dX11_sheet_35 ct_X11_78 ?_
            refine bz_kIV (as := [.inl (-1000001)]) (st := []) (ci := 11) (n := 1) (mc := 0) (ms := 0) (bc := bc) (bs := bs) (yc := kX11_finding) (q := (RX11, TX11, 9)) (b := a0) (pc := 37) dX11_sheet_37 sc_X11_finding ml_X11_79 im_X11_finding se_X11_finding rfl rfl rfl (Nat.le_of_ble_eq_true rfl) hP44 (fun x_34 h_35 hP45 => ?_)
            clear hP44
            exact bz_retI (pc := 40) dX11_sheet_40 rfl rfl hP45
theorem m_X11_sheet {G : bz_G} {l : Launch} {d mc ms : Nat} {F : Option bz_V → bz_H → Prop} (a0 : Nat) (x1 : Int32) (x2 : Int32) (x3 : Int32) (h : bz_H) (hP : w_X11_sheet_0 G l d F a0 x1 x2 x3 h) : bz_Call G l (d + 1) kX11_sheet [.inr (some a0), .inl x1, .inl x2, .inl x3] h mc ms F :=
  bz_body (by decide) (Nat.le_of_ble_eq_true rfl) (fun κ hl => g_X11_sheet_0 hl a0 x1 x2 x3 h hP)
