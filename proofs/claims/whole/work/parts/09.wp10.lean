def w_X12_stepOf_0 (G : bz_G) (l : Launch) (d : Nat) (F : Option bz_V → bz_H → Prop) (x0 : Int32) (x1 : Int32) (h : bz_H) : Prop := (x0 = 0 → F (some (.inl (if x1 = 0 then 0 else if x1 = 1 then 2 else if x1 = 2 then 1 else 3))) h) ∧ (¬ x0 = 0 → (x0 = 1 → F (some (.inl (if x1 = 0 then 1 else if x1 = 1 then 3 else if x1 = 2 then 0 else 2))) h) ∧ (¬ x0 = 1 → (x0 = 2 → F (some (.inl x1)) h) ∧ (¬ x0 = 2 → (x0 = 3 → F (some (.inl (if x1 = 0 then 0 else if x1 = 1 then 1 else if x1 = 2 then 3 else 2))) h) ∧ (¬ x0 = 3 → (x0 = 4 → F (some (.inl (if x1 = 0 then 1 else if x1 = 1 then 0 else x1))) h) ∧ (¬ x0 = 4 → F (some (.inl (1 ^^^ x1))) h)))))
set_option maxRecDepth 20000 in
set_option maxHeartbeats 4000000 in
theorem g_X12_stepOf_0 {G : bz_G} {κ : bz_K} {l : Launch} {d : Nat} {F : Option bz_V → bz_H → Prop} {bc bs : Nat} (hl : κ.2.1 = l) (x0 : Int32) (x1 : Int32) (h : bz_H) (hP0 : w_X12_stepOf_0 G l d F x0 x1 h) : bz_J G κ kX12_stepOf (d + 1) F bc bs 0 [some (.inl x0), some (.inl x1)] [] h := by
  subst hl
  unfold w_X12_stepOf_0 at hP0
  refine bz_iload_n (pc := 0) dX12_stepOf_0 rfl rfl ?_
  refine bz_table (pc := 1) [(0, 35), (1, 63), (2, 91), (3, 93), (4, 121)] dX12_stepOf_1 (by decide) (by decide) (by decide) (by decide) (by decide) ?_
  refine ⟨fun c => ?_, fun c => ?_⟩
  · have hP1 := hP0.1 c
    clear hP0
    show bz_J G κ kX12_stepOf (d + 1) F bc bs 36 [some (.inl x0), some (.inl x1)] [] h
    refine bz_iload_n (pc := 36) dX12_stepOf_36 rfl rfl ?_
    have hJ : bz_J G κ kX12_stepOf (d + 1) F bc bs 63 [some (.inl x0), some (.inl x1)] [.inl (if x1 = 0 then 0 else if x1 = 1 then 2 else if x1 = 2 then 1 else 3)] h := by
      exact bz_retI (pc := 63) dX12_stepOf_63 rfl rfl hP1
    refine bz_if_ne (tgt := 44) (pc := 37) dX12_stepOf_37 rfl (fun c => ?_) (fun c => ?_)
    · have e9 : ((if x1 = 0 then 0 else if x1 = 1 then 2 else if x1 = 2 then 1 else 3) : Int32) = (if x1 = 1 then 2 else if x1 = 2 then 1 else 3) := if_neg c
      rw [e9] at hJ
      refine bz_iload_n (pc := 44) dX12_stepOf_44 rfl rfl ?_
      refine bz_iconst (pc := 45) dX12_stepOf_45 ci_1 ?_
      refine bz_icmp_ne (tgt := 53) (pc := 46) dX12_stepOf_46 rfl (fun c => ?_) (fun c => ?_)
      · have e9 : ((if x1 = 1 then 2 else if x1 = 2 then 1 else 3) : Int32) = (if x1 = 2 then 1 else 3) := if_neg c
        rw [e9] at hJ
        refine bz_iload_n (pc := 53) dX12_stepOf_53 rfl rfl ?_
        refine bz_iconst (pc := 54) dX12_stepOf_54 ci_2 ?_
        refine bz_icmp_ne (tgt := 62) (pc := 55) dX12_stepOf_55 rfl (fun c => ?_) (fun c => ?_)
        · have e9 : ((if x1 = 2 then 1 else 3) : Int32) = (3) := if_neg c
          rw [e9] at hJ
          refine bz_iconst (pc := 62) dX12_stepOf_62 ci_3 ?_
          exact hJ
        · have e9 : ((if x1 = 2 then 1 else 3) : Int32) = (1) := if_pos c
          rw [e9] at hJ
          refine bz_iconst (pc := 58) dX12_stepOf_58 ci_1 ?_
          refine bz_goto (tgt := 63) (pc := 59) dX12_stepOf_59 rfl ?_
          exact hJ
      · have e9 : ((if x1 = 1 then 2 else if x1 = 2 then 1 else 3) : Int32) = (2) := if_pos c
        rw [e9] at hJ
        refine bz_iconst (pc := 49) dX12_stepOf_49 ci_2 ?_
        refine bz_goto (tgt := 63) (pc := 50) dX12_stepOf_50 rfl ?_
        exact hJ
    · have e9 : ((if x1 = 0 then 0 else if x1 = 1 then 2 else if x1 = 2 then 1 else 3) : Int32) = (0) := if_pos c
      rw [e9] at hJ
      refine bz_iconst (pc := 40) dX12_stepOf_40 ci_0 ?_
      refine bz_goto (tgt := 63) (pc := 41) dX12_stepOf_41 rfl ?_
      exact hJ
  · have hP2 := hP0.2 c
    clear hP0
    refine ⟨fun c => ?_, fun c => ?_⟩
    · have hP3 := hP2.1 c
      clear hP2
      show bz_J G κ kX12_stepOf (d + 1) F bc bs 64 [some (.inl x0), some (.inl x1)] [] h
      refine bz_iload_n (pc := 64) dX12_stepOf_64 rfl rfl ?_
      have hJ : bz_J G κ kX12_stepOf (d + 1) F bc bs 91 [some (.inl x0), some (.inl x1)] [.inl (if x1 = 0 then 1 else if x1 = 1 then 3 else if x1 = 2 then 0 else 2)] h := by
        exact bz_retI (pc := 91) dX12_stepOf_91 rfl rfl hP3
      refine bz_if_ne (tgt := 72) (pc := 65) dX12_stepOf_65 rfl (fun c => ?_) (fun c => ?_)
      · have e9 : ((if x1 = 0 then 1 else if x1 = 1 then 3 else if x1 = 2 then 0 else 2) : Int32) = (if x1 = 1 then 3 else if x1 = 2 then 0 else 2) := if_neg c
        rw [e9] at hJ
        refine bz_iload_n (pc := 72) dX12_stepOf_72 rfl rfl ?_
        refine bz_iconst (pc := 73) dX12_stepOf_73 ci_1 ?_
        refine bz_icmp_ne (tgt := 81) (pc := 74) dX12_stepOf_74 rfl (fun c => ?_) (fun c => ?_)
        · have e9 : ((if x1 = 1 then 3 else if x1 = 2 then 0 else 2) : Int32) = (if x1 = 2 then 0 else 2) := if_neg c
          rw [e9] at hJ
          refine bz_iload_n (pc := 81) dX12_stepOf_81 rfl rfl ?_
          refine bz_iconst (pc := 82) dX12_stepOf_82 ci_2 ?_
          refine bz_icmp_ne (tgt := 90) (pc := 83) dX12_stepOf_83 rfl (fun c => ?_) (fun c => ?_)
          · have e9 : ((if x1 = 2 then 0 else 2) : Int32) = (2) := if_neg c
            rw [e9] at hJ
            refine bz_iconst (pc := 90) dX12_stepOf_90 ci_2 ?_
            exact hJ
          · have e9 : ((if x1 = 2 then 0 else 2) : Int32) = (0) := if_pos c
            rw [e9] at hJ
            refine bz_iconst (pc := 86) dX12_stepOf_86 ci_0 ?_
            refine bz_goto (tgt := 91) (pc := 87) dX12_stepOf_87 rfl ?_
            exact hJ
        · have e9 : ((if x1 = 1 then 3 else if x1 = 2 then 0 else 2) : Int32) = (3) := if_pos c
          rw [e9] at hJ
          refine bz_iconst (pc := 77) dX12_stepOf_77 ci_3 ?_
          refine bz_goto (tgt := 91) (pc := 78) dX12_stepOf_78 rfl ?_
          exact hJ
      · have e9 : ((if x1 = 0 then 1 else if x1 = 1 then 3 else if x1 = 2 then 0 else 2) : Int32) = (1) := if_pos c
        rw [e9] at hJ
        refine bz_iconst (pc := 68) dX12_stepOf_68 ci_1 ?_
        refine bz_goto (tgt := 91) (pc := 69) dX12_stepOf_69 rfl ?_
        exact hJ
    · have hP4 := hP2.2 c
      clear hP2
      refine ⟨fun c => ?_, fun c => ?_⟩
      · have hP5 := hP4.1 c
        clear hP4
        show bz_J G κ kX12_stepOf (d + 1) F bc bs 92 [some (.inl x0), some (.inl x1)] [] h
        refine bz_iload_n (pc := 92) dX12_stepOf_92 rfl rfl ?_
        exact bz_retI (pc := 93) dX12_stepOf_93 rfl rfl hP5
      · have hP6 := hP4.2 c
        clear hP4
        refine ⟨fun c => ?_, fun c => ?_⟩
        · have hP7 := hP6.1 c
          clear hP6
          show bz_J G κ kX12_stepOf (d + 1) F bc bs 94 [some (.inl x0), some (.inl x1)] [] h
          refine bz_iload_n (pc := 94) dX12_stepOf_94 rfl rfl ?_
          have hJ : bz_J G κ kX12_stepOf (d + 1) F bc bs 121 [some (.inl x0), some (.inl x1)] [.inl (if x1 = 0 then 0 else if x1 = 1 then 1 else if x1 = 2 then 3 else 2)] h := by
            exact bz_retI (pc := 121) dX12_stepOf_121 rfl rfl hP7
          refine bz_if_ne (tgt := 102) (pc := 95) dX12_stepOf_95 rfl (fun c => ?_) (fun c => ?_)
          · have e9 : ((if x1 = 0 then 0 else if x1 = 1 then 1 else if x1 = 2 then 3 else 2) : Int32) = (if x1 = 1 then 1 else if x1 = 2 then 3 else 2) := if_neg c
            rw [e9] at hJ
            refine bz_iload_n (pc := 102) dX12_stepOf_102 rfl rfl ?_
            refine bz_iconst (pc := 103) dX12_stepOf_103 ci_1 ?_
            refine bz_icmp_ne (tgt := 111) (pc := 104) dX12_stepOf_104 rfl (fun c => ?_) (fun c => ?_)
            · have e9 : ((if x1 = 1 then 1 else if x1 = 2 then 3 else 2) : Int32) = (if x1 = 2 then 3 else 2) := if_neg c
              rw [e9] at hJ
              refine bz_iload_n (pc := 111) dX12_stepOf_111 rfl rfl ?_
              refine bz_iconst (pc := 112) dX12_stepOf_112 ci_2 ?_
              refine bz_icmp_ne (tgt := 120) (pc := 113) dX12_stepOf_113 rfl (fun c => ?_) (fun c => ?_)
              · have e9 : ((if x1 = 2 then 3 else 2) : Int32) = (2) := if_neg c
                rw [e9] at hJ
                refine bz_iconst (pc := 120) dX12_stepOf_120 ci_2 ?_
                exact hJ
              · have e9 : ((if x1 = 2 then 3 else 2) : Int32) = (3) := if_pos c
                rw [e9] at hJ
                refine bz_iconst (pc := 116) dX12_stepOf_116 ci_3 ?_
                refine bz_goto (tgt := 121) (pc := 117) dX12_stepOf_117 rfl ?_
                exact hJ
            · have e9 : ((if x1 = 1 then 1 else if x1 = 2 then 3 else 2) : Int32) = (1) := if_pos c
              rw [e9] at hJ
              refine bz_iconst (pc := 107) dX12_stepOf_107 ci_1 ?_
              refine bz_goto (tgt := 121) (pc := 108) dX12_stepOf_108 rfl ?_
              exact hJ
          · have e9 : ((if x1 = 0 then 0 else if x1 = 1 then 1 else if x1 = 2 then 3 else 2) : Int32) = (0) := if_pos c
            rw [e9] at hJ
            refine bz_iconst (pc := 98) dX12_stepOf_98 ci_0 ?_
            refine bz_goto (tgt := 121) (pc := 99) dX12_stepOf_99 rfl ?_
            exact hJ
        · have hP8 := hP6.2 c
          clear hP6
          refine ⟨fun c => ?_, fun c => ?_⟩
          · have hP9 := hP8.1 c
            clear hP8
            show bz_J G κ kX12_stepOf (d + 1) F bc bs 122 [some (.inl x0), some (.inl x1)] [] h
            refine bz_iload_n (pc := 122) dX12_stepOf_122 rfl rfl ?_
            have hJ : bz_J G κ kX12_stepOf (d + 1) F bc bs 140 [some (.inl x0), some (.inl x1)] [.inl (if x1 = 0 then 1 else if x1 = 1 then 0 else x1)] h := by
              exact bz_retI (pc := 140) dX12_stepOf_140 rfl rfl hP9
            refine bz_if_ne (tgt := 130) (pc := 123) dX12_stepOf_123 rfl (fun c => ?_) (fun c => ?_)
            · have e9 : ((if x1 = 0 then 1 else if x1 = 1 then 0 else x1) : Int32) = (if x1 = 1 then 0 else x1) := if_neg c
              rw [e9] at hJ
              refine bz_iload_n (pc := 130) dX12_stepOf_130 rfl rfl ?_
              refine bz_iconst (pc := 131) dX12_stepOf_131 ci_1 ?_
              refine bz_icmp_ne (tgt := 139) (pc := 132) dX12_stepOf_132 rfl (fun c => ?_) (fun c => ?_)
              · have e9 : ((if x1 = 1 then 0 else x1) : Int32) = (x1) := if_neg c
                rw [e9] at hJ
                refine bz_iload_n (pc := 139) dX12_stepOf_139 rfl rfl ?_
                exact hJ
              · have e9 : ((if x1 = 1 then 0 else x1) : Int32) = (0) := if_pos c
                rw [e9] at hJ
                refine bz_iconst (pc := 135) dX12_stepOf_135 ci_0 ?_
                refine bz_goto (tgt := 140) (pc := 136) dX12_stepOf_136 rfl ?_
                exact hJ
            · have e9 : ((if x1 = 0 then 1 else if x1 = 1 then 0 else x1) : Int32) = (1) := if_pos c
              rw [e9] at hJ
              refine bz_iconst (pc := 126) dX12_stepOf_126 ci_1 ?_
              refine bz_goto (tgt := 140) (pc := 127) dX12_stepOf_127 rfl ?_
              exact hJ
          · have hP10 := hP8.2 c
            clear hP8
            show bz_J G κ kX12_stepOf (d + 1) F bc bs 141 [some (.inl x0), some (.inl x1)] [] h
            refine bz_iconst (pc := 141) dX12_stepOf_141 ci_1 ?_
            refine bz_iload_n (pc := 142) dX12_stepOf_142 rfl rfl ?_
            refine bz_ixor (pc := 143) dX12_stepOf_143 ?_
            exact bz_retI (pc := 144) dX12_stepOf_144 rfl rfl hP10
theorem m_X12_stepOf {G : bz_G} {l : Launch} {d mc ms : Nat} {F : Option bz_V → bz_H → Prop} (x0 : Int32) (x1 : Int32) (h : bz_H) (hP : w_X12_stepOf_0 G l d F x0 x1 h) : bz_Call G l (d + 1) kX12_stepOf [.inl x0, .inl x1] h mc ms F :=
  bz_body (by decide) (Nat.le_of_ble_eq_true rfl) (fun κ hl => g_X12_stepOf_0 hl x0 x1 h hP)
def w_X12_sum_0 (G : bz_G) (κ : bz_K) (l : Launch) (d : Nat) (F : Option bz_V → bz_H → Prop) (bc bs : Nat) (a0 : Nat) (h : bz_H) : Prop := bz_rc h a0 12 (bz_cI G l d kX12_term [.inr (some a0)] h 0 0 (fun x_1 h_2 => (¬ x_1 = 0 → bz_J G κ kX12_sum (d + 1) F bc bs 9 [some (.inr (some a0)), none] [] h_2) ∧ (x_1 = 0 → F (some (.inl 0)) h_2)))
set_option maxRecDepth 20000 in
set_option maxHeartbeats 4000000 in
theorem g_X12_sum_0 {G : bz_G} {κ : bz_K} {l : Launch} {d : Nat} {F : Option bz_V → bz_H → Prop} {bc bs : Nat} (hl : κ.2.1 = l) (a0 : Nat) (h : bz_H) (hP0 : w_X12_sum_0 G κ l d F bc bs a0 h) : bz_J G κ kX12_sum (d + 1) F bc bs 0 [some (.inr (some a0)), none] [] h := by
  subst hl
  unfold w_X12_sum_0 at hP0
  refine bz_aload_n (pc := 0) dX12_sum_0 rfl rfl ?_
  refine bz_kIV (as := []) (st := []) (ci := 12) (n := 0) (mc := 0) (ms := 0) (bc := bc) (bs := bs) (yc := kX12_term) (q := (RX12, TX12, 34)) (b := a0) (pc := 1) dX12_sum_1 sc_X12_term ml_X12_278 im_X12_term se_X12_term rfl rfl rfl (Nat.le_of_ble_eq_true rfl) hP0 (fun x_1 h_2 hP1 => ?_)
  clear hP0
  refine bz_if_ne (tgt := 9) (pc := 4) dX12_sum_4 rfl (fun c => ?_) (fun c => ?_)
  · have hP2 := hP1.1 c
    clear hP1
    exact hP2
  · have hP3 := hP1.2 c
    clear hP1
    refine bz_iconst (pc := 7) dX12_sum_7 ci_0 ?_
    exact bz_retI (pc := 8) dX12_sum_8 rfl rfl hP3
def w_X12_sum_9 (G : bz_G) (κ : bz_K) (l : Launch) (d : Nat) (F : Option bz_V → bz_H → Prop) (bc bs : Nat) (a0 : Nat) (u1 : Option bz_V) (h : bz_H) : Prop := bz_rc h a0 12 (bz_cI G l d kX12_isSign [.inr (some a0), .inl 43] h 0 0 (fun x_3 h_4 => (¬ x_3 = 0 → bz_rI h_4 a0 12 18 (fun x_5 => bz_rc h_4 a0 12 (bz_cV G l d kX12_next [.inr (some a0)] h_4 0 0 (fun h_7 => bz_rc h_7 a0 12 (bz_cI G l d kX12_term [.inr (some a0)] h_7 0 0 (fun x_8 h_9 => (¬ x_8 = 0 → bz_rc h_9 a0 12 (bz_cV G l d kX12_lays [.inr (some a0), .inl 3, .inl x_5] h_9 0 0 (fun h_11 => bz_J G κ kX12_sum (d + 1) F bc bs 9 [some (.inr (some a0)), some (.inl x_5)] [] h_11))) ∧ (x_8 = 0 → F (some (.inl 0)) h_9))))))) ∧ (x_3 = 0 → bz_rc h_4 a0 12 (bz_cI G l d kX12_isSign [.inr (some a0), .inl 45] h_4 0 0 (fun x_12 h_13 => (x_12 = 0 → F (some (.inl 1)) h_13) ∧ (¬ (x_12 = 0) → bz_rI h_13 a0 12 18 (fun x_14 => bz_rc h_13 a0 12 (bz_cV G l d kX12_next [.inr (some a0)] h_13 0 0 (fun h_16 => bz_rc h_16 a0 12 (bz_cI G l d kX12_term [.inr (some a0)] h_16 0 0 (fun x_17 h_18 => (¬ x_17 = 0 → bz_rc h_18 a0 12 (bz_cV G l d kX12_lays [.inr (some a0), .inl 3, .inl x_14] h_18 0 0 (fun h_20 => bz_J G κ kX12_sum (d + 1) F bc bs 9 [some (.inr (some a0)), some (.inl x_14)] [] h_20))) ∧ (x_17 = 0 → F (some (.inl 0)) h_18))))))))))))
set_option maxRecDepth 20000 in
set_option maxHeartbeats 4000000 in
theorem g_X12_sum_9 {G : bz_G} {κ : bz_K} {l : Launch} {d : Nat} {F : Option bz_V → bz_H → Prop} {bc bs : Nat} (hl : κ.2.1 = l) (a0 : Nat) (u1 : Option bz_V) (h : bz_H) (hP0 : w_X12_sum_9 G κ l d F bc bs a0 u1 h) : bz_J G κ kX12_sum (d + 1) F bc bs 9 [some (.inr (some a0)), u1] [] h := by
  subst hl
  unfold w_X12_sum_9 at hP0
  refine bz_aload_n (pc := 9) dX12_sum_9 rfl rfl ?_
  refine bz_bipush (pc := 10) dX12_sum_10 cb_43 ?_
  refine bz_kIV (as := [.inl 43]) (st := []) (ci := 12) (n := 1) (mc := 0) (ms := 0) (bc := bc) (bs := bs) (yc := kX12_isSign) (q := (RX12, TX12, 34)) (b := a0) (pc := 12) dX12_sum_12 sc_X12_isSign ml_X12_272 im_X12_isSign se_X12_isSign rfl rfl rfl (Nat.le_of_ble_eq_true rfl) hP0 (fun x_3 h_4 hP1 => ?_)
  clear hP0
  refine bz_if_ne (tgt := 27) (pc := 15) dX12_sum_15 rfl (fun c => ?_) (fun c => ?_)
  · have hP2 := hP1.1 c
    clear hP1
    refine bz_aload_n (pc := 27) dX12_sum_27 rfl rfl ?_
    refine bz_rw_rI (pc := 28) dX12_sum_28 fl_X12_247 hP2 (fun x_5 hP3 => ?_)
    clear hP2
    refine bz_s_istore_n (pc := 31) dX12_sum_31 rfl (Nat.le_of_ble_eq_true rfl) [some (.inr (some a0)), some (.inl x_5)] rfl ?_
    refine bz_aload_n (pc := 32) dX12_sum_32 rfl rfl ?_
    refine bz_kVV (as := []) (st := []) (ci := 12) (n := 0) (mc := 0) (ms := 0) (bc := bc) (bs := bs) (yc := kX12_next) (q := (RX12, TX12, 34)) (b := a0) (pc := 33) dX12_sum_33 sc_X12_next ml_X12_265 im_X12_next se_X12_next rfl rfl rfl (Nat.le_of_ble_eq_true rfl) hP3 (fun h_7 hP4 => ?_)
    clear hP3
    refine bz_aload_n (pc := 36) dX12_sum_36 rfl rfl ?_
    refine bz_kIV (as := []) (st := []) (ci := 12) (n := 0) (mc := 0) (ms := 0) (bc := bc) (bs := bs) (yc := kX12_term) (q := (RX12, TX12, 34)) (b := a0) (pc := 37) dX12_sum_37 sc_X12_term ml_X12_278 im_X12_term se_X12_term rfl rfl rfl (Nat.le_of_ble_eq_true rfl) hP4 (fun x_8 h_9 hP5 => ?_)
    clear hP4
    refine bz_if_ne (tgt := 45) (pc := 40) dX12_sum_40 rfl (fun c => ?_) (fun c => ?_)
    · have hP6 := hP5.1 c
      clear hP5
      refine bz_aload_n (pc := 45) dX12_sum_45 rfl rfl ?_
      refine bz_iconst (pc := 46) dX12_sum_46 ci_3 ?_
      refine bz_iload_n (pc := 47) dX12_sum_47 rfl rfl ?_
      refine bz_kVV (as := [.inl 3, .inl x_5]) (st := []) (ci := 12) (n := 2) (mc := 0) (ms := 0) (bc := bc) (bs := bs) (yc := kX12_lays) (q := (RX12, TX12, 34)) (b := a0) (pc := 48) dX12_sum_48 sc_X12_lays ml_X12_275 im_X12_lays se_X12_lays rfl rfl rfl (Nat.le_of_ble_eq_true rfl) hP6 (fun h_11 hP7 => ?_)
      clear hP6
      refine bz_goto (tgt := 9) (pc := 51) dX12_sum_51 rfl ?_
      exact hP7
    · have hP8 := hP5.2 c
      clear hP5
      refine bz_iconst (pc := 43) dX12_sum_43 ci_0 ?_
      exact bz_retI (pc := 44) dX12_sum_44 rfl rfl hP8
  · have hP9 := hP1.2 c
    clear hP1
    refine bz_aload_n (pc := 18) dX12_sum_18 rfl rfl ?_
    refine bz_bipush (pc := 19) dX12_sum_19 cb_45 ?_
    refine bz_kIV (as := [.inl 45]) (st := []) (ci := 12) (n := 1) (mc := 0) (ms := 0) (bc := bc) (bs := bs) (yc := kX12_isSign) (q := (RX12, TX12, 34)) (b := a0) (pc := 21) dX12_sum_21 sc_X12_isSign ml_X12_272 im_X12_isSign se_X12_isSign rfl rfl rfl (Nat.le_of_ble_eq_true rfl) hP9 (fun x_12 h_13 hP10 => ?_)
    clear hP9
    refine bz_if_eq (tgt := 54) (pc := 24) dX12_sum_24 rfl (fun c => ?_) (fun c => ?_)
    · have hP11 := hP10.1 c
      clear hP10
      refine bz_iconst (pc := 54) dX12_sum_54 ci_1 ?_
      exact bz_retI (pc := 55) dX12_sum_55 rfl rfl hP11
    · have hP12 := hP10.2 c
      clear hP10
      refine bz_aload_n (pc := 27) dX12_sum_27 rfl rfl ?_
      refine bz_rw_rI (pc := 28) dX12_sum_28 fl_X12_247 hP12 (fun x_14 hP13 => ?_)
      clear hP12
      refine bz_s_istore_n (pc := 31) dX12_sum_31 rfl (Nat.le_of_ble_eq_true rfl) [some (.inr (some a0)), some (.inl x_14)] rfl ?_
      refine bz_aload_n (pc := 32) dX12_sum_32 rfl rfl ?_
      refine bz_kVV (as := []) (st := []) (ci := 12) (n := 0) (mc := 0) (ms := 0) (bc := bc) (bs := bs) (yc := kX12_next) (q := (RX12, TX12, 34)) (b := a0) (pc := 33) dX12_sum_33 sc_X12_next ml_X12_265 im_X12_next se_X12_next rfl rfl rfl (Nat.le_of_ble_eq_true rfl) hP13 (fun h_16 hP14 => ?_)
      clear hP13
      refine bz_aload_n (pc := 36) dX12_sum_36 rfl rfl ?_
      refine bz_kIV (as := []) (st := []) (ci := 12) (n := 0) (mc := 0) (ms := 0) (bc := bc) (bs := bs) (yc := kX12_term) (q := (RX12, TX12, 34)) (b := a0) (pc := 37) dX12_sum_37 sc_X12_term ml_X12_278 im_X12_term se_X12_term rfl rfl rfl (Nat.le_of_ble_eq_true rfl) hP14 (fun x_17 h_18 hP15 => ?_)
      clear hP14
      refine bz_if_ne (tgt := 45) (pc := 40) dX12_sum_40 rfl (fun c => ?_) (fun c => ?_)
      · have hP16 := hP15.1 c
        clear hP15
        refine bz_aload_n (pc := 45) dX12_sum_45 rfl rfl ?_
        refine bz_iconst (pc := 46) dX12_sum_46 ci_3 ?_
        refine bz_iload_n (pc := 47) dX12_sum_47 rfl rfl ?_
        refine bz_kVV (as := [.inl 3, .inl x_14]) (st := []) (ci := 12) (n := 2) (mc := 0) (ms := 0) (bc := bc) (bs := bs) (yc := kX12_lays) (q := (RX12, TX12, 34)) (b := a0) (pc := 48) dX12_sum_48 sc_X12_lays ml_X12_275 im_X12_lays se_X12_lays rfl rfl rfl (Nat.le_of_ble_eq_true rfl) hP16 (fun h_20 hP17 => ?_)
        clear hP16
        refine bz_goto (tgt := 9) (pc := 51) dX12_sum_51 rfl ?_
        exact hP17
      · have hP18 := hP15.2 c
        clear hP15
        refine bz_iconst (pc := 43) dX12_sum_43 ci_0 ?_
        exact bz_retI (pc := 44) dX12_sum_44 rfl rfl hP18
theorem m_X12_sum {G : bz_G} {l : Launch} {d mc ms : Nat} {F : Option bz_V → bz_H → Prop} (a0 : Nat) (h : bz_H) (hP : ∀ (κ : bz_K) (bc bs : Nat), κ.2.1 = l → w_X12_sum_0 G κ l d F bc bs a0 h) : bz_Call G l (d + 1) kX12_sum [.inr (some a0)] h mc ms F :=
  bz_body (by decide) (Nat.le_of_ble_eq_true rfl) (fun κ hl => g_X12_sum_0 hl a0 h (hP κ mc ms hl))
def w_X12_tear_0 (G : bz_G) (l : Launch) (d : Nat) (F : Option bz_V → bz_H → Prop) (a0 : Nat) (h : bz_H) : Prop := bz_rI h a0 12 2 (fun x_1 => bz_b 0 (bz_wI h a0 12 2 0 (fun h_2 => F (some (.inl (if x_1 = 0 then 0 else 1))) h_2)))
set_option maxRecDepth 20000 in
set_option maxHeartbeats 4000000 in
theorem g_X12_tear_0 {G : bz_G} {κ : bz_K} {l : Launch} {d : Nat} {F : Option bz_V → bz_H → Prop} {bc bs : Nat} (hl : κ.2.1 = l) (a0 : Nat) (h : bz_H) (hP0 : w_X12_tear_0 G l d F a0 h) : bz_J G κ kX12_tear (d + 1) F bc bs 0 [some (.inr (some a0)), none] [] h := by
  subst hl
  unfold w_X12_tear_0 at hP0
  refine bz_aload_n (pc := 0) dX12_tear_0 rfl rfl ?_
  refine bz_rw_rI (pc := 1) dX12_tear_1 fl_X12_344 hP0 (fun x_1 hP1 => ?_)
  clear hP0
  have hJ : bz_J G κ kX12_tear (d + 1) F bc bs 12 [some (.inr (some a0)), none] [.inl (if x_1 = 0 then 0 else 1)] h := by
    refine bz_s_istore_n (pc := 12) dX12_tear_12 rfl (Nat.le_of_ble_eq_true rfl) [some (.inr (some a0)), some (.inl (if x_1 = 0 then 0 else 1))] rfl ?_
    refine bz_aload_n (pc := 13) dX12_tear_13 rfl rfl ?_
    refine bz_iconst (pc := 14) dX12_tear_14 ci_0 ?_
    refine bz_rw_wZ (pc := 15) dX12_tear_15 fl_X12_344 (fun q h9 => by cases h9; rfl) rfl hP1 (fun h_2 hP2 => ?_)
    clear hP1
    refine bz_iload_n (pc := 18) dX12_tear_18 rfl rfl ?_
    exact bz_retI (pc := 19) dX12_tear_19 rfl rfl hP2
  refine bz_if_eq (tgt := 11) (pc := 4) dX12_tear_4 rfl (fun c => ?_) (fun c => ?_)
  · have e9 : ((if x_1 = 0 then 0 else 1) : Int32) = (0) := if_pos c
    rw [e9] at hJ
    refine bz_iconst (pc := 11) dX12_tear_11 ci_0 ?_
    exact hJ
  · have e9 : ((if x_1 = 0 then 0 else 1) : Int32) = (1) := if_neg c
    rw [e9] at hJ
    refine bz_iconst (pc := 7) dX12_tear_7 ci_1 ?_
    refine bz_goto (tgt := 12) (pc := 8) dX12_tear_8 rfl ?_
    exact hJ
theorem m_X12_tear {G : bz_G} {l : Launch} {d mc ms : Nat} {F : Option bz_V → bz_H → Prop} (a0 : Nat) (h : bz_H) (hP : w_X12_tear_0 G l d F a0 h) : bz_Call G l (d + 1) kX12_tear [.inr (some a0)] h mc ms F :=
  bz_body (by decide) (Nat.le_of_ble_eq_true rfl) (fun κ hl => g_X12_tear_0 hl a0 h hP)
def w_X12_term_0 (G : bz_G) (κ : bz_K) (l : Launch) (d : Nat) (F : Option bz_V → bz_H → Prop) (bc bs : Nat) (a0 : Nat) (h : bz_H) : Prop := bz_rc h a0 12 (bz_cI G l d kX12_one [.inr (some a0)] h 0 0 (fun x_1 h_2 => (¬ x_1 = 0 → bz_J G κ kX12_term (d + 1) F bc bs 9 [some (.inr (some a0)), none] [] h_2) ∧ (x_1 = 0 → F (some (.inl 0)) h_2)))
set_option maxRecDepth 20000 in
set_option maxHeartbeats 4000000 in
theorem g_X12_term_0 {G : bz_G} {κ : bz_K} {l : Launch} {d : Nat} {F : Option bz_V → bz_H → Prop} {bc bs : Nat} (hl : κ.2.1 = l) (a0 : Nat) (h : bz_H) (hP0 : w_X12_term_0 G κ l d F bc bs a0 h) : bz_J G κ kX12_term (d + 1) F bc bs 0 [some (.inr (some a0)), none] [] h := by
  subst hl
  unfold w_X12_term_0 at hP0
  refine bz_aload_n (pc := 0) dX12_term_0 rfl rfl ?_
  refine bz_kIV (as := []) (st := []) (ci := 12) (n := 0) (mc := 0) (ms := 0) (bc := bc) (bs := bs) (yc := kX12_one) (q := (RX12, TX12, 34)) (b := a0) (pc := 1) dX12_term_1 sc_X12_one ml_X12_281 im_X12_one se_X12_one rfl rfl rfl (Nat.le_of_ble_eq_true rfl) hP0 (fun x_1 h_2 hP1 => ?_)
  clear hP0
  refine bz_if_ne (tgt := 9) (pc := 4) dX12_term_4 rfl (fun c => ?_) (fun c => ?_)
  · have hP2 := hP1.1 c
    clear hP1
    exact hP2
  · have hP3 := hP1.2 c
    clear hP1
    refine bz_iconst (pc := 7) dX12_term_7 ci_0 ?_
    exact bz_retI (pc := 8) dX12_term_8 rfl rfl hP3
def w_X12_term_9 (G : bz_G) (κ : bz_K) (l : Launch) (d : Nat) (F : Option bz_V → bz_H → Prop) (bc bs : Nat) (a0 : Nat) (u1 : Option bz_V) (h : bz_H) : Prop := bz_rc h a0 12 (bz_cI G l d kX12_isSign [.inr (some a0), .inl 42] h 0 0 (fun x_3 h_4 => (¬ x_3 = 0 → bz_rI h_4 a0 12 18 (fun x_5 => bz_rc h_4 a0 12 (bz_cV G l d kX12_next [.inr (some a0)] h_4 0 0 (fun h_7 => bz_rc h_7 a0 12 (bz_cI G l d kX12_one [.inr (some a0)] h_7 0 0 (fun x_8 h_9 => (¬ x_8 = 0 → bz_rc h_9 a0 12 (bz_cV G l d kX12_lays [.inr (some a0), .inl 3, .inl x_5] h_9 0 0 (fun h_11 => bz_J G κ kX12_term (d + 1) F bc bs 9 [some (.inr (some a0)), some (.inl x_5)] [] h_11))) ∧ (x_8 = 0 → F (some (.inl 0)) h_9))))))) ∧ (x_3 = 0 → bz_rc h_4 a0 12 (bz_cI G l d kX12_isSign [.inr (some a0), .inl 47] h_4 0 0 (fun x_12 h_13 => (x_12 = 0 → F (some (.inl 1)) h_13) ∧ (¬ (x_12 = 0) → bz_rI h_13 a0 12 18 (fun x_14 => bz_rc h_13 a0 12 (bz_cV G l d kX12_next [.inr (some a0)] h_13 0 0 (fun h_16 => bz_rc h_16 a0 12 (bz_cI G l d kX12_one [.inr (some a0)] h_16 0 0 (fun x_17 h_18 => (¬ x_17 = 0 → bz_rc h_18 a0 12 (bz_cV G l d kX12_lays [.inr (some a0), .inl 3, .inl x_14] h_18 0 0 (fun h_20 => bz_J G κ kX12_term (d + 1) F bc bs 9 [some (.inr (some a0)), some (.inl x_14)] [] h_20))) ∧ (x_17 = 0 → F (some (.inl 0)) h_18))))))))))))
set_option maxRecDepth 20000 in
set_option maxHeartbeats 4000000 in
theorem g_X12_term_9 {G : bz_G} {κ : bz_K} {l : Launch} {d : Nat} {F : Option bz_V → bz_H → Prop} {bc bs : Nat} (hl : κ.2.1 = l) (a0 : Nat) (u1 : Option bz_V) (h : bz_H) (hP0 : w_X12_term_9 G κ l d F bc bs a0 u1 h) : bz_J G κ kX12_term (d + 1) F bc bs 9 [some (.inr (some a0)), u1] [] h := by
  subst hl
  unfold w_X12_term_9 at hP0
  refine bz_aload_n (pc := 9) dX12_term_9 rfl rfl ?_
  refine bz_bipush (pc := 10) dX12_term_10 cb_42 ?_
  refine bz_kIV (as := [.inl 42]) (st := []) (ci := 12) (n := 1) (mc := 0) (ms := 0) (bc := bc) (bs := bs) (yc := kX12_isSign) (q := (RX12, TX12, 34)) (b := a0) (pc := 12) dX12_term_12 sc_X12_isSign ml_X12_272 im_X12_isSign se_X12_isSign rfl rfl rfl (Nat.le_of_ble_eq_true rfl) hP0 (fun x_3 h_4 hP1 => ?_)
  clear hP0
  refine bz_if_ne (tgt := 27) (pc := 15) dX12_term_15 rfl (fun c => ?_) (fun c => ?_)
  · have hP2 := hP1.1 c
    clear hP1
    refine bz_aload_n (pc := 27) dX12_term_27 rfl rfl ?_
    refine bz_rw_rI (pc := 28) dX12_term_28 fl_X12_247 hP2 (fun x_5 hP3 => ?_)
    clear hP2
    refine bz_s_istore_n (pc := 31) dX12_term_31 rfl (Nat.le_of_ble_eq_true rfl) [some (.inr (some a0)), some (.inl x_5)] rfl ?_
    refine bz_aload_n (pc := 32) dX12_term_32 rfl rfl ?_
    refine bz_kVV (as := []) (st := []) (ci := 12) (n := 0) (mc := 0) (ms := 0) (bc := bc) (bs := bs) (yc := kX12_next) (q := (RX12, TX12, 34)) (b := a0) (pc := 33) dX12_term_33 sc_X12_next ml_X12_265 im_X12_next se_X12_next rfl rfl rfl (Nat.le_of_ble_eq_true rfl) hP3 (fun h_7 hP4 => ?_)
    clear hP3
    refine bz_aload_n (pc := 36) dX12_term_36 rfl rfl ?_
    refine bz_kIV (as := []) (st := []) (ci := 12) (n := 0) (mc := 0) (ms := 0) (bc := bc) (bs := bs) (yc := kX12_one) (q := (RX12, TX12, 34)) (b := a0) (pc := 37) dX12_term_37 sc_X12_one ml_X12_281 im_X12_one se_X12_one rfl rfl rfl (Nat.le_of_ble_eq_true rfl) hP4 (fun x_8 h_9 hP5 => ?_)
    clear hP4
    refine bz_if_ne (tgt := 45) (pc := 40) dX12_term_40 rfl (fun c => ?_) (fun c => ?_)
    · have hP6 := hP5.1 c
      clear hP5
      refine bz_aload_n (pc := 45) dX12_term_45 rfl rfl ?_
      refine bz_iconst (pc := 46) dX12_term_46 ci_3 ?_
      refine bz_iload_n (pc := 47) dX12_term_47 rfl rfl ?_
      refine bz_kVV (as := [.inl 3, .inl x_5]) (st := []) (ci := 12) (n := 2) (mc := 0) (ms := 0) (bc := bc) (bs := bs) (yc := kX12_lays) (q := (RX12, TX12, 34)) (b := a0) (pc := 48) dX12_term_48 sc_X12_lays ml_X12_275 im_X12_lays se_X12_lays rfl rfl rfl (Nat.le_of_ble_eq_true rfl) hP6 (fun h_11 hP7 => ?_)
      clear hP6
      refine bz_goto (tgt := 9) (pc := 51) dX12_term_51 rfl ?_
      exact hP7
    · have hP8 := hP5.2 c
      clear hP5
      refine bz_iconst (pc := 43) dX12_term_43 ci_0 ?_
      exact bz_retI (pc := 44) dX12_term_44 rfl rfl hP8
  · have hP9 := hP1.2 c
    clear hP1
    refine bz_aload_n (pc := 18) dX12_term_18 rfl rfl ?_
    refine bz_bipush (pc := 19) dX12_term_19 cb_47 ?_
    refine bz_kIV (as := [.inl 47]) (st := []) (ci := 12) (n := 1) (mc := 0) (ms := 0) (bc := bc) (bs := bs) (yc := kX12_isSign) (q := (RX12, TX12, 34)) (b := a0) (pc := 21) dX12_term_21 sc_X12_isSign ml_X12_272 im_X12_isSign se_X12_isSign rfl rfl rfl (Nat.le_of_ble_eq_true rfl) hP9 (fun x_12 h_13 hP10 => ?_)
    clear hP9
    refine bz_if_eq (tgt := 54) (pc := 24) dX12_term_24 rfl (fun c => ?_) (fun c => ?_)
    · have hP11 := hP10.1 c
      clear hP10
      refine bz_iconst (pc := 54) dX12_term_54 ci_1 ?_
      exact bz_retI (pc := 55) dX12_term_55 rfl rfl hP11
    · have hP12 := hP10.2 c
      clear hP10
      refine bz_aload_n (pc := 27) dX12_term_27 rfl rfl ?_
      refine bz_rw_rI (pc := 28) dX12_term_28 fl_X12_247 hP12 (fun x_14 hP13 => ?_)
      clear hP12
      refine bz_s_istore_n (pc := 31) dX12_term_31 rfl (Nat.le_of_ble_eq_true rfl) [some (.inr (some a0)), some (.inl x_14)] rfl ?_
      refine bz_aload_n (pc := 32) dX12_term_32 rfl rfl ?_
      refine bz_kVV (as := []) (st := []) (ci := 12) (n := 0) (mc := 0) (ms := 0) (bc := bc) (bs := bs) (yc := kX12_next) (q := (RX12, TX12, 34)) (b := a0) (pc := 33) dX12_term_33 sc_X12_next ml_X12_265 im_X12_next se_X12_next rfl rfl rfl (Nat.le_of_ble_eq_true rfl) hP13 (fun h_16 hP14 => ?_)
      clear hP13
      refine bz_aload_n (pc := 36) dX12_term_36 rfl rfl ?_
      refine bz_kIV (as := []) (st := []) (ci := 12) (n := 0) (mc := 0) (ms := 0) (bc := bc) (bs := bs) (yc := kX12_one) (q := (RX12, TX12, 34)) (b := a0) (pc := 37) dX12_term_37 sc_X12_one ml_X12_281 im_X12_one se_X12_one rfl rfl rfl (Nat.le_of_ble_eq_true rfl) hP14 (fun x_17 h_18 hP15 => ?_)
      clear hP14
      refine bz_if_ne (tgt := 45) (pc := 40) dX12_term_40 rfl (fun c => ?_) (fun c => ?_)
      · have hP16 := hP15.1 c
        clear hP15
        refine bz_aload_n (pc := 45) dX12_term_45 rfl rfl ?_
        refine bz_iconst (pc := 46) dX12_term_46 ci_3 ?_
        refine bz_iload_n (pc := 47) dX12_term_47 rfl rfl ?_
        refine bz_kVV (as := [.inl 3, .inl x_14]) (st := []) (ci := 12) (n := 2) (mc := 0) (ms := 0) (bc := bc) (bs := bs) (yc := kX12_lays) (q := (RX12, TX12, 34)) (b := a0) (pc := 48) dX12_term_48 sc_X12_lays ml_X12_275 im_X12_lays se_X12_lays rfl rfl rfl (Nat.le_of_ble_eq_true rfl) hP16 (fun h_20 hP17 => ?_)
        clear hP16
        refine bz_goto (tgt := 9) (pc := 51) dX12_term_51 rfl ?_
        exact hP17
      · have hP18 := hP15.2 c
        clear hP15
        refine bz_iconst (pc := 43) dX12_term_43 ci_0 ?_
        exact bz_retI (pc := 44) dX12_term_44 rfl rfl hP18
theorem m_X12_term {G : bz_G} {l : Launch} {d mc ms : Nat} {F : Option bz_V → bz_H → Prop} (a0 : Nat) (h : bz_H) (hP : ∀ (κ : bz_K) (bc bs : Nat), κ.2.1 = l → w_X12_term_0 G κ l d F bc bs a0 h) : bz_Call G l (d + 1) kX12_term [.inr (some a0)] h mc ms F :=
  bz_body (by decide) (Nat.le_of_ble_eq_true rfl) (fun κ hl => g_X12_term_0 hl a0 h (hP κ mc ms hl))
def w_X12_text_0 (G : bz_G) (κ : bz_K) (l : Launch) (d : Nat) (F : Option bz_V → bz_H → Prop) (bc bs : Nat) (a0 : Nat) (h : bz_H) : Prop := bz_rR h a0 12 0 (fun r_1 => bz_nn r_1 (fun a_2 => bz_rA h a_2 4 (fun x_3 => (¬ x_3 = 8 → bz_wI h a0 12 17 0 (fun h_4 => bz_wI h_4 a0 12 19 0 (fun h_5 => bz_wI h_5 a0 12 20 0 (fun h_6 => bz_rc h_6 a0 12 (bz_cV G l d kX12_next [.inr (some a0)] h_6 0 0 (fun h_8 => bz_rc h_8 a0 12 (bz_cI G l d kX12_whole [.inr (some a0)] h_8 0 0 (fun x_9 h_10 => (x_9 = 0 → bz_wI h_10 a0 12 14 0 (fun h_11 => (¬ (0 : Int32) = 0 → bz_rR h_11 a0 12 0 (fun r_12 => bz_nn r_12 (fun a_13 => bz_rA h_11 a_13 4 (fun x_14 => bz_rR h_11 a0 12 0 (fun r_15 => bz_rI h_11 a0 12 20 (fun x_16 => bz_nn r_15 (fun a_17 => bz_wA h_11 a_17 (976 + (165 * x_14)) x_16 (fun h_18 => bz_J G κ kX12_text (d + 1) F bc bs 99 [some (.inr (some a0)), some (.inl 0), some (.inl (976 + (165 * x_14))), some (.inl 0)] [] h_18)))))))) ∧ ((0 : Int32) = 0 → bz_rI h_11 a0 12 16 (fun x_19 => F (some (.inl ((-1) - x_19))) h_11)))) ∧ (¬ (x_9 = 0) → bz_rI h_10 a0 12 15 (fun x_20 => bz_wI h_10 a0 12 14 0 (fun h_21 => (¬ (if x_20 = 0 then 1 else 0 : Int32) = 0 → bz_rR h_21 a0 12 0 (fun r_22 => bz_nn r_22 (fun a_23 => bz_rA h_21 a_23 4 (fun x_24 => bz_rR h_21 a0 12 0 (fun r_25 => bz_rI h_21 a0 12 20 (fun x_26 => bz_nn r_25 (fun a_27 => bz_wA h_21 a_27 (976 + (165 * x_24)) x_26 (fun h_28 => bz_J G κ kX12_text (d + 1) F bc bs 99 [some (.inr (some a0)), some (.inl (if x_20 = 0 then 1 else 0)), some (.inl (976 + (165 * x_24))), some (.inl 0)] [] h_28)))))))) ∧ ((if x_20 = 0 then 1 else 0 : Int32) = 0 → bz_rI h_21 a0 12 16 (fun x_29 => F (some (.inl ((-1) - x_29))) h_21))))))))))))) ∧ (x_3 = 8 → bz_rc h a0 12 (bz_cI G l d kX12_finding [.inr (some a0), .inl 1] h 0 0 (fun x_30 h_31 => F (some (.inl x_30)) h_31))))))
set_option maxRecDepth 20000 in
set_option maxHeartbeats 4000000 in
theorem g_X12_text_0 {G : bz_G} {κ : bz_K} {l : Launch} {d : Nat} {F : Option bz_V → bz_H → Prop} {bc bs : Nat} (hl : κ.2.1 = l) (a0 : Nat) (h : bz_H) (hP0 : w_X12_text_0 G κ l d F bc bs a0 h) : bz_J G κ kX12_text (d + 1) F bc bs 0 [some (.inr (some a0)), none, none, none] [] h := by
  subst hl
  unfold w_X12_text_0 at hP0
  refine bz_aload_n (pc := 0) dX12_text_0 rfl rfl ?_
  refine bz_rw_rR (pc := 1) dX12_text_1 fl_X12_7 hP0 (fun r_1 hP1 => ?_)
  clear hP0
  refine bz_iconst (pc := 4) dX12_text_4 ci_4 ?_
  obtain ⟨a_2, rfl, hP2⟩ := hP1
  refine bz_rw_rA (pc := 5) dX12_text_5 hP2 (fun x_3 hP3 => ?_)
  clear hP2
  refine bz_bipush (pc := 6) dX12_text_6 cb_8 ?_
  refine bz_icmp_ne (tgt := 17) (pc := 8) dX12_text_8 rfl (fun c => ?_) (fun c => ?_)
  · have hP4 := hP3.1 c
    clear hP3
    refine bz_aload_n (pc := 17) dX12_text_17 rfl rfl ?_
    refine bz_iconst (pc := 18) dX12_text_18 ci_0 ?_
    refine bz_rw_wI (pc := 19) dX12_text_19 fl_X12_238 (fun q h9 => by cases h9; rfl) rfl hP4 (fun h_4 hP5 => ?_)
    clear hP4
    refine bz_aload_n (pc := 22) dX12_text_22 rfl rfl ?_
    refine bz_iconst (pc := 23) dX12_text_23 ci_0 ?_
    refine bz_rw_wI (pc := 24) dX12_text_24 fl_X12_262 (fun q h9 => by cases h9; rfl) rfl hP5 (fun h_5 hP6 => ?_)
    clear hP5
    refine bz_aload_n (pc := 27) dX12_text_27 rfl rfl ?_
    refine bz_iconst (pc := 28) dX12_text_28 ci_0 ?_
    refine bz_rw_wI (pc := 29) dX12_text_29 fl_X12_259 (fun q h9 => by cases h9; rfl) rfl hP6 (fun h_6 hP7 => ?_)
    clear hP6
    refine bz_aload_n (pc := 32) dX12_text_32 rfl rfl ?_
    refine bz_kVV (as := []) (st := []) (ci := 12) (n := 0) (mc := 0) (ms := 0) (bc := bc) (bs := bs) (yc := kX12_next) (q := (RX12, TX12, 34)) (b := a0) (pc := 33) dX12_text_33 sc_X12_next ml_X12_265 im_X12_next se_X12_next rfl rfl rfl (Nat.le_of_ble_eq_true rfl) hP7 (fun h_8 hP8 => ?_)
    clear hP7
    refine bz_aload_n (pc := 36) dX12_text_36 rfl rfl ?_
    refine bz_kIV (as := []) (st := []) (ci := 12) (n := 0) (mc := 0) (ms := 0) (bc := bc) (bs := bs) (yc := kX12_whole) (q := (RX12, TX12, 34)) (b := a0) (pc := 37) dX12_text_37 sc_X12_whole ml_X12_287 im_X12_whole se_X12_whole rfl rfl rfl (Nat.le_of_ble_eq_true rfl) hP8 (fun x_9 h_10 hP9 => ?_)
    clear hP8
    refine bz_if_eq (tgt := 54) (pc := 40) dX12_text_40 rfl (fun c => ?_) (fun c => ?_)
    · have hP10 := hP9.1 c
      clear hP9
      refine bz_iconst (pc := 54) dX12_text_54 ci_0 ?_
      refine bz_s_istore_n (pc := 55) dX12_text_55 rfl (Nat.le_of_ble_eq_true rfl) [some (.inr (some a0)), some (.inl 0), none, none] rfl ?_
      refine bz_aload_n (pc := 56) dX12_text_56 rfl rfl ?_
      refine bz_iconst (pc := 57) dX12_text_57 ci_0 ?_
      refine bz_rw_wI (pc := 58) dX12_text_58 fl_X12_235 (fun q h9 => by cases h9; rfl) rfl hP10 (fun h_11 hP11 => ?_)
      clear hP10
      refine bz_iload_n (pc := 61) dX12_text_61 rfl rfl ?_
      refine bz_if_ne (tgt := 72) (pc := 62) dX12_text_62 rfl (fun c => ?_) (fun c => ?_)
      · have hP12 := hP11.1 c
        clear hP11
        refine bz_sipush (pc := 72) dX12_text_72 cs_976 ?_
        refine bz_sipush (pc := 75) dX12_text_75 cs_165 ?_
        refine bz_aload_n (pc := 78) dX12_text_78 rfl rfl ?_
        refine bz_rw_rR (pc := 79) dX12_text_79 fl_X12_7 hP12 (fun r_12 hP13 => ?_)
        clear hP12
        refine bz_iconst (pc := 82) dX12_text_82 ci_4 ?_
        obtain ⟨a_13, rfl, hP14⟩ := hP13
        refine bz_rw_rA (pc := 83) dX12_text_83 hP14 (fun x_14 hP15 => ?_)
        clear hP14
        refine bz_imul (pc := 84) dX12_text_84 ?_
        refine bz_iadd (pc := 85) dX12_text_85 ?_
        refine bz_s_istore_n (pc := 86) dX12_text_86 rfl (Nat.le_of_ble_eq_true rfl) [some (.inr (some a0)), some (.inl 0), some (.inl (976 + (165 * x_14))), none] rfl ?_
        refine bz_aload_n (pc := 87) dX12_text_87 rfl rfl ?_
        refine bz_rw_rR (pc := 88) dX12_text_88 fl_X12_7 hP15 (fun r_15 hP16 => ?_)
        clear hP15
        refine bz_iload_n (pc := 91) dX12_text_91 rfl rfl ?_
        refine bz_aload_n (pc := 92) dX12_text_92 rfl rfl ?_
        refine bz_rw_rI (pc := 93) dX12_text_93 fl_X12_259 hP16 (fun x_16 hP17 => ?_)
        clear hP16
        obtain ⟨a_17, rfl, hP18⟩ := hP17
        refine bz_rw_wA (pc := 96) dX12_text_96 hP18 (fun h_18 hP19 => ?_)
        clear hP18
        refine bz_iconst (pc := 97) dX12_text_97 ci_0 ?_
        refine bz_s_istore_n (pc := 98) dX12_text_98 rfl (Nat.le_of_ble_eq_true rfl) [some (.inr (some a0)), some (.inl 0), some (.inl (976 + (165 * x_14))), some (.inl 0)] rfl ?_
        exact hP19
      · have hP20 := hP11.2 c
        clear hP11
        refine bz_iconst (pc := 65) dX12_text_65 ci_m1 ?_
        refine bz_aload_n (pc := 66) dX12_text_66 rfl rfl ?_
        refine bz_rw_rI (pc := 67) dX12_text_67 fl_X12_241 hP20 (fun x_19 hP21 => ?_)
        clear hP20
        refine bz_isub (pc := 70) dX12_text_70 ?_
        exact bz_retI (pc := 71) dX12_text_71 rfl rfl hP21
    · have hP22 := hP9.2 c
      clear hP9
      refine bz_aload_n (pc := 43) dX12_text_43 rfl rfl ?_
      refine bz_rw_rI (pc := 44) dX12_text_44 fl_X12_244 hP22 (fun x_20 hP23 => ?_)
      clear hP22
      have hJ : bz_J G κ kX12_text (d + 1) F bc bs 55 [some (.inr (some a0)), none, none, none] [.inl (if x_20 = 0 then 1 else 0)] h_10 := by
        refine bz_s_istore_n (pc := 55) dX12_text_55 rfl (Nat.le_of_ble_eq_true rfl) [some (.inr (some a0)), some (.inl (if x_20 = 0 then 1 else 0)), none, none] rfl ?_
        refine bz_aload_n (pc := 56) dX12_text_56 rfl rfl ?_
        refine bz_iconst (pc := 57) dX12_text_57 ci_0 ?_
        refine bz_rw_wI (pc := 58) dX12_text_58 fl_X12_235 (fun q h9 => by cases h9; rfl) rfl hP23 (fun h_21 hP24 => ?_)
        clear hP23
        refine bz_iload_n (pc := 61) dX12_text_61 rfl rfl ?_
        refine bz_if_ne (tgt := 72) (pc := 62) dX12_text_62 rfl (fun c => ?_) (fun c => ?_)
        · have hP25 := hP24.1 c
          clear hP24
          refine bz_sipush (pc := 72) dX12_text_72 cs_976 ?_
          refine bz_sipush (pc := 75) dX12_text_75 cs_165 ?_
          refine bz_aload_n (pc := 78) dX12_text_78 rfl rfl ?_
          refine bz_rw_rR (pc := 79) dX12_text_79 fl_X12_7 hP25 (fun r_22 hP26 => ?_)
          clear hP25
          refine bz_iconst (pc := 82) dX12_text_82 ci_4 ?_
          obtain ⟨a_23, rfl, hP27⟩ := hP26
          refine bz_rw_rA (pc := 83) dX12_text_83 hP27 (fun x_24 hP28 => ?_)
          clear hP27
          refine bz_imul (pc := 84) dX12_text_84 ?_
          refine bz_iadd (pc := 85) dX12_text_85 ?_
          refine bz_s_istore_n (pc := 86) dX12_text_86 rfl (Nat.le_of_ble_eq_true rfl) [some (.inr (some a0)), some (.inl (if x_20 = 0 then 1 else 0)), some (.inl (976 + (165 * x_24))), none] rfl ?_
          refine bz_aload_n (pc := 87) dX12_text_87 rfl rfl ?_
          refine bz_rw_rR (pc := 88) dX12_text_88 fl_X12_7 hP28 (fun r_25 hP29 => ?_)
          clear hP28
          refine bz_iload_n (pc := 91) dX12_text_91 rfl rfl ?_
          refine bz_aload_n (pc := 92) dX12_text_92 rfl rfl ?_
          refine bz_rw_rI (pc := 93) dX12_text_93 fl_X12_259 hP29 (fun x_26 hP30 => ?_)
          clear hP29
          obtain ⟨a_27, rfl, hP31⟩ := hP30
          refine bz_rw_wA (pc := 96) dX12_text_96 hP31 (fun h_28 hP32 => ?_)
          clear hP31
          refine bz_iconst (pc := 97) dX12_text_97 ci_0 ?_
          refine bz_s_istore_n (pc := 98) dX12_text_98 rfl (Nat.le_of_ble_eq_true rfl) [some (.inr (some a0)), some (.inl (if x_20 = 0 then 1 else 0)), some (.inl (976 + (165 * x_24))), some (.inl 0)] rfl ?_
          exact hP32
        · have hP33 := hP24.2 c
          clear hP24
          refine bz_iconst (pc := 65) dX12_text_65 ci_m1 ?_
          refine bz_aload_n (pc := 66) dX12_text_66 rfl rfl ?_
          refine bz_rw_rI (pc := 67) dX12_text_67 fl_X12_241 hP33 (fun x_29 hP34 => ?_)
          clear hP33
          refine bz_isub (pc := 70) dX12_text_70 ?_
          exact bz_retI (pc := 71) dX12_text_71 rfl rfl hP34
      refine bz_if_ne (tgt := 54) (pc := 47) dX12_text_47 rfl (fun c => ?_) (fun c => ?_)
      · have e9 : ((if x_20 = 0 then 1 else 0) : Int32) = (0) := if_neg c
        rw [e9] at hJ
        refine bz_iconst (pc := 54) dX12_text_54 ci_0 ?_
        exact hJ
      · have e9 : ((if x_20 = 0 then 1 else 0) : Int32) = (1) := if_pos c
        rw [e9] at hJ
        refine bz_iconst (pc := 50) dX12_text_50 ci_1 ?_
        refine bz_goto (tgt := 55) (pc := 51) dX12_text_51 rfl ?_
        exact hJ
  · have hP35 := hP3.2 c
    clear hP3
    refine bz_aload_n (pc := 11) dX12_text_11 rfl rfl ?_
    refine bz_iconst (pc := 12) dX12_text_12 ci_1 ?_
    refine bz_kIV (as := [.inl 1]) (st := []) (ci := 12) (n := 1) (mc := 0) (ms := 0) (bc := bc) (bs := bs) (yc := kX12_finding) (q := (RX12, TX12, 34)) (b := a0) (pc := 13) dX12_text_13 sc_X12_finding ml_X12_73 im_X12_finding se_X12_finding rfl rfl rfl (Nat.le_of_ble_eq_true rfl) hP35 (fun x_30 h_31 hP36 => ?_)
    clear hP35
    exact bz_retI (pc := 16) dX12_text_16 rfl rfl hP36
def w_X12_text_99 (G : bz_G) (κ : bz_K) (l : Launch) (d : Nat) (F : Option bz_V → bz_H → Prop) (bc bs : Nat) (a0 : Nat) (x1 : Int32) (x2 : Int32) (x3 : Int32) (h : bz_H) : Prop := bz_rI h a0 12 20 (fun x_32 => ((2 * x_32) ≤ x3 → bz_rR h a0 12 0 (fun r_33 => bz_nn r_33 (fun a_34 => bz_rA h a_34 4 (fun x_35 => bz_wA h a_34 4 (x_35 + 1) (fun h_36 => bz_rR h_36 a0 12 0 (fun r_37 => bz_nn r_37 (fun a_38 => bz_rA h_36 a_38 4 (fun x_39 => F (some (.inl (x_39 - 1))) h_36)))))))) ∧ (¬ ((2 * x_32) ≤ x3) → bz_rR h a0 12 0 (fun r_40 => bz_rR h a0 12 21 (fun r_41 => bz_nn r_41 (fun a_42 => bz_rA h a_42 x3 (fun x_43 => bz_nn r_40 (fun a_44 => bz_wA h a_44 ((x2 + 1) + x3) x_43 (fun h_45 => bz_J G κ kX12_text (d + 1) F bc bs 99 [some (.inr (some a0)), some (.inl x1), some (.inl x2), some (.inl (x3 + 1))] [] h_45))))))))
set_option maxRecDepth 20000 in
set_option maxHeartbeats 4000000 in
theorem g_X12_text_99 {G : bz_G} {κ : bz_K} {l : Launch} {d : Nat} {F : Option bz_V → bz_H → Prop} {bc bs : Nat} (hl : κ.2.1 = l) (a0 : Nat) (x1 : Int32) (x2 : Int32) (x3 : Int32) (h : bz_H) (hP0 : w_X12_text_99 G κ l d F bc bs a0 x1 x2 x3 h) : bz_J G κ kX12_text (d + 1) F bc bs 99 [some (.inr (some a0)), some (.inl x1), some (.inl x2), some (.inl x3)] [] h := by
  subst hl
  unfold w_X12_text_99 at hP0
  refine bz_iload_n (pc := 99) dX12_text_99 rfl rfl ?_
  refine bz_iconst (pc := 100) dX12_text_100 ci_2 ?_
  refine bz_aload_n (pc := 101) dX12_text_101 rfl rfl ?_
  refine bz_rw_rI (pc := 102) dX12_text_102 fl_X12_259 hP0 (fun x_32 hP1 => ?_)
  clear hP0
  refine bz_imul (pc := 105) dX12_text_105 ?_
  refine bz_icmp_ge (tgt := 131) (pc := 106) dX12_text_106 rfl (fun c => ?_) (fun c => ?_)
  · have hP2 := hP1.1 c
    clear hP1
    refine bz_aload_n (pc := 131) dX12_text_131 rfl rfl ?_
    refine bz_rw_rR (pc := 132) dX12_text_132 fl_X12_7 hP2 (fun r_33 hP3 => ?_)
    clear hP2
    refine bz_iconst (pc := 135) dX12_text_135 ci_4 ?_
    refine bz_dup2 (pc := 136) dX12_text_136 ?_
    obtain ⟨a_34, rfl, hP4⟩ := hP3
    refine bz_rw_rA (pc := 137) dX12_text_137 hP4 (fun x_35 hP5 => ?_)
    clear hP4
    refine bz_iconst (pc := 138) dX12_text_138 ci_1 ?_
    refine bz_iadd (pc := 139) dX12_text_139 ?_
    refine bz_rw_wA (pc := 140) dX12_text_140 hP5 (fun h_36 hP6 => ?_)
    clear hP5
    refine bz_aload_n (pc := 141) dX12_text_141 rfl rfl ?_
    refine bz_rw_rR (pc := 142) dX12_text_142 fl_X12_7 hP6 (fun r_37 hP7 => ?_)
    clear hP6
    refine bz_iconst (pc := 145) dX12_text_145 ci_4 ?_
    obtain ⟨a_38, rfl, hP8⟩ := hP7
    refine bz_rw_rA (pc := 146) dX12_text_146 hP8 (fun x_39 hP9 => ?_)
    clear hP8
    refine bz_iconst (pc := 147) dX12_text_147 ci_1 ?_
    refine bz_isub (pc := 148) dX12_text_148 ?_
    exact bz_retI (pc := 149) dX12_text_149 rfl rfl hP9
  · have hP10 := hP1.2 c
    clear hP1
    refine bz_aload_n (pc := 109) dX12_text_109 rfl rfl ?_
    refine bz_rw_rR (pc := 110) dX12_text_110 fl_X12_7 hP10 (fun r_40 hP11 => ?_)
    clear hP10
    refine bz_iload_n (pc := 113) dX12_text_113 rfl rfl ?_
    refine bz_iconst (pc := 114) dX12_text_114 ci_1 ?_
    refine bz_iadd (pc := 115) dX12_text_115 ?_
    refine bz_iload_n (pc := 116) dX12_text_116 rfl rfl ?_
    refine bz_iadd (pc := 117) dX12_text_117 ?_
    refine bz_aload_n (pc := 118) dX12_text_118 rfl rfl ?_
    refine bz_rw_rR (pc := 119) dX12_text_119 fl_X12_31 hP11 (fun r_41 hP12 => ?_)
    clear hP11
    refine bz_iload_n (pc := 122) dX12_text_122 rfl rfl ?_
    obtain ⟨a_42, rfl, hP13⟩ := hP12
    refine bz_rw_rA (pc := 123) dX12_text_123 hP13 (fun x_43 hP14 => ?_)
    clear hP13
    obtain ⟨a_44, rfl, hP15⟩ := hP14
    refine bz_rw_wA (pc := 124) dX12_text_124 hP15 (fun h_45 hP16 => ?_)
    clear hP15
    refine bz_s_iinc (pc := 125) dX12_text_125 (Nat.le_of_ble_eq_true rfl) rfl rfl [some (.inr (some a0)), some (.inl x1), some (.inl x2), some (.inl (x3 + 1))] rfl ?_
    refine bz_goto (tgt := 99) (pc := 128) dX12_text_128 rfl ?_
    exact hP16
theorem m_X12_text {G : bz_G} {l : Launch} {d mc ms : Nat} {F : Option bz_V → bz_H → Prop} (a0 : Nat) (h : bz_H) (hP : ∀ (κ : bz_K) (bc bs : Nat), κ.2.1 = l → w_X12_text_0 G κ l d F bc bs a0 h) : bz_Call G l (d + 1) kX12_text [.inr (some a0)] h mc ms F :=
  bz_body (by decide) (Nat.le_of_ble_eq_true rfl) (fun κ hl => g_X12_text_0 hl a0 h (hP κ mc ms hl))
def w_X12_tripFrom_0 (G : bz_G) (l : Launch) (d : Nat) (F : Option bz_V → bz_H → Prop) (a0 : Nat) (x1 : Int32) (x2 : Int32) (x3 : Int32) (x4 : Int32) (h : bz_H) : Prop := bz_rc h a0 12 (bz_cV G l d kX12_begin [.inr (some a0), .inl x2, .inl x3] h 0 0 (fun h_2 => bz_rc h_2 a0 12 (bz_cV G l d kX12_pickUp [.inr (some a0), .inl x1, .inl x4, .inl 0] h_2 0 0 (fun h_4 => bz_rc h_4 a0 12 (bz_cV G l d kX12_bring [.inr (some a0), .inl x1, .inl x4, .inl 0] h_4 0 0 (fun h_6 => bz_rI h_6 a0 12 8 (fun x_7 => (x_7 = 0 → F (some (.inl 0)) h_6) ∧ (¬ (x_7 = 0) → bz_rI h_6 a0 12 7 (fun x_8 => F (some (.inl (if 1439 < x_8 then 0 else 1))) h_6)))))))))
set_option maxRecDepth 20000 in
set_option maxHeartbeats 4000000 in
theorem g_X12_tripFrom_0 {G : bz_G} {κ : bz_K} {l : Launch} {d : Nat} {F : Option bz_V → bz_H → Prop} {bc bs : Nat} (hl : κ.2.1 = l) (a0 : Nat) (x1 : Int32) (x2 : Int32) (x3 : Int32) (x4 : Int32) (h : bz_H) (hP0 : w_X12_tripFrom_0 G l d F a0 x1 x2 x3 x4 h) : bz_J G κ kX12_tripFrom (d + 1) F bc bs 0 [some (.inr (some a0)), some (.inl x1), some (.inl x2), some (.inl x3), some (.inl x4)] [] h := by
  subst hl
  unfold w_X12_tripFrom_0 at hP0
  refine bz_aload_n (pc := 0) dX12_tripFrom_0 rfl rfl ?_
  refine bz_iload_n (pc := 1) dX12_tripFrom_1 rfl rfl ?_
  refine bz_iload_n (pc := 2) dX12_tripFrom_2 rfl rfl ?_
  refine bz_kVV (as := [.inl x2, .inl x3]) (st := []) (ci := 12) (n := 2) (mc := 0) (ms := 0) (bc := bc) (bs := bs) (yc := kX12_begin) (q := (RX12, TX12, 34)) (b := a0) (pc := 3) dX12_tripFrom_3 sc_X12_begin ml_X12_177 im_X12_begin se_X12_begin rfl rfl rfl (Nat.le_of_ble_eq_true rfl) hP0 (fun h_2 hP1 => ?_)
  clear hP0
  refine bz_aload_n (pc := 6) dX12_tripFrom_6 rfl rfl ?_
  refine bz_iload_n (pc := 7) dX12_tripFrom_7 rfl rfl ?_
  refine bz_iload (pc := 8) dX12_tripFrom_8 rfl ?_
  refine bz_iconst (pc := 10) dX12_tripFrom_10 ci_0 ?_
  refine bz_kVV (as := [.inl x1, .inl x4, .inl 0]) (st := []) (ci := 12) (n := 3) (mc := 0) (ms := 0) (bc := bc) (bs := bs) (yc := kX12_pickUp) (q := (RX12, TX12, 34)) (b := a0) (pc := 11) dX12_tripFrom_11 sc_X12_pickUp ml_X12_180 im_X12_pickUp se_X12_pickUp rfl rfl rfl (Nat.le_of_ble_eq_true rfl) hP1 (fun h_4 hP2 => ?_)
  clear hP1
  refine bz_aload_n (pc := 14) dX12_tripFrom_14 rfl rfl ?_
  refine bz_iload_n (pc := 15) dX12_tripFrom_15 rfl rfl ?_
  refine bz_iload (pc := 16) dX12_tripFrom_16 rfl ?_
  refine bz_iconst (pc := 18) dX12_tripFrom_18 ci_0 ?_
  refine bz_kVV (as := [.inl x1, .inl x4, .inl 0]) (st := []) (ci := 12) (n := 3) (mc := 0) (ms := 0) (bc := bc) (bs := bs) (yc := kX12_bring) (q := (RX12, TX12, 34)) (b := a0) (pc := 19) dX12_tripFrom_19 sc_X12_bring ml_X12_184 im_X12_bring se_X12_bring rfl rfl rfl (Nat.le_of_ble_eq_true rfl) hP2 (fun h_6 hP3 => ?_)
  clear hP2
  refine bz_aload_n (pc := 22) dX12_tripFrom_22 rfl rfl ?_
  refine bz_rw_rI (pc := 23) dX12_tripFrom_23 fl_X12_160 hP3 (fun x_7 hP4 => ?_)
  clear hP3
  refine bz_if_eq (tgt := 43) (pc := 26) dX12_tripFrom_26 rfl (fun c => ?_) (fun c => ?_)
  · have hP5 := hP4.1 c
    clear hP4
    refine bz_iconst (pc := 43) dX12_tripFrom_43 ci_0 ?_
    exact bz_retI (pc := 44) dX12_tripFrom_44 rfl rfl hP5
  · have hP6 := hP4.2 c
    clear hP4
    refine bz_aload_n (pc := 29) dX12_tripFrom_29 rfl rfl ?_
    refine bz_rw_rI (pc := 30) dX12_tripFrom_30 fl_X12_167 hP6 (fun x_8 hP7 => ?_)
    clear hP6
    refine bz_sipush (pc := 33) dX12_tripFrom_33 cs_1439 ?_
    have hJ : bz_J G κ kX12_tripFrom (d + 1) F bc bs 44 [some (.inr (some a0)), some (.inl x1), some (.inl x2), some (.inl x3), some (.inl x4)] [.inl (if 1439 < x_8 then 0 else 1)] h_6 := by
      exact bz_retI (pc := 44) dX12_tripFrom_44 rfl (by (repeat' split) <;> rfl) hP7
    refine bz_icmp_gt (tgt := 43) (pc := 36) dX12_tripFrom_36 rfl (fun c => ?_) (fun c => ?_)
    · have e9 : ((if 1439 < x_8 then 0 else 1) : Int32) = (0) := if_pos c
      rw [e9] at hJ
      refine bz_iconst (pc := 43) dX12_tripFrom_43 ci_0 ?_
      exact hJ
    · have e9 : ((if 1439 < x_8 then 0 else 1) : Int32) = (1) := if_neg c
      rw [e9] at hJ
      refine bz_iconst (pc := 39) dX12_tripFrom_39 ci_1 ?_
      refine bz_goto (tgt := 44) (pc := 40) dX12_tripFrom_40 rfl ?_
      exact hJ
theorem m_X12_tripFrom {G : bz_G} {l : Launch} {d mc ms : Nat} {F : Option bz_V → bz_H → Prop} (a0 : Nat) (x1 : Int32) (x2 : Int32) (x3 : Int32) (x4 : Int32) (h : bz_H) (hP : w_X12_tripFrom_0 G l d F a0 x1 x2 x3 x4 h) : bz_Call G l (d + 1) kX12_tripFrom [.inr (some a0), .inl x1, .inl x2, .inl x3, .inl x4] h mc ms F :=
  bz_body (by decide) (Nat.le_of_ble_eq_true rfl) (fun κ hl => g_X12_tripFrom_0 hl a0 x1 x2 x3 x4 h hP)
def w_X12_tripNow_0 (G : bz_G) (l : Launch) (d : Nat) (F : Option bz_V → bz_H → Prop) (a0 : Nat) (x1 : Int32) (x2 : Int32) (h : bz_H) : Prop := bz_rc h a0 12 (bz_cI G l d kX12_ofRider [.inr (some a0), .inl x1, .inl 0] h 0 0 (fun x_1 h_2 => bz_rc h_2 a0 12 (bz_cI G l d kX12_ofRider [.inr (some a0), .inl x1, .inl 1] h_2 0 0 (fun x_3 h_4 => bz_rc h_4 a0 12 (bz_cI G l d kX12_beginsAt [.inr (some a0), .inl x1] h_4 0 0 (fun x_5 h_6 => bz_rc h_6 a0 12 (bz_cI G l d kX12_tripFrom [.inr (some a0), .inl x_1, .inl x_3, .inl x_5, .inl x2] h_6 0 0 (fun x_7 h_8 => bz_b x_7 (F (some (.inl x_7)) h_8)))))))))
set_option maxRecDepth 20000 in
set_option maxHeartbeats 4000000 in
theorem g_X12_tripNow_0 {G : bz_G} {κ : bz_K} {l : Launch} {d : Nat} {F : Option bz_V → bz_H → Prop} {bc bs : Nat} (hl : κ.2.1 = l) (a0 : Nat) (x1 : Int32) (x2 : Int32) (h : bz_H) (hP0 : w_X12_tripNow_0 G l d F a0 x1 x2 h) : bz_J G κ kX12_tripNow (d + 1) F bc bs 0 [some (.inr (some a0)), some (.inl x1), some (.inl x2)] [] h := by
  subst hl
  unfold w_X12_tripNow_0 at hP0
  refine bz_aload_n (pc := 0) dX12_tripNow_0 rfl rfl ?_
  refine bz_aload_n (pc := 1) dX12_tripNow_1 rfl rfl ?_
  refine bz_iload_n (pc := 2) dX12_tripNow_2 rfl rfl ?_
  refine bz_iconst (pc := 3) dX12_tripNow_3 ci_0 ?_
  refine bz_kIV (as := [.inl x1, .inl 0]) (st := [.inr (some a0)]) (ci := 12) (n := 2) (mc := 0) (ms := 0) (bc := bc) (bs := bs) (yc := kX12_ofRider) (q := (RX12, TX12, 34)) (b := a0) (pc := 4) dX12_tripNow_4 sc_X12_ofRider ml_X12_136 im_X12_ofRider se_X12_ofRider rfl rfl rfl (Nat.le_of_ble_eq_true rfl) hP0 (fun x_1 h_2 hP1 => ?_)
  clear hP0
  refine bz_aload_n (pc := 7) dX12_tripNow_7 rfl rfl ?_
  refine bz_iload_n (pc := 8) dX12_tripNow_8 rfl rfl ?_
  refine bz_iconst (pc := 9) dX12_tripNow_9 ci_1 ?_
  refine bz_kIV (as := [.inl x1, .inl 1]) (st := [.inl x_1, .inr (some a0)]) (ci := 12) (n := 2) (mc := 0) (ms := 0) (bc := bc) (bs := bs) (yc := kX12_ofRider) (q := (RX12, TX12, 34)) (b := a0) (pc := 10) dX12_tripNow_10 sc_X12_ofRider ml_X12_136 im_X12_ofRider se_X12_ofRider rfl rfl rfl (Nat.le_of_ble_eq_true rfl) hP1 (fun x_3 h_4 hP2 => ?_)
  clear hP1
  refine bz_aload_n (pc := 13) dX12_tripNow_13 rfl rfl ?_
  refine bz_iload_n (pc := 14) dX12_tripNow_14 rfl rfl ?_
  refine bz_kIV (as := [.inl x1]) (st := [.inl x_3, .inl x_1, .inr (some a0)]) (ci := 12) (n := 1) (mc := 0) (ms := 0) (bc := bc) (bs := bs) (yc := kX12_beginsAt) (q := (RX12, TX12, 34)) (b := a0) (pc := 15) dX12_tripNow_15 sc_X12_beginsAt ml_X12_187 im_X12_beginsAt se_X12_beginsAt rfl rfl rfl (Nat.le_of_ble_eq_true rfl) hP2 (fun x_5 h_6 hP3 => ?_)
  clear hP2
  refine bz_iload_n (pc := 18) dX12_tripNow_18 rfl rfl ?_
  refine bz_kIV (as := [.inl x_1, .inl x_3, .inl x_5, .inl x2]) (st := []) (ci := 12) (n := 4) (mc := 0) (ms := 0) (bc := bc) (bs := bs) (yc := kX12_tripFrom) (q := (RX12, TX12, 34)) (b := a0) (pc := 19) dX12_tripNow_19 sc_X12_tripFrom ml_X12_190 im_X12_tripFrom se_X12_tripFrom rfl rfl rfl (Nat.le_of_ble_eq_true rfl) hP3 (fun x_7 h_8 hP4 => ?_)
  clear hP3
  obtain ⟨hb, hP5⟩ := hP4
  exact bz_retI (pc := 22) dX12_tripNow_22 rfl (by rcases hb with hb | hb <;> rw [hb] <;> rfl) hP5
theorem m_X12_tripNow {G : bz_G} {l : Launch} {d mc ms : Nat} {F : Option bz_V → bz_H → Prop} (a0 : Nat) (x1 : Int32) (x2 : Int32) (h : bz_H) (hP : w_X12_tripNow_0 G l d F a0 x1 x2 h) : bz_Call G l (d + 1) kX12_tripNow [.inr (some a0), .inl x1, .inl x2] h mc ms F :=
  bz_body (by decide) (Nat.le_of_ble_eq_true rfl) (fun κ hl => g_X12_tripNow_0 hl a0 x1 x2 h hP)
def w_X12_trip_0 (G : bz_G) (l : Launch) (d : Nat) (F : Option bz_V → bz_H → Prop) (a0 : Nat) (x1 : Int32) (x2 : Int32) (x3 : Int32) (h : bz_H) : Prop := bz_rc h a0 12 (bz_cI G l d kX12_isRider [.inr (some a0), .inl x1] h 0 0 (fun x_1 h_2 => (x_1 = 0 → bz_rc h_2 a0 12 (bz_cI G l d kX12_finding [.inr (some a0), .inl 0] h_2 0 0 (fun x_3 h_4 => F (some (.inl x_3)) h_4))) ∧ (¬ (x_1 = 0) → bz_rc h_2 a0 12 (bz_cI G l d kX12_isOrder [.inr (some a0), .inl x2] h_2 0 0 (fun x_5 h_6 => (x_5 = 0 → bz_rc h_6 a0 12 (bz_cI G l d kX12_finding [.inr (some a0), .inl 0] h_6 0 0 (fun x_7 h_8 => F (some (.inl x_7)) h_8))) ∧ (¬ (x_5 = 0) → bz_cI G l d kX12_in [.inl x3, .inl 0, .inl 2] h_6 0 0 (fun x_9 h_10 => (¬ x_9 = 0 → bz_rc h_10 a0 12 (bz_cI G l d kX12_isWaiting [.inr (some a0), .inl x2] h_10 0 0 (fun x_11 h_12 => (¬ x_11 = 0 → bz_rc h_12 a0 12 (bz_cI G l d kX12_tripNow [.inr (some a0), .inl x1, .inl x2] h_12 0 0 (fun x_13 h_14 => (¬ x_13 = 0 → (¬ x3 = 0 → (¬ x3 = 1 → bz_rR h_14 a0 12 10 (fun r_15 => bz_nn r_15 (fun a_16 => bz_rA h_14 a_16 0 (fun x_17 => bz_rc h_14 a0 12 (bz_cI G l d kX12_lateBy [.inr (some a0), .inl x2, .inl x_17] h_14 0 0 (fun x_18 h_19 => F (some (.inl x_18)) h_19)))))) ∧ (x3 = 1 → bz_rR h_14 a0 12 10 (fun r_20 => bz_nn r_20 (fun a_21 => bz_rA h_14 a_21 0 (fun x_22 => F (some (.inl x_22)) h_14))))) ∧ (x3 = 0 → bz_rR h_14 a0 12 9 (fun r_23 => bz_nn r_23 (fun a_24 => bz_rA h_14 a_24 0 (fun x_25 => F (some (.inl x_25)) h_14))))) ∧ (x_13 = 0 → bz_rc h_14 a0 12 (bz_cI G l d kX12_finding [.inr (some a0), .inl 3] h_14 0 0 (fun x_26 h_27 => F (some (.inl x_26)) h_27)))))) ∧ (x_11 = 0 → bz_rc h_12 a0 12 (bz_cI G l d kX12_finding [.inr (some a0), .inl 4] h_12 0 0 (fun x_28 h_29 => F (some (.inl x_28)) h_29)))))) ∧ (x_9 = 0 → bz_rc h_10 a0 12 (bz_cI G l d kX12_finding [.inr (some a0), .inl 0] h_10 0 0 (fun x_30 h_31 => F (some (.inl x_30)) h_31))))))))))
set_option maxRecDepth 20000 in
set_option maxHeartbeats 4000000 in
theorem g_X12_trip_0 {G : bz_G} {κ : bz_K} {l : Launch} {d : Nat} {F : Option bz_V → bz_H → Prop} {bc bs : Nat} (hl : κ.2.1 = l) (a0 : Nat) (x1 : Int32) (x2 : Int32) (x3 : Int32) (h : bz_H) (hP0 : w_X12_trip_0 G l d F a0 x1 x2 x3 h) : bz_J G κ kX12_trip (d + 1) F bc bs 0 [some (.inr (some a0)), some (.inl x1), some (.inl x2), some (.inl x3)] [] h := by
  subst hl
  unfold w_X12_trip_0 at hP0
  refine bz_aload_n (pc := 0) dX12_trip_0 rfl rfl ?_
  refine bz_iload_n (pc := 1) dX12_trip_1 rfl rfl ?_
  refine bz_kIV (as := [.inl x1]) (st := []) (ci := 12) (n := 1) (mc := 0) (ms := 0) (bc := bc) (bs := bs) (yc := kX12_isRider) (q := (RX12, TX12, 34)) (b := a0) (pc := 2) dX12_trip_2 sc_X12_isRider ml_X12_139 im_X12_isRider se_X12_isRider rfl rfl rfl (Nat.le_of_ble_eq_true rfl) hP0 (fun x_1 h_2 hP1 => ?_)
  clear hP0
  refine bz_if_eq (tgt := 25) (pc := 5) dX12_trip_5 rfl (fun c => ?_) (fun c => ?_)
  · have hP2 := hP1.1 c
    clear hP1
    refine bz_aload_n (pc := 25) dX12_trip_25 rfl rfl ?_
    refine bz_iconst (pc := 26) dX12_trip_26 ci_0 ?_
    refine bz_kIV (as := [.inl 0]) (st := []) (ci := 12) (n := 1) (mc := 0) (ms := 0) (bc := bc) (bs := bs) (yc := kX12_finding) (q := (RX12, TX12, 34)) (b := a0) (pc := 27) dX12_trip_27 sc_X12_finding ml_X12_73 im_X12_finding se_X12_finding rfl rfl rfl (Nat.le_of_ble_eq_true rfl) hP2 (fun x_3 h_4 hP3 => ?_)
    clear hP2
    exact bz_retI (pc := 30) dX12_trip_30 rfl rfl hP3
  · have hP4 := hP1.2 c
    clear hP1
    refine bz_aload_n (pc := 8) dX12_trip_8 rfl rfl ?_
    refine bz_iload_n (pc := 9) dX12_trip_9 rfl rfl ?_
    refine bz_kIV (as := [.inl x2]) (st := []) (ci := 12) (n := 1) (mc := 0) (ms := 0) (bc := bc) (bs := bs) (yc := kX12_isOrder) (q := (RX12, TX12, 34)) (b := a0) (pc := 10) dX12_trip_10 sc_X12_isOrder ml_X12_117 im_X12_isOrder se_X12_isOrder rfl rfl rfl (Nat.le_of_ble_eq_true rfl) hP4 (fun x_5 h_6 hP5 => ?_)
    clear hP4
    refine bz_if_eq (tgt := 25) (pc := 13) dX12_trip_13 rfl (fun c => ?_) (fun c => ?_)
    · have hP6 := hP5.1 c
      clear hP5
      refine bz_aload_n (pc := 25) dX12_trip_25 rfl rfl ?_
      refine bz_iconst (pc := 26) dX12_trip_26 ci_0 ?_
      refine bz_kIV (as := [.inl 0]) (st := []) (ci := 12) (n := 1) (mc := 0) (ms := 0) (bc := bc) (bs := bs) (yc := kX12_finding) (q := (RX12, TX12, 34)) (b := a0) (pc := 27) dX12_trip_27 sc_X12_finding ml_X12_73 im_X12_finding se_X12_finding rfl rfl rfl (Nat.le_of_ble_eq_true rfl) hP6 (fun x_7 h_8 hP7 => ?_)
      clear hP6
      exact bz_retI (pc := 30) dX12_trip_30 rfl rfl hP7
    · have hP8 := hP5.2 c
      clear hP5
      refine bz_iload_n (pc := 16) dX12_trip_16 rfl rfl ?_
      refine bz_iconst (pc := 17) dX12_trip_17 ci_0 ?_
      refine bz_iconst (pc := 18) dX12_trip_18 ci_2 ?_
      refine bz_kIS (as := [.inl x3, .inl 0, .inl 2]) (st := []) (n := 3) (mc := 0) (ms := 0) (bc := bc) (bs := bs) (yc := kX12_in) (pc := 19) dX12_trip_19 sc_X12_in ml_X12_65 ss_X12_in rfl (Nat.le_of_ble_eq_true rfl) hP8 (fun x_9 h_10 hP9 => ?_)
      clear hP8
      refine bz_if_ne (tgt := 31) (pc := 22) dX12_trip_22 rfl (fun c => ?_) (fun c => ?_)
      · have hP10 := hP9.1 c
        clear hP9
        refine bz_aload_n (pc := 31) dX12_trip_31 rfl rfl ?_
        refine bz_iload_n (pc := 32) dX12_trip_32 rfl rfl ?_
        refine bz_kIV (as := [.inl x2]) (st := []) (ci := 12) (n := 1) (mc := 0) (ms := 0) (bc := bc) (bs := bs) (yc := kX12_isWaiting) (q := (RX12, TX12, 34)) (b := a0) (pc := 33) dX12_trip_33 sc_X12_isWaiting ml_X12_129 im_X12_isWaiting se_X12_isWaiting rfl rfl rfl (Nat.le_of_ble_eq_true rfl) hP10 (fun x_11 h_12 hP11 => ?_)
        clear hP10
        refine bz_if_ne (tgt := 45) (pc := 36) dX12_trip_36 rfl (fun c => ?_) (fun c => ?_)
        · have hP12 := hP11.1 c
          clear hP11
          refine bz_aload_n (pc := 45) dX12_trip_45 rfl rfl ?_
          refine bz_iload_n (pc := 46) dX12_trip_46 rfl rfl ?_
          refine bz_iload_n (pc := 47) dX12_trip_47 rfl rfl ?_
          refine bz_kIV (as := [.inl x1, .inl x2]) (st := []) (ci := 12) (n := 2) (mc := 0) (ms := 0) (bc := bc) (bs := bs) (yc := kX12_tripNow) (q := (RX12, TX12, 34)) (b := a0) (pc := 48) dX12_trip_48 sc_X12_tripNow ml_X12_194 im_X12_tripNow se_X12_tripNow rfl rfl rfl (Nat.le_of_ble_eq_true rfl) hP12 (fun x_13 h_14 hP13 => ?_)
          clear hP12
          refine bz_if_ne (tgt := 60) (pc := 51) dX12_trip_51 rfl (fun c => ?_) (fun c => ?_)
          · have hP14 := hP13.1 c
            clear hP13
            refine bz_iload_n (pc := 60) dX12_trip_60 rfl rfl ?_
            refine bz_if_ne (tgt := 73) (pc := 61) dX12_trip_61 rfl (fun c => ?_) (fun c => ?_)
            · have hP15 := hP14.1 c
              clear hP14
              refine bz_iload_n (pc := 73) dX12_trip_73 rfl rfl ?_
              refine bz_iconst (pc := 74) dX12_trip_74 ci_1 ?_
              refine bz_icmp_ne (tgt := 87) (pc := 75) dX12_trip_75 rfl (fun c => ?_) (fun c => ?_)
              · have hP16 := hP15.1 c
                clear hP15
                refine bz_aload_n (pc := 87) dX12_trip_87 rfl rfl ?_
                refine bz_iload_n (pc := 88) dX12_trip_88 rfl rfl ?_
                refine bz_aload_n (pc := 89) dX12_trip_89 rfl rfl ?_
                refine bz_rw_rR (pc := 90) dX12_trip_90 fl_X12_25 hP16 (fun r_15 hP17 => ?_)
                clear hP16
                refine bz_iconst (pc := 93) dX12_trip_93 ci_0 ?_
                obtain ⟨a_16, rfl, hP18⟩ := hP17
                refine bz_rw_rA (pc := 94) dX12_trip_94 hP18 (fun x_17 hP19 => ?_)
                clear hP18
                refine bz_kIV (as := [.inl x2, .inl x_17]) (st := []) (ci := 12) (n := 2) (mc := 0) (ms := 0) (bc := bc) (bs := bs) (yc := kX12_lateBy) (q := (RX12, TX12, 34)) (b := a0) (pc := 95) dX12_trip_95 sc_X12_lateBy ml_X12_102 im_X12_lateBy se_X12_lateBy rfl rfl rfl (Nat.le_of_ble_eq_true rfl) hP19 (fun x_18 h_19 hP20 => ?_)
                clear hP19
                exact bz_retI (pc := 98) dX12_trip_98 rfl rfl hP20
              · have hP21 := hP15.2 c
                clear hP15
                refine bz_aload_n (pc := 78) dX12_trip_78 rfl rfl ?_
                refine bz_rw_rR (pc := 79) dX12_trip_79 fl_X12_25 hP21 (fun r_20 hP22 => ?_)
                clear hP21
                refine bz_iconst (pc := 82) dX12_trip_82 ci_0 ?_
                obtain ⟨a_21, rfl, hP23⟩ := hP22
                refine bz_rw_rA (pc := 83) dX12_trip_83 hP23 (fun x_22 hP24 => ?_)
                clear hP23
                refine bz_goto (tgt := 98) (pc := 84) dX12_trip_84 rfl ?_
                exact bz_retI (pc := 98) dX12_trip_98 rfl rfl hP24
            · have hP25 := hP14.2 c
              clear hP14
              refine bz_aload_n (pc := 64) dX12_trip_64 rfl rfl ?_
              refine bz_rw_rR (pc := 65) dX12_trip_65 fl_X12_22 hP25 (fun r_23 hP26 => ?_)
              clear hP25
              refine bz_iconst (pc := 68) dX12_trip_68 ci_0 ?_
              obtain ⟨a_24, rfl, hP27⟩ := hP26
              refine bz_rw_rA (pc := 69) dX12_trip_69 hP27 (fun x_25 hP28 => ?_)
              clear hP27
              refine bz_goto (tgt := 98) (pc := 70) dX12_trip_70 rfl ?_
              exact bz_retI (pc := 98) dX12_trip_98 rfl rfl hP28
          · have hP29 := hP13.2 c
            clear hP13
            refine bz_aload_n (pc := 54) dX12_trip_54 rfl rfl ?_
            refine bz_iconst (pc := 55) dX12_trip_55 ci_3 ?_
            refine bz_kIV (as := [.inl 3]) (st := []) (ci := 12) (n := 1) (mc := 0) (ms := 0) (bc := bc) (bs := bs) (yc := kX12_finding) (q := (RX12, TX12, 34)) (b := a0) (pc := 56) dX12_trip_56 sc_X12_finding ml_X12_73 im_X12_finding se_X12_finding rfl rfl rfl (Nat.le_of_ble_eq_true rfl) hP29 (fun x_26 h_27 hP30 => ?_)
            clear hP29
            exact bz_retI (pc := 59) dX12_trip_59 rfl rfl hP30
        · have hP31 := hP11.2 c
          clear hP11
          refine bz_aload_n (pc := 39) dX12_trip_39 rfl rfl ?_
          refine bz_iconst (pc := 40) dX12_trip_40 ci_4 ?_
          refine bz_kIV (as := [.inl 4]) (st := []) (ci := 12) (n := 1) (mc := 0) (ms := 0) (bc := bc) (bs := bs) (yc := kX12_finding) (q := (RX12, TX12, 34)) (b := a0) (pc := 41) dX12_trip_41 sc_X12_finding ml_X12_73 im_X12_finding se_X12_finding rfl rfl rfl (Nat.le_of_ble_eq_true rfl) hP31 (fun x_28 h_29 hP32 => ?_)
          clear hP31
          exact bz_retI (pc := 44) dX12_trip_44 rfl rfl hP32
      · have hP33 := hP9.2 c
        clear hP9
        refine bz_aload_n (pc := 25) dX12_trip_25 rfl rfl ?_
        refine bz_iconst (pc := 26) dX12_trip_26 ci_0 ?_
        refine bz_kIV (as := [.inl 0]) (st := []) (ci := 12) (n := 1) (mc := 0) (ms := 0) (bc := bc) (bs := bs) (yc := kX12_finding) (q := (RX12, TX12, 34)) (b := a0) (pc := 27) dX12_trip_27 sc_X12_finding ml_X12_73 im_X12_finding se_X12_finding rfl rfl rfl (Nat.le_of_ble_eq_true rfl) hP33 (fun x_30 h_31 hP34 => ?_)
        clear hP33
        exact bz_retI (pc := 30) dX12_trip_30 rfl rfl hP34
theorem m_X12_trip {G : bz_G} {l : Launch} {d mc ms : Nat} {F : Option bz_V → bz_H → Prop} (a0 : Nat) (x1 : Int32) (x2 : Int32) (x3 : Int32) (h : bz_H) (hP : w_X12_trip_0 G l d F a0 x1 x2 x3 h) : bz_Call G l (d + 1) kX12_trip [.inr (some a0), .inl x1, .inl x2, .inl x3] h mc ms F :=
  bz_body (by decide) (Nat.le_of_ble_eq_true rfl) (fun κ hl => g_X12_trip_0 hl a0 x1 x2 x3 h hP)
def w_X12_undo_0 (G : bz_G) (κ : bz_K) (l : Launch) (d : Nat) (F : Option bz_V → bz_H → Prop) (bc bs : Nat) (a0 : Nat) (h : bz_H) : Prop := bz_rI h a0 12 2 (fun x_1 => (¬ x_1 = 0 → bz_J G κ kX12_undo (d + 1) F bc bs 15 [some (.inr (some a0)), some (.inl 0)] [] h) ∧ (x_1 = 0 → bz_rc h a0 12 (bz_cI G l d kX12_finding [.inr (some a0), .inl 3] h 0 0 (fun x_2 h_3 => F (some (.inl x_2)) h_3))))
set_option maxRecDepth 20000 in
set_option maxHeartbeats 4000000 in
theorem g_X12_undo_0 {G : bz_G} {κ : bz_K} {l : Launch} {d : Nat} {F : Option bz_V → bz_H → Prop} {bc bs : Nat} (hl : κ.2.1 = l) (a0 : Nat) (h : bz_H) (hP0 : w_X12_undo_0 G κ l d F bc bs a0 h) : bz_J G κ kX12_undo (d + 1) F bc bs 0 [some (.inr (some a0)), none] [] h := by
  subst hl
  unfold w_X12_undo_0 at hP0
  refine bz_aload_n (pc := 0) dX12_undo_0 rfl rfl ?_
  refine bz_rw_rI (pc := 1) dX12_undo_1 fl_X12_344 hP0 (fun x_1 hP1 => ?_)
  clear hP0
  refine bz_if_ne (tgt := 13) (pc := 4) dX12_undo_4 rfl (fun c => ?_) (fun c => ?_)
  · have hP2 := hP1.1 c
    clear hP1
    refine bz_iconst (pc := 13) dX12_undo_13 ci_0 ?_
    refine bz_s_istore_n (pc := 14) dX12_undo_14 rfl (Nat.le_of_ble_eq_true rfl) [some (.inr (some a0)), some (.inl 0)] rfl ?_
    exact hP2
  · have hP3 := hP1.2 c
    clear hP1
    refine bz_aload_n (pc := 7) dX12_undo_7 rfl rfl ?_
    refine bz_iconst (pc := 8) dX12_undo_8 ci_3 ?_
    refine bz_kIV (as := [.inl 3]) (st := []) (ci := 12) (n := 1) (mc := 0) (ms := 0) (bc := bc) (bs := bs) (yc := kX12_finding) (q := (RX12, TX12, 34)) (b := a0) (pc := 9) dX12_undo_9 sc_X12_finding ml_X12_73 im_X12_finding se_X12_finding rfl rfl rfl (Nat.le_of_ble_eq_true rfl) hP3 (fun x_2 h_3 hP4 => ?_)
    clear hP3
    exact bz_retI (pc := 12) dX12_undo_12 rfl rfl hP4
def w_X12_undo_15 (G : bz_G) (κ : bz_K) (l : Launch) (d : Nat) (F : Option bz_V → bz_H → Prop) (bc bs : Nat) (a0 : Nat) (x1 : Int32) (h : bz_H) : Prop := (2296 ≤ x1 → bz_b 0 (bz_wI h a0 12 5 0 (fun h_4 => bz_rR h_4 a0 12 0 (fun r_5 => bz_nn r_5 (fun a_6 => bz_rA h_4 a_6 0 (fun x_7 => F (some (.inl x_7)) h_4)))))) ∧ (¬ (2296 ≤ x1) → bz_rR h a0 12 0 (fun r_8 => bz_rR h a0 12 1 (fun r_9 => bz_nn r_9 (fun a_10 => bz_rA h a_10 x1 (fun x_11 => bz_nn r_8 (fun a_12 => bz_wA h a_12 x1 x_11 (fun h_13 => bz_J G κ kX12_undo (d + 1) F bc bs 15 [some (.inr (some a0)), some (.inl (x1 + 1))] [] h_13)))))))
set_option maxRecDepth 20000 in
set_option maxHeartbeats 4000000 in
theorem g_X12_undo_15 {G : bz_G} {κ : bz_K} {l : Launch} {d : Nat} {F : Option bz_V → bz_H → Prop} {bc bs : Nat} (hl : κ.2.1 = l) (a0 : Nat) (x1 : Int32) (h : bz_H) (hP0 : w_X12_undo_15 G κ l d F bc bs a0 x1 h) : bz_J G κ kX12_undo (d + 1) F bc bs 15 [some (.inr (some a0)), some (.inl x1)] [] h := by
  subst hl
  unfold w_X12_undo_15 at hP0
  refine bz_iload_n (pc := 15) dX12_undo_15 rfl rfl ?_
  refine bz_sipush (pc := 16) dX12_undo_16 cs_2296 ?_
  refine bz_icmp_ge (tgt := 40) (pc := 19) dX12_undo_19 rfl (fun c => ?_) (fun c => ?_)
  · have hP1 := hP0.1 c
    clear hP0
    refine bz_aload_n (pc := 40) dX12_undo_40 rfl rfl ?_
    refine bz_iconst (pc := 41) dX12_undo_41 ci_0 ?_
    refine bz_rw_wZ (pc := 42) dX12_undo_42 fl_X12_77 (fun q h9 => by cases h9; rfl) rfl hP1 (fun h_4 hP2 => ?_)
    clear hP1
    refine bz_aload_n (pc := 45) dX12_undo_45 rfl rfl ?_
    refine bz_rw_rR (pc := 46) dX12_undo_46 fl_X12_7 hP2 (fun r_5 hP3 => ?_)
    clear hP2
    refine bz_iconst (pc := 49) dX12_undo_49 ci_0 ?_
    obtain ⟨a_6, rfl, hP4⟩ := hP3
    refine bz_rw_rA (pc := 50) dX12_undo_50 hP4 (fun x_7 hP5 => ?_)
    clear hP4
    exact bz_retI (pc := 51) dX12_undo_51 rfl rfl hP5
  · have hP6 := hP0.2 c
    clear hP0
    refine bz_aload_n (pc := 22) dX12_undo_22 rfl rfl ?_
    refine bz_rw_rR (pc := 23) dX12_undo_23 fl_X12_7 hP6 (fun r_8 hP7 => ?_)
    clear hP6
    refine bz_iload_n (pc := 26) dX12_undo_26 rfl rfl ?_
    refine bz_aload_n (pc := 27) dX12_undo_27 rfl rfl ?_
    refine bz_rw_rR (pc := 28) dX12_undo_28 fl_X12_13 hP7 (fun r_9 hP8 => ?_)
    clear hP7
    refine bz_iload_n (pc := 31) dX12_undo_31 rfl rfl ?_
    obtain ⟨a_10, rfl, hP9⟩ := hP8
    refine bz_rw_rA (pc := 32) dX12_undo_32 hP9 (fun x_11 hP10 => ?_)
    clear hP9
    obtain ⟨a_12, rfl, hP11⟩ := hP10
    refine bz_rw_wA (pc := 33) dX12_undo_33 hP11 (fun h_13 hP12 => ?_)
    clear hP11
    refine bz_s_iinc (pc := 34) dX12_undo_34 (Nat.le_of_ble_eq_true rfl) rfl rfl [some (.inr (some a0)), some (.inl (x1 + 1))] rfl ?_
    refine bz_goto (tgt := 15) (pc := 37) dX12_undo_37 rfl ?_
    exact hP12
theorem m_X12_undo {G : bz_G} {l : Launch} {d mc ms : Nat} {F : Option bz_V → bz_H → Prop} (a0 : Nat) (h : bz_H) (hP : ∀ (κ : bz_K) (bc bs : Nat), κ.2.1 = l → w_X12_undo_0 G κ l d F bc bs a0 h) : bz_Call G l (d + 1) kX12_undo [.inr (some a0)] h mc ms F :=
  bz_body (by decide) (Nat.le_of_ble_eq_true rfl) (fun κ hl => g_X12_undo_0 hl a0 h (hP κ mc ms hl))
def w_X12_wayOf_0 (G : bz_G) (l : Launch) (d : Nat) (F : Option bz_V → bz_H → Prop) (a0 : Nat) (x1 : Int32) (x2 : Int32) (h : bz_H) : Prop := bz_rI h a0 12 5 (fun x_1 => (¬ x_1 = 0 → bz_rR h a0 12 4 (fun r_2 => bz_nn r_2 (fun a_3 => bz_rA h a_3 ((16 * x1) + x2) (fun x_4 => F (some (.inl (if 1000000 ≤ x_4 then (-1) else x_4))) h)))) ∧ (x_1 = 0 → bz_rc h a0 12 (bz_cV G l d kX12_findWays [.inr (some a0)] h 0 0 (fun h_6 => bz_rR h_6 a0 12 4 (fun r_7 => bz_nn r_7 (fun a_8 => bz_rA h_6 a_8 ((16 * x1) + x2) (fun x_9 => F (some (.inl (if 1000000 ≤ x_9 then (-1) else x_9))) h_6)))))))
set_option maxRecDepth 20000 in
set_option maxHeartbeats 4000000 in
theorem g_X12_wayOf_0 {G : bz_G} {κ : bz_K} {l : Launch} {d : Nat} {F : Option bz_V → bz_H → Prop} {bc bs : Nat} (hl : κ.2.1 = l) (a0 : Nat) (x1 : Int32) (x2 : Int32) (h : bz_H) (hP0 : w_X12_wayOf_0 G l d F a0 x1 x2 h) : bz_J G κ kX12_wayOf (d + 1) F bc bs 0 [some (.inr (some a0)), some (.inl x1), some (.inl x2), none] [] h := by
  subst hl
  unfold w_X12_wayOf_0 at hP0
  refine bz_aload_n (pc := 0) dX12_wayOf_0 rfl rfl ?_
  refine bz_rw_rI (pc := 1) dX12_wayOf_1 fl_X12_77 hP0 (fun x_1 hP1 => ?_)
  clear hP0
  refine bz_if_ne (tgt := 11) (pc := 4) dX12_wayOf_4 rfl (fun c => ?_) (fun c => ?_)
  · have hP2 := hP1.1 c
    clear hP1
    refine bz_aload_n (pc := 11) dX12_wayOf_11 rfl rfl ?_
    refine bz_rw_rR (pc := 12) dX12_wayOf_12 fl_X12_19 hP2 (fun r_2 hP3 => ?_)
    clear hP2
    refine bz_bipush (pc := 15) dX12_wayOf_15 cb_16 ?_
    refine bz_iload_n (pc := 17) dX12_wayOf_17 rfl rfl ?_
    refine bz_imul (pc := 18) dX12_wayOf_18 ?_
    refine bz_iload_n (pc := 19) dX12_wayOf_19 rfl rfl ?_
    refine bz_iadd (pc := 20) dX12_wayOf_20 ?_
    obtain ⟨a_3, rfl, hP4⟩ := hP3
    refine bz_rw_rA (pc := 21) dX12_wayOf_21 hP4 (fun x_4 hP5 => ?_)
    clear hP4
    refine bz_s_istore_n (pc := 22) dX12_wayOf_22 rfl (Nat.le_of_ble_eq_true rfl) [some (.inr (some a0)), some (.inl x1), some (.inl x2), some (.inl x_4)] rfl ?_
    refine bz_iload_n (pc := 23) dX12_wayOf_23 rfl rfl ?_
    refine bz_ldc (pc := 24) dX12_wayOf_24 ct_X12_92 ?_
    have hJ : bz_J G κ kX12_wayOf (d + 1) F bc bs 34 [some (.inr (some a0)), some (.inl x1), some (.inl x2), some (.inl x_4)] [.inl (if 1000000 ≤ x_4 then (-1) else x_4)] h := by
      exact bz_retI (pc := 34) dX12_wayOf_34 rfl rfl hP5
    refine bz_icmp_ge (tgt := 33) (pc := 26) dX12_wayOf_26 rfl (fun c => ?_) (fun c => ?_)
    · have e9 : ((if 1000000 ≤ x_4 then (-1) else x_4) : Int32) = ((-1)) := if_pos c
      rw [e9] at hJ
      refine bz_iconst (pc := 33) dX12_wayOf_33 ci_m1 ?_
      exact hJ
    · have e9 : ((if 1000000 ≤ x_4 then (-1) else x_4) : Int32) = (x_4) := if_neg c
      rw [e9] at hJ
      refine bz_iload_n (pc := 29) dX12_wayOf_29 rfl rfl ?_
      refine bz_goto (tgt := 34) (pc := 30) dX12_wayOf_30 rfl ?_
      exact hJ
  · have hP6 := hP1.2 c
    clear hP1
    refine bz_aload_n (pc := 7) dX12_wayOf_7 rfl rfl ?_
    refine bz_kVV (as := []) (st := []) (ci := 12) (n := 0) (mc := 0) (ms := 0) (bc := bc) (bs := bs) (yc := kX12_findWays) (q := (RX12, TX12, 34)) (b := a0) (pc := 8) dX12_wayOf_8 sc_X12_findWays ml_X12_93 im_X12_findWays se_X12_findWays rfl rfl rfl (Nat.le_of_ble_eq_true rfl) hP6 (fun h_6 hP7 => ?_)
    clear hP6
    refine bz_aload_n (pc := 11) dX12_wayOf_11 rfl rfl ?_
    refine bz_rw_rR (pc := 12) dX12_wayOf_12 fl_X12_19 hP7 (fun r_7 hP8 => ?_)
    clear hP7
    refine bz_bipush (pc := 15) dX12_wayOf_15 cb_16 ?_
    refine bz_iload_n (pc := 17) dX12_wayOf_17 rfl rfl ?_
    refine bz_imul (pc := 18) dX12_wayOf_18 ?_
    refine bz_iload_n (pc := 19) dX12_wayOf_19 rfl rfl ?_
    refine bz_iadd (pc := 20) dX12_wayOf_20 ?_
    obtain ⟨a_8, rfl, hP9⟩ := hP8
    refine bz_rw_rA (pc := 21) dX12_wayOf_21 hP9 (fun x_9 hP10 => ?_)
    clear hP9
    refine bz_s_istore_n (pc := 22) dX12_wayOf_22 rfl (Nat.le_of_ble_eq_true rfl) [some (.inr (some a0)), some (.inl x1), some (.inl x2), some (.inl x_9)] rfl ?_
    refine bz_iload_n (pc := 23) dX12_wayOf_23 rfl rfl ?_
    refine bz_ldc (pc := 24) dX12_wayOf_24 ct_X12_92 ?_
    have hJ : bz_J G κ kX12_wayOf (d + 1) F bc bs 34 [some (.inr (some a0)), some (.inl x1), some (.inl x2), some (.inl x_9)] [.inl (if 1000000 ≤ x_9 then (-1) else x_9)] h_6 := by
      exact bz_retI (pc := 34) dX12_wayOf_34 rfl rfl hP10
    refine bz_icmp_ge (tgt := 33) (pc := 26) dX12_wayOf_26 rfl (fun c => ?_) (fun c => ?_)
    · have e9 : ((if 1000000 ≤ x_9 then (-1) else x_9) : Int32) = ((-1)) := if_pos c
      rw [e9] at hJ
      refine bz_iconst (pc := 33) dX12_wayOf_33 ci_m1 ?_
      exact hJ
    · have e9 : ((if 1000000 ≤ x_9 then (-1) else x_9) : Int32) = (x_9) := if_neg c
      rw [e9] at hJ
      refine bz_iload_n (pc := 29) dX12_wayOf_29 rfl rfl ?_
      refine bz_goto (tgt := 34) (pc := 30) dX12_wayOf_30 rfl ?_
      exact hJ
theorem m_X12_wayOf {G : bz_G} {l : Launch} {d mc ms : Nat} {F : Option bz_V → bz_H → Prop} (a0 : Nat) (x1 : Int32) (x2 : Int32) (h : bz_H) (hP : w_X12_wayOf_0 G l d F a0 x1 x2 h) : bz_Call G l (d + 1) kX12_wayOf [.inr (some a0), .inl x1, .inl x2] h mc ms F :=
  bz_body (by decide) (Nat.le_of_ble_eq_true rfl) (fun κ hl => g_X12_wayOf_0 hl a0 x1 x2 h hP)
def w_X12_way_0 (G : bz_G) (l : Launch) (d : Nat) (F : Option bz_V → bz_H → Prop) (a0 : Nat) (x1 : Int32) (x2 : Int32) (h : bz_H) : Prop := bz_cI G l d kX12_isCrossing [.inl x1] h 0 0 (fun x_1 h_2 => (x_1 = 0 → bz_rc h_2 a0 12 (bz_cI G l d kX12_finding [.inr (some a0), .inl 0] h_2 0 0 (fun x_3 h_4 => F (some (.inl x_3)) h_4))) ∧ (¬ (x_1 = 0) → bz_cI G l d kX12_isCrossing [.inl x2] h_2 0 0 (fun x_5 h_6 => (¬ x_5 = 0 → bz_rc h_6 a0 12 (bz_cI G l d kX12_wayOf [.inr (some a0), .inl x1, .inl x2] h_6 0 0 (fun x_7 h_8 => (0 ≤ x_7 → F (some (.inl x_7)) h_8) ∧ (¬ (0 ≤ x_7) → bz_rc h_8 a0 12 (bz_cI G l d kX12_finding [.inr (some a0), .inl 3] h_8 0 0 (fun x_9 h_10 => F (some (.inl x_9)) h_10)))))) ∧ (x_5 = 0 → bz_rc h_6 a0 12 (bz_cI G l d kX12_finding [.inr (some a0), .inl 0] h_6 0 0 (fun x_11 h_12 => F (some (.inl x_11)) h_12))))))
set_option maxRecDepth 20000 in
set_option maxHeartbeats 4000000 in
theorem g_X12_way_0 {G : bz_G} {κ : bz_K} {l : Launch} {d : Nat} {F : Option bz_V → bz_H → Prop} {bc bs : Nat} (hl : κ.2.1 = l) (a0 : Nat) (x1 : Int32) (x2 : Int32) (h : bz_H) (hP0 : w_X12_way_0 G l d F a0 x1 x2 h) : bz_J G κ kX12_way (d + 1) F bc bs 0 [some (.inr (some a0)), some (.inl x1), some (.inl x2), none] [] h := by
  subst hl
  unfold w_X12_way_0 at hP0
  refine bz_iload_n (pc := 0) dX12_way_0 rfl rfl ?_
  refine bz_kIS (as := [.inl x1]) (st := []) (n := 1) (mc := 0) (ms := 0) (bc := bc) (bs := bs) (yc := kX12_isCrossing) (pc := 1) dX12_way_1 sc_X12_isCrossing ml_X12_69 ss_X12_isCrossing rfl (Nat.le_of_ble_eq_true rfl) hP0 (fun x_1 h_2 hP1 => ?_)
  clear hP0
  refine bz_if_eq (tgt := 14) (pc := 4) dX12_way_4 rfl (fun c => ?_) (fun c => ?_)
  · have hP2 := hP1.1 c
    clear hP1
    refine bz_aload_n (pc := 14) dX12_way_14 rfl rfl ?_
    refine bz_iconst (pc := 15) dX12_way_15 ci_0 ?_
    refine bz_kIV (as := [.inl 0]) (st := []) (ci := 12) (n := 1) (mc := 0) (ms := 0) (bc := bc) (bs := bs) (yc := kX12_finding) (q := (RX12, TX12, 34)) (b := a0) (pc := 16) dX12_way_16 sc_X12_finding ml_X12_73 im_X12_finding se_X12_finding rfl rfl rfl (Nat.le_of_ble_eq_true rfl) hP2 (fun x_3 h_4 hP3 => ?_)
    clear hP2
    exact bz_retI (pc := 19) dX12_way_19 rfl rfl hP3
  · have hP4 := hP1.2 c
    clear hP1
    refine bz_iload_n (pc := 7) dX12_way_7 rfl rfl ?_
    refine bz_kIS (as := [.inl x2]) (st := []) (n := 1) (mc := 0) (ms := 0) (bc := bc) (bs := bs) (yc := kX12_isCrossing) (pc := 8) dX12_way_8 sc_X12_isCrossing ml_X12_69 ss_X12_isCrossing rfl (Nat.le_of_ble_eq_true rfl) hP4 (fun x_5 h_6 hP5 => ?_)
    clear hP4
    refine bz_if_ne (tgt := 20) (pc := 11) dX12_way_11 rfl (fun c => ?_) (fun c => ?_)
    · have hP6 := hP5.1 c
      clear hP5
      refine bz_aload_n (pc := 20) dX12_way_20 rfl rfl ?_
      refine bz_iload_n (pc := 21) dX12_way_21 rfl rfl ?_
      refine bz_iload_n (pc := 22) dX12_way_22 rfl rfl ?_
      refine bz_kIV (as := [.inl x1, .inl x2]) (st := []) (ci := 12) (n := 2) (mc := 0) (ms := 0) (bc := bc) (bs := bs) (yc := kX12_wayOf) (q := (RX12, TX12, 34)) (b := a0) (pc := 23) dX12_way_23 sc_X12_wayOf ml_X12_96 im_X12_wayOf se_X12_wayOf rfl rfl rfl (Nat.le_of_ble_eq_true rfl) hP6 (fun x_7 h_8 hP7 => ?_)
      clear hP6
      refine bz_s_istore_n (pc := 26) dX12_way_26 rfl (Nat.le_of_ble_eq_true rfl) [some (.inr (some a0)), some (.inl x1), some (.inl x2), some (.inl x_7)] rfl ?_
      refine bz_iload_n (pc := 27) dX12_way_27 rfl rfl ?_
      refine bz_if_ge (tgt := 39) (pc := 28) dX12_way_28 rfl (fun c => ?_) (fun c => ?_)
      · have hP8 := hP7.1 c
        clear hP7
        refine bz_iload_n (pc := 39) dX12_way_39 rfl rfl ?_
        exact bz_retI (pc := 40) dX12_way_40 rfl rfl hP8
      · have hP9 := hP7.2 c
        clear hP7
        refine bz_aload_n (pc := 31) dX12_way_31 rfl rfl ?_
        refine bz_iconst (pc := 32) dX12_way_32 ci_3 ?_
        refine bz_kIV (as := [.inl 3]) (st := []) (ci := 12) (n := 1) (mc := 0) (ms := 0) (bc := bc) (bs := bs) (yc := kX12_finding) (q := (RX12, TX12, 34)) (b := a0) (pc := 33) dX12_way_33 sc_X12_finding ml_X12_73 im_X12_finding se_X12_finding rfl rfl rfl (Nat.le_of_ble_eq_true rfl) hP9 (fun x_9 h_10 hP10 => ?_)
        clear hP9
        refine bz_goto (tgt := 40) (pc := 36) dX12_way_36 rfl ?_
        exact bz_retI (pc := 40) dX12_way_40 rfl rfl hP10
    · have hP11 := hP5.2 c
      clear hP5
      refine bz_aload_n (pc := 14) dX12_way_14 rfl rfl ?_
      refine bz_iconst (pc := 15) dX12_way_15 ci_0 ?_
      refine bz_kIV (as := [.inl 0]) (st := []) (ci := 12) (n := 1) (mc := 0) (ms := 0) (bc := bc) (bs := bs) (yc := kX12_finding) (q := (RX12, TX12, 34)) (b := a0) (pc := 16) dX12_way_16 sc_X12_finding ml_X12_73 im_X12_finding se_X12_finding rfl rfl rfl (Nat.le_of_ble_eq_true rfl) hP11 (fun x_11 h_12 hP12 => ?_)
      clear hP11
      exact bz_retI (pc := 19) dX12_way_19 rfl rfl hP12
theorem m_X12_way {G : bz_G} {l : Launch} {d mc ms : Nat} {F : Option bz_V → bz_H → Prop} (a0 : Nat) (x1 : Int32) (x2 : Int32) (h : bz_H) (hP : w_X12_way_0 G l d F a0 x1 x2 h) : bz_Call G l (d + 1) kX12_way [.inr (some a0), .inl x1, .inl x2] h mc ms F :=
  bz_body (by decide) (Nat.le_of_ble_eq_true rfl) (fun κ hl => g_X12_way_0 hl a0 x1 x2 h hP)
def w_X12_whole_0 (G : bz_G) (l : Launch) (d : Nat) (F : Option bz_V → bz_H → Prop) (a0 : Nat) (h : bz_H) : Prop := bz_rc h a0 12 (bz_cI G l d kX12_sum [.inr (some a0)] h 0 0 (fun x_1 h_2 => (¬ x_1 = 0 → bz_rc h_2 a0 12 (bz_cI G l d kX12_isSign [.inr (some a0), .inl 60] h_2 0 0 (fun x_3 h_4 => (¬ x_3 = 0 → bz_rI h_4 a0 12 18 (fun x_5 => bz_rc h_4 a0 12 (bz_cV G l d kX12_next [.inr (some a0)] h_4 0 0 (fun h_7 => bz_rc h_7 a0 12 (bz_cI G l d kX12_sum [.inr (some a0)] h_7 0 0 (fun x_8 h_9 => (¬ x_8 = 0 → bz_rc h_9 a0 12 (bz_cV G l d kX12_lays [.inr (some a0), .inl 3, .inl x_5] h_9 0 0 (fun h_11 => F (some (.inl 1)) h_11))) ∧ (x_8 = 0 → F (some (.inl 0)) h_9))))))) ∧ (x_3 = 0 → bz_rc h_4 a0 12 (bz_cI G l d kX12_isSign [.inr (some a0), .inl 61] h_4 0 0 (fun x_12 h_13 => (x_12 = 0 → F (some (.inl 1)) h_13) ∧ (¬ (x_12 = 0) → bz_rI h_13 a0 12 18 (fun x_14 => bz_rc h_13 a0 12 (bz_cV G l d kX12_next [.inr (some a0)] h_13 0 0 (fun h_16 => bz_rc h_16 a0 12 (bz_cI G l d kX12_sum [.inr (some a0)] h_16 0 0 (fun x_17 h_18 => (¬ x_17 = 0 → bz_rc h_18 a0 12 (bz_cV G l d kX12_lays [.inr (some a0), .inl 3, .inl x_14] h_18 0 0 (fun h_20 => F (some (.inl 1)) h_20))) ∧ (x_17 = 0 → F (some (.inl 0)) h_18))))))))))))) ∧ (x_1 = 0 → F (some (.inl 0)) h_2)))
set_option maxRecDepth 20000 in
set_option maxHeartbeats 4000000 in
theorem g_X12_whole_0 {G : bz_G} {κ : bz_K} {l : Launch} {d : Nat} {F : Option bz_V → bz_H → Prop} {bc bs : Nat} (hl : κ.2.1 = l) (a0 : Nat) (h : bz_H) (hP0 : w_X12_whole_0 G l d F a0 h) : bz_J G κ kX12_whole (d + 1) F bc bs 0 [some (.inr (some a0)), none] [] h := by
  subst hl
  unfold w_X12_whole_0 at hP0
  refine bz_aload_n (pc := 0) dX12_whole_0 rfl rfl ?_
  refine bz_kIV (as := []) (st := []) (ci := 12) (n := 0) (mc := 0) (ms := 0) (bc := bc) (bs := bs) (yc := kX12_sum) (q := (RX12, TX12, 34)) (b := a0) (pc := 1) dX12_whole_1 sc_X12_sum ml_X12_268 im_X12_sum se_X12_sum rfl rfl rfl (Nat.le_of_ble_eq_true rfl) hP0 (fun x_1 h_2 hP1 => ?_)
  clear hP0
  refine bz_if_ne (tgt := 9) (pc := 4) dX12_whole_4 rfl (fun c => ?_) (fun c => ?_)
  · have hP2 := hP1.1 c
    clear hP1
    refine bz_aload_n (pc := 9) dX12_whole_9 rfl rfl ?_
    refine bz_bipush (pc := 10) dX12_whole_10 cb_60 ?_
    refine bz_kIV (as := [.inl 60]) (st := []) (ci := 12) (n := 1) (mc := 0) (ms := 0) (bc := bc) (bs := bs) (yc := kX12_isSign) (q := (RX12, TX12, 34)) (b := a0) (pc := 12) dX12_whole_12 sc_X12_isSign ml_X12_272 im_X12_isSign se_X12_isSign rfl rfl rfl (Nat.le_of_ble_eq_true rfl) hP2 (fun x_3 h_4 hP3 => ?_)
    clear hP2
    refine bz_if_ne (tgt := 27) (pc := 15) dX12_whole_15 rfl (fun c => ?_) (fun c => ?_)
    · have hP4 := hP3.1 c
      clear hP3
      refine bz_aload_n (pc := 27) dX12_whole_27 rfl rfl ?_
      refine bz_rw_rI (pc := 28) dX12_whole_28 fl_X12_247 hP4 (fun x_5 hP5 => ?_)
      clear hP4
      refine bz_s_istore_n (pc := 31) dX12_whole_31 rfl (Nat.le_of_ble_eq_true rfl) [some (.inr (some a0)), some (.inl x_5)] rfl ?_
      refine bz_aload_n (pc := 32) dX12_whole_32 rfl rfl ?_
      refine bz_kVV (as := []) (st := []) (ci := 12) (n := 0) (mc := 0) (ms := 0) (bc := bc) (bs := bs) (yc := kX12_next) (q := (RX12, TX12, 34)) (b := a0) (pc := 33) dX12_whole_33 sc_X12_next ml_X12_265 im_X12_next se_X12_next rfl rfl rfl (Nat.le_of_ble_eq_true rfl) hP5 (fun h_7 hP6 => ?_)
      clear hP5
      refine bz_aload_n (pc := 36) dX12_whole_36 rfl rfl ?_
      refine bz_kIV (as := []) (st := []) (ci := 12) (n := 0) (mc := 0) (ms := 0) (bc := bc) (bs := bs) (yc := kX12_sum) (q := (RX12, TX12, 34)) (b := a0) (pc := 37) dX12_whole_37 sc_X12_sum ml_X12_268 im_X12_sum se_X12_sum rfl rfl rfl (Nat.le_of_ble_eq_true rfl) hP6 (fun x_8 h_9 hP7 => ?_)
      clear hP6
      refine bz_if_ne (tgt := 45) (pc := 40) dX12_whole_40 rfl (fun c => ?_) (fun c => ?_)
      · have hP8 := hP7.1 c
        clear hP7
        refine bz_aload_n (pc := 45) dX12_whole_45 rfl rfl ?_
        refine bz_iconst (pc := 46) dX12_whole_46 ci_3 ?_
        refine bz_iload_n (pc := 47) dX12_whole_47 rfl rfl ?_
        refine bz_kVV (as := [.inl 3, .inl x_5]) (st := []) (ci := 12) (n := 2) (mc := 0) (ms := 0) (bc := bc) (bs := bs) (yc := kX12_lays) (q := (RX12, TX12, 34)) (b := a0) (pc := 48) dX12_whole_48 sc_X12_lays ml_X12_275 im_X12_lays se_X12_lays rfl rfl rfl (Nat.le_of_ble_eq_true rfl) hP8 (fun h_11 hP9 => ?_)
        clear hP8
        refine bz_iconst (pc := 51) dX12_whole_51 ci_1 ?_
        exact bz_retI (pc := 52) dX12_whole_52 rfl rfl hP9
      · have hP10 := hP7.2 c
        clear hP7
        refine bz_iconst (pc := 43) dX12_whole_43 ci_0 ?_
        exact bz_retI (pc := 44) dX12_whole_44 rfl rfl hP10
    · have hP11 := hP3.2 c
      clear hP3
      refine bz_aload_n (pc := 18) dX12_whole_18 rfl rfl ?_
      refine bz_bipush (pc := 19) dX12_whole_19 cb_61 ?_
      refine bz_kIV (as := [.inl 61]) (st := []) (ci := 12) (n := 1) (mc := 0) (ms := 0) (bc := bc) (bs := bs) (yc := kX12_isSign) (q := (RX12, TX12, 34)) (b := a0) (pc := 21) dX12_whole_21 sc_X12_isSign ml_X12_272 im_X12_isSign se_X12_isSign rfl rfl rfl (Nat.le_of_ble_eq_true rfl) hP11 (fun x_12 h_13 hP12 => ?_)
      clear hP11
      refine bz_if_eq (tgt := 51) (pc := 24) dX12_whole_24 rfl (fun c => ?_) (fun c => ?_)
      · have hP13 := hP12.1 c
        clear hP12
        refine bz_iconst (pc := 51) dX12_whole_51 ci_1 ?_
        exact bz_retI (pc := 52) dX12_whole_52 rfl rfl hP13
      · have hP14 := hP12.2 c
        clear hP12
        refine bz_aload_n (pc := 27) dX12_whole_27 rfl rfl ?_
        refine bz_rw_rI (pc := 28) dX12_whole_28 fl_X12_247 hP14 (fun x_14 hP15 => ?_)
        clear hP14
        refine bz_s_istore_n (pc := 31) dX12_whole_31 rfl (Nat.le_of_ble_eq_true rfl) [some (.inr (some a0)), some (.inl x_14)] rfl ?_
        refine bz_aload_n (pc := 32) dX12_whole_32 rfl rfl ?_
        refine bz_kVV (as := []) (st := []) (ci := 12) (n := 0) (mc := 0) (ms := 0) (bc := bc) (bs := bs) (yc := kX12_next) (q := (RX12, TX12, 34)) (b := a0) (pc := 33) dX12_whole_33 sc_X12_next ml_X12_265 im_X12_next se_X12_next rfl rfl rfl (Nat.le_of_ble_eq_true rfl) hP15 (fun h_16 hP16 => ?_)
        clear hP15
        refine bz_aload_n (pc := 36) dX12_whole_36 rfl rfl ?_
        refine bz_kIV (as := []) (st := []) (ci := 12) (n := 0) (mc := 0) (ms := 0) (bc := bc) (bs := bs) (yc := kX12_sum) (q := (RX12, TX12, 34)) (b := a0) (pc := 37) dX12_whole_37 sc_X12_sum ml_X12_268 im_X12_sum se_X12_sum rfl rfl rfl (Nat.le_of_ble_eq_true rfl) hP16 (fun x_17 h_18 hP17 => ?_)
        clear hP16
        refine bz_if_ne (tgt := 45) (pc := 40) dX12_whole_40 rfl (fun c => ?_) (fun c => ?_)
        · have hP18 := hP17.1 c
          clear hP17
          refine bz_aload_n (pc := 45) dX12_whole_45 rfl rfl ?_
          refine bz_iconst (pc := 46) dX12_whole_46 ci_3 ?_
          refine bz_iload_n (pc := 47) dX12_whole_47 rfl rfl ?_
          refine bz_kVV (as := [.inl 3, .inl x_14]) (st := []) (ci := 12) (n := 2) (mc := 0) (ms := 0) (bc := bc) (bs := bs) (yc := kX12_lays) (q := (RX12, TX12, 34)) (b := a0) (pc := 48) dX12_whole_48 sc_X12_lays ml_X12_275 im_X12_lays se_X12_lays rfl rfl rfl (Nat.le_of_ble_eq_true rfl) hP18 (fun h_20 hP19 => ?_)
          clear hP18
          refine bz_iconst (pc := 51) dX12_whole_51 ci_1 ?_
          exact bz_retI (pc := 52) dX12_whole_52 rfl rfl hP19
        · have hP20 := hP17.2 c
          clear hP17
          refine bz_iconst (pc := 43) dX12_whole_43 ci_0 ?_
          exact bz_retI (pc := 44) dX12_whole_44 rfl rfl hP20
  · have hP21 := hP1.2 c
    clear hP1
    refine bz_iconst (pc := 7) dX12_whole_7 ci_0 ?_
    exact bz_retI (pc := 8) dX12_whole_8 rfl rfl hP21
theorem m_X12_whole {G : bz_G} {l : Launch} {d mc ms : Nat} {F : Option bz_V → bz_H → Prop} (a0 : Nat) (h : bz_H) (hP : w_X12_whole_0 G l d F a0 h) : bz_Call G l (d + 1) kX12_whole [.inr (some a0)] h mc ms F :=
  bz_body (by decide) (Nat.le_of_ble_eq_true rfl) (fun κ hl => g_X12_whole_0 hl a0 h hP)
def w_X12_whom_0 (G : bz_G) (l : Launch) (d : Nat) (F : Option bz_V → bz_H → Prop) (a0 : Nat) (x1 : Int32) (x2 : Int32) (h : bz_H) : Prop := bz_rc h a0 12 (bz_cI G l d kX12_isText [.inr (some a0), .inl x1] h 0 0 (fun x_1 h_2 => (x_1 = 0 → bz_rc h_2 a0 12 (bz_cI G l d kX12_finding [.inr (some a0), .inl 0] h_2 0 0 (fun x_3 h_4 => F (some (.inl x_3)) h_4))) ∧ (¬ (x_1 = 0) → bz_rc h_2 a0 12 (bz_cI G l d kX12_isOrder [.inr (some a0), .inl x2] h_2 0 0 (fun x_5 h_6 => (¬ x_5 = 0 → bz_rc h_6 a0 12 (bz_cV G l d kX12_goesNight [.inr (some a0), .inl x1] h_6 0 0 (fun h_8 => bz_rR h_8 a0 12 27 (fun r_9 => bz_nn r_9 (fun a_10 => bz_rA h_8 a_10 x2 (fun x_11 => (0 ≤ x_11 → bz_rR h_8 a0 12 27 (fun r_12 => bz_nn r_12 (fun a_13 => bz_rA h_8 a_13 x2 (fun x_14 => F (some (.inl x_14)) h_8)))) ∧ (¬ (0 ≤ x_11) → bz_rc h_8 a0 12 (bz_cI G l d kX12_finding [.inr (some a0), .inl 3] h_8 0 0 (fun x_15 h_16 => F (some (.inl x_15)) h_16))))))))) ∧ (x_5 = 0 → bz_rc h_6 a0 12 (bz_cI G l d kX12_finding [.inr (some a0), .inl 0] h_6 0 0 (fun x_17 h_18 => F (some (.inl x_17)) h_18))))))))
set_option maxRecDepth 20000 in
set_option maxHeartbeats 4000000 in
theorem g_X12_whom_0 {G : bz_G} {κ : bz_K} {l : Launch} {d : Nat} {F : Option bz_V → bz_H → Prop} {bc bs : Nat} (hl : κ.2.1 = l) (a0 : Nat) (x1 : Int32) (x2 : Int32) (h : bz_H) (hP0 : w_X12_whom_0 G l d F a0 x1 x2 h) : bz_J G κ kX12_whom (d + 1) F bc bs 0 [some (.inr (some a0)), some (.inl x1), some (.inl x2)] [] h := by
  subst hl
  unfold w_X12_whom_0 at hP0
  refine bz_aload_n (pc := 0) dX12_whom_0 rfl rfl ?_
  refine bz_iload_n (pc := 1) dX12_whom_1 rfl rfl ?_
  refine bz_kIV (as := [.inl x1]) (st := []) (ci := 12) (n := 1) (mc := 0) (ms := 0) (bc := bc) (bs := bs) (yc := kX12_isText) (q := (RX12, TX12, 34)) (b := a0) (pc := 2) dX12_whom_2 sc_X12_isText ml_X12_296 im_X12_isText se_X12_isText rfl rfl rfl (Nat.le_of_ble_eq_true rfl) hP0 (fun x_1 h_2 hP1 => ?_)
  clear hP0
  refine bz_if_eq (tgt := 16) (pc := 5) dX12_whom_5 rfl (fun c => ?_) (fun c => ?_)
  · have hP2 := hP1.1 c
    clear hP1
    refine bz_aload_n (pc := 16) dX12_whom_16 rfl rfl ?_
    refine bz_iconst (pc := 17) dX12_whom_17 ci_0 ?_
    refine bz_kIV (as := [.inl 0]) (st := []) (ci := 12) (n := 1) (mc := 0) (ms := 0) (bc := bc) (bs := bs) (yc := kX12_finding) (q := (RX12, TX12, 34)) (b := a0) (pc := 18) dX12_whom_18 sc_X12_finding ml_X12_73 im_X12_finding se_X12_finding rfl rfl rfl (Nat.le_of_ble_eq_true rfl) hP2 (fun x_3 h_4 hP3 => ?_)
    clear hP2
    exact bz_retI (pc := 21) dX12_whom_21 rfl rfl hP3
  · have hP4 := hP1.2 c
    clear hP1
    refine bz_aload_n (pc := 8) dX12_whom_8 rfl rfl ?_
    refine bz_iload_n (pc := 9) dX12_whom_9 rfl rfl ?_
    refine bz_kIV (as := [.inl x2]) (st := []) (ci := 12) (n := 1) (mc := 0) (ms := 0) (bc := bc) (bs := bs) (yc := kX12_isOrder) (q := (RX12, TX12, 34)) (b := a0) (pc := 10) dX12_whom_10 sc_X12_isOrder ml_X12_117 im_X12_isOrder se_X12_isOrder rfl rfl rfl (Nat.le_of_ble_eq_true rfl) hP4 (fun x_5 h_6 hP5 => ?_)
    clear hP4
    refine bz_if_ne (tgt := 22) (pc := 13) dX12_whom_13 rfl (fun c => ?_) (fun c => ?_)
    · have hP6 := hP5.1 c
      clear hP5
      refine bz_aload_n (pc := 22) dX12_whom_22 rfl rfl ?_
      refine bz_iload_n (pc := 23) dX12_whom_23 rfl rfl ?_
      refine bz_kVV (as := [.inl x1]) (st := []) (ci := 12) (n := 1) (mc := 0) (ms := 0) (bc := bc) (bs := bs) (yc := kX12_goesNight) (q := (RX12, TX12, 34)) (b := a0) (pc := 24) dX12_whom_24 sc_X12_goesNight ml_X12_332 im_X12_goesNight se_X12_goesNight rfl rfl rfl (Nat.le_of_ble_eq_true rfl) hP6 (fun h_8 hP7 => ?_)
      clear hP6
      refine bz_aload_n (pc := 27) dX12_whom_27 rfl rfl ?_
      refine bz_rw_rR (pc := 28) dX12_whom_28 fl_X12_49 hP7 (fun r_9 hP8 => ?_)
      clear hP7
      refine bz_iload_n (pc := 31) dX12_whom_31 rfl rfl ?_
      obtain ⟨a_10, rfl, hP9⟩ := hP8
      refine bz_rw_rA (pc := 32) dX12_whom_32 hP9 (fun x_11 hP10 => ?_)
      clear hP9
      refine bz_if_ge (tgt := 44) (pc := 33) dX12_whom_33 rfl (fun c => ?_) (fun c => ?_)
      · have hP11 := hP10.1 c
        clear hP10
        refine bz_aload_n (pc := 44) dX12_whom_44 rfl rfl ?_
        refine bz_rw_rR (pc := 45) dX12_whom_45 fl_X12_49 hP11 (fun r_12 hP12 => ?_)
        clear hP11
        refine bz_iload_n (pc := 48) dX12_whom_48 rfl rfl ?_
        obtain ⟨a_13, rfl, hP13⟩ := hP12
        refine bz_rw_rA (pc := 49) dX12_whom_49 hP13 (fun x_14 hP14 => ?_)
        clear hP13
        exact bz_retI (pc := 50) dX12_whom_50 rfl rfl hP14
      · have hP15 := hP10.2 c
        clear hP10
        refine bz_aload_n (pc := 36) dX12_whom_36 rfl rfl ?_
        refine bz_iconst (pc := 37) dX12_whom_37 ci_3 ?_
        refine bz_kIV (as := [.inl 3]) (st := []) (ci := 12) (n := 1) (mc := 0) (ms := 0) (bc := bc) (bs := bs) (yc := kX12_finding) (q := (RX12, TX12, 34)) (b := a0) (pc := 38) dX12_whom_38 sc_X12_finding ml_X12_73 im_X12_finding se_X12_finding rfl rfl rfl (Nat.le_of_ble_eq_true rfl) hP15 (fun x_15 h_16 hP16 => ?_)
        clear hP15
        refine bz_goto (tgt := 50) (pc := 41) dX12_whom_41 rfl ?_
        exact bz_retI (pc := 50) dX12_whom_50 rfl rfl hP16
    · have hP17 := hP5.2 c
      clear hP5
      refine bz_aload_n (pc := 16) dX12_whom_16 rfl rfl ?_
      refine bz_iconst (pc := 17) dX12_whom_17 ci_0 ?_
      refine bz_kIV (as := [.inl 0]) (st := []) (ci := 12) (n := 1) (mc := 0) (ms := 0) (bc := bc) (bs := bs) (yc := kX12_finding) (q := (RX12, TX12, 34)) (b := a0) (pc := 18) dX12_whom_18 sc_X12_finding ml_X12_73 im_X12_finding se_X12_finding rfl rfl rfl (Nat.le_of_ble_eq_true rfl) hP17 (fun x_17 h_18 hP18 => ?_)
      clear hP17
      exact bz_retI (pc := 21) dX12_whom_21 rfl rfl hP18
theorem m_X12_whom {G : bz_G} {l : Launch} {d mc ms : Nat} {F : Option bz_V → bz_H → Prop} (a0 : Nat) (x1 : Int32) (x2 : Int32) (h : bz_H) (hP : w_X12_whom_0 G l d F a0 x1 x2 h) : bz_Call G l (d + 1) kX12_whom [.inr (some a0), .inl x1, .inl x2] h mc ms F :=
  bz_body (by decide) (Nat.le_of_ble_eq_true rfl) (fun κ hl => g_X12_whom_0 hl a0 x1 x2 h hP)
def w_X12_wipe_0 (G : bz_G) (l : Launch) (d : Nat) (F : Option bz_V → bz_H → Prop) (a0 : Nat) (h : bz_H) : Prop := bz_rI h a0 12 14 (fun x_1 => bz_wI h a0 12 14 0 (fun h_2 => F (some (.inl x_1)) h_2))
set_option maxRecDepth 20000 in
set_option maxHeartbeats 4000000 in
theorem g_X12_wipe_0 {G : bz_G} {κ : bz_K} {l : Launch} {d : Nat} {F : Option bz_V → bz_H → Prop} {bc bs : Nat} (hl : κ.2.1 = l) (a0 : Nat) (h : bz_H) (hP0 : w_X12_wipe_0 G l d F a0 h) : bz_J G κ kX12_wipe (d + 1) F bc bs 0 [some (.inr (some a0)), none] [] h := by
  subst hl
  unfold w_X12_wipe_0 at hP0
  refine bz_aload_n (pc := 0) dX12_wipe_0 rfl rfl ?_
  refine bz_rw_rI (pc := 1) dX12_wipe_1 fl_X12_235 hP0 (fun x_1 hP1 => ?_)
  clear hP0
  refine bz_s_istore_n (pc := 4) dX12_wipe_4 rfl (Nat.le_of_ble_eq_true rfl) [some (.inr (some a0)), some (.inl x_1)] rfl ?_
  refine bz_aload_n (pc := 5) dX12_wipe_5 rfl rfl ?_
  refine bz_iconst (pc := 6) dX12_wipe_6 ci_0 ?_
  refine bz_rw_wI (pc := 7) dX12_wipe_7 fl_X12_235 (fun q h9 => by cases h9; rfl) rfl hP1 (fun h_2 hP2 => ?_)
  clear hP1
  refine bz_iload_n (pc := 10) dX12_wipe_10 rfl rfl ?_
  exact bz_retI (pc := 11) dX12_wipe_11 rfl rfl hP2
theorem m_X12_wipe {G : bz_G} {l : Launch} {d mc ms : Nat} {F : Option bz_V → bz_H → Prop} (a0 : Nat) (h : bz_H) (hP : w_X12_wipe_0 G l d F a0 h) : bz_Call G l (d + 1) kX12_wipe [.inr (some a0)] h mc ms F :=
  bz_body (by decide) (Nat.le_of_ble_eq_true rfl) (fun κ hl => g_X12_wipe_0 hl a0 h hP)
def w_X12_works_0 (G : bz_G) (κ : bz_K) (l : Launch) (d : Nat) (F : Option bz_V → bz_H → Prop) (bc bs : Nat) (a0 : Nat) (x1 : Int32) (h : bz_H) : Prop := bz_J G κ kX12_works (d + 1) F bc bs 15 [some (.inr (some a0)), some (.inl x1), some (.inl (976 + (165 * x1))), some (.inl 0), some (.inl 0), none, none] [] h
set_option maxRecDepth 20000 in
set_option maxHeartbeats 4000000 in
theorem g_X12_works_0 {G : bz_G} {κ : bz_K} {l : Launch} {d : Nat} {F : Option bz_V → bz_H → Prop} {bc bs : Nat} (hl : κ.2.1 = l) (a0 : Nat) (x1 : Int32) (h : bz_H) (hP0 : w_X12_works_0 G κ l d F bc bs a0 x1 h) : bz_J G κ kX12_works (d + 1) F bc bs 0 [some (.inr (some a0)), some (.inl x1), none, none, none, none, none] [] h := by
  subst hl
  unfold w_X12_works_0 at hP0
  refine bz_sipush (pc := 0) dX12_works_0 cs_976 ?_
  refine bz_sipush (pc := 3) dX12_works_3 cs_165 ?_
  refine bz_iload_n (pc := 6) dX12_works_6 rfl rfl ?_
  refine bz_imul (pc := 7) dX12_works_7 ?_
  refine bz_iadd (pc := 8) dX12_works_8 ?_
  refine bz_s_istore_n (pc := 9) dX12_works_9 rfl (Nat.le_of_ble_eq_true rfl) [some (.inr (some a0)), some (.inl x1), some (.inl (976 + (165 * x1))), none, none, none, none] rfl ?_
  refine bz_iconst (pc := 10) dX12_works_10 ci_0 ?_
  refine bz_s_istore_n (pc := 11) dX12_works_11 rfl (Nat.le_of_ble_eq_true rfl) [some (.inr (some a0)), some (.inl x1), some (.inl (976 + (165 * x1))), some (.inl 0), none, none, none] rfl ?_
  refine bz_iconst (pc := 12) dX12_works_12 ci_0 ?_
  refine bz_s_istore (pc := 13) dX12_works_13 (Nat.le_of_ble_eq_true rfl) [some (.inr (some a0)), some (.inl x1), some (.inl (976 + (165 * x1))), some (.inl 0), some (.inl 0), none, none] rfl ?_
  exact hP0
def w_X12_works_15 (G : bz_G) (κ : bz_K) (l : Launch) (d : Nat) (F : Option bz_V → bz_H → Prop) (bc bs : Nat) (a0 : Nat) (x1 : Int32) (x2 : Int32) (x3 : Int32) (x4 : Int32) (u5 : Option bz_V) (u6 : Option bz_V) (h : bz_H) : Prop := bz_rR h a0 12 0 (fun r_1 => bz_nn r_1 (fun a_2 => bz_rA h a_2 x2 (fun x_3 => (x_3 ≤ x4 → bz_rR h a0 12 23 (fun r_4 => bz_nn r_4 (fun a_5 => bz_rA h a_5 0 (fun x_6 => F (some (.inl x_6)) h)))) ∧ (¬ (x_3 ≤ x4) → bz_rR h a0 12 0 (fun r_7 => bz_nn r_7 (fun a_8 => bz_rA h a_8 ((x2 + 1) + (2 * x4)) (fun x_9 => bz_rR h a0 12 0 (fun r_10 => bz_nn r_10 (fun a_11 => bz_rA h a_11 ((x2 + 2) + (2 * x4)) (fun x_12 => (x_9 = 0 → bz_rR h a0 12 23 (fun r_13 => (¬ x_9 = 0 → bz_rR h a0 12 22 (fun r_14 => bz_nn r_14 (fun a_15 => bz_rA h a_15 x_12 (fun x_16 => bz_nn r_13 (fun a_17 => bz_wA h a_17 x3 x_16 (fun h_18 => bz_J G κ kX12_works (d + 1) F bc bs 15 [some (.inr (some a0)), some (.inl x1), some (.inl x2), some (.inl (x3 + 1)), some (.inl (x4 + 1)), some (.inl x_9), some (.inl x_12)] [] h_18)))))) ∧ (x_9 = 0 → bz_nn r_13 (fun a_19 => bz_wA h a_19 x3 x_12 (fun h_20 => bz_J G κ kX12_works (d + 1) F bc bs 15 [some (.inr (some a0)), some (.inl x1), some (.inl x2), some (.inl (x3 + 1)), some (.inl (x4 + 1)), some (.inl x_9), some (.inl x_12)] [] h_20))))) ∧ (¬ (x_9 = 0) → (¬ x_9 = 1 → (¬ x_9 = 2 → bz_rR h a0 12 23 (fun r_21 => bz_rR h a0 12 23 (fun r_22 => bz_nn r_22 (fun a_23 => bz_rA h a_23 ((x3 + (-1)) - 1) (fun x_24 => bz_rR h a0 12 23 (fun r_25 => bz_nn r_25 (fun a_26 => bz_rA h a_26 (x3 + (-1)) (fun x_27 => bz_cI G l d kX12_joined [.inl x_12, .inl x_24, .inl x_27] h 0 0 (fun x_28 h_29 => bz_nn r_21 (fun a_30 => bz_wA h_29 a_30 ((x3 + (-1)) - 1) x_28 (fun h_31 => bz_J G κ kX12_works (d + 1) F bc bs 15 [some (.inr (some a0)), some (.inl x1), some (.inl x2), some (.inl (x3 + (-1))), some (.inl (x4 + 1)), some (.inl x_9), some (.inl x_12)] [] h_31))))))))))) ∧ (x_9 = 2 → bz_rR h a0 12 23 (fun r_32 => bz_rR h a0 12 23 (fun r_33 => bz_nn r_33 (fun a_34 => bz_rA h a_34 (x3 - 1) (fun x_35 => bz_nn r_32 (fun a_36 => bz_wA h a_36 (x3 - 1) (-x_35) (fun h_37 => bz_J G κ kX12_works (d + 1) F bc bs 15 [some (.inr (some a0)), some (.inl x1), some (.inl x2), some (.inl x3), some (.inl (x4 + 1)), some (.inl x_9), some (.inl x_12)] [] h_37)))))))) ∧ (x_9 = 1 → bz_rR h a0 12 23 (fun r_38 => (¬ x_9 = 0 → bz_rR h a0 12 22 (fun r_39 => bz_nn r_39 (fun a_40 => bz_rA h a_40 x_12 (fun x_41 => bz_nn r_38 (fun a_42 => bz_wA h a_42 x3 x_41 (fun h_43 => bz_J G κ kX12_works (d + 1) F bc bs 15 [some (.inr (some a0)), some (.inl x1), some (.inl x2), some (.inl (x3 + 1)), some (.inl (x4 + 1)), some (.inl x_9), some (.inl x_12)] [] h_43)))))) ∧ (x_9 = 0 → bz_nn r_38 (fun a_44 => bz_wA h a_44 x3 x_12 (fun h_45 => bz_J G κ kX12_works (d + 1) F bc bs 15 [some (.inr (some a0)), some (.inl x1), some (.inl x2), some (.inl (x3 + 1)), some (.inl (x4 + 1)), some (.inl x_9), some (.inl x_12)] [] h_45))))))))))))))))
set_option maxRecDepth 20000 in
set_option maxHeartbeats 4000000 in
theorem g_X12_works_15 {G : bz_G} {κ : bz_K} {l : Launch} {d : Nat} {F : Option bz_V → bz_H → Prop} {bc bs : Nat} (hl : κ.2.1 = l) (a0 : Nat) (x1 : Int32) (x2 : Int32) (x3 : Int32) (x4 : Int32) (u5 : Option bz_V) (u6 : Option bz_V) (h : bz_H) (hP0 : w_X12_works_15 G κ l d F bc bs a0 x1 x2 x3 x4 u5 u6 h) : bz_J G κ kX12_works (d + 1) F bc bs 15 [some (.inr (some a0)), some (.inl x1), some (.inl x2), some (.inl x3), some (.inl x4), u5, u6] [] h := by
  subst hl
  unfold w_X12_works_15 at hP0
  refine bz_iload (pc := 15) dX12_works_15 rfl ?_
  refine bz_aload_n (pc := 17) dX12_works_17 rfl rfl ?_
  refine bz_rw_rR (pc := 18) dX12_works_18 fl_X12_7 hP0 (fun r_1 hP1 => ?_)
  clear hP0
  refine bz_iload_n (pc := 21) dX12_works_21 rfl rfl ?_
  obtain ⟨a_2, rfl, hP2⟩ := hP1
  refine bz_rw_rA (pc := 22) dX12_works_22 hP2 (fun x_3 hP3 => ?_)
  clear hP2
  refine bz_icmp_ge (tgt := 158) (pc := 23) dX12_works_23 rfl (fun c => ?_) (fun c => ?_)
  · have hP4 := hP3.1 c
    clear hP3
    refine bz_aload_n (pc := 158) dX12_works_158 rfl rfl ?_
    refine bz_rw_rR (pc := 159) dX12_works_159 fl_X12_37 hP4 (fun r_4 hP5 => ?_)
    clear hP4
    refine bz_iconst (pc := 162) dX12_works_162 ci_0 ?_
    obtain ⟨a_5, rfl, hP6⟩ := hP5
    refine bz_rw_rA (pc := 163) dX12_works_163 hP6 (fun x_6 hP7 => ?_)
    clear hP6
    exact bz_retI (pc := 164) dX12_works_164 rfl rfl hP7
  · have hP8 := hP3.2 c
    clear hP3
    refine bz_aload_n (pc := 26) dX12_works_26 rfl rfl ?_
    refine bz_rw_rR (pc := 27) dX12_works_27 fl_X12_7 hP8 (fun r_7 hP9 => ?_)
    clear hP8
    refine bz_iload_n (pc := 30) dX12_works_30 rfl rfl ?_
    refine bz_iconst (pc := 31) dX12_works_31 ci_1 ?_
    refine bz_iadd (pc := 32) dX12_works_32 ?_
    refine bz_iconst (pc := 33) dX12_works_33 ci_2 ?_
    refine bz_iload (pc := 34) dX12_works_34 rfl ?_
    refine bz_imul (pc := 36) dX12_works_36 ?_
    refine bz_iadd (pc := 37) dX12_works_37 ?_
    obtain ⟨a_8, rfl, hP10⟩ := hP9
    refine bz_rw_rA (pc := 38) dX12_works_38 hP10 (fun x_9 hP11 => ?_)
    clear hP10
    refine bz_s_istore (pc := 39) dX12_works_39 (Nat.le_of_ble_eq_true rfl) [some (.inr (some a0)), some (.inl x1), some (.inl x2), some (.inl x3), some (.inl x4), some (.inl x_9), u6] rfl ?_
    refine bz_aload_n (pc := 41) dX12_works_41 rfl rfl ?_
    refine bz_rw_rR (pc := 42) dX12_works_42 fl_X12_7 hP11 (fun r_10 hP12 => ?_)
    clear hP11
    refine bz_iload_n (pc := 45) dX12_works_45 rfl rfl ?_
    refine bz_iconst (pc := 46) dX12_works_46 ci_2 ?_
    refine bz_iadd (pc := 47) dX12_works_47 ?_
    refine bz_iconst (pc := 48) dX12_works_48 ci_2 ?_
    refine bz_iload (pc := 49) dX12_works_49 rfl ?_
    refine bz_imul (pc := 51) dX12_works_51 ?_
    refine bz_iadd (pc := 52) dX12_works_52 ?_
    obtain ⟨a_11, rfl, hP13⟩ := hP12
    refine bz_rw_rA (pc := 53) dX12_works_53 hP13 (fun x_12 hP14 => ?_)
    clear hP13
    refine bz_s_istore (pc := 54) dX12_works_54 (Nat.le_of_ble_eq_true rfl) [some (.inr (some a0)), some (.inl x1), some (.inl x2), some (.inl x3), some (.inl x4), some (.inl x_9), some (.inl x_12)] rfl ?_
    refine bz_iload (pc := 56) dX12_works_56 rfl ?_
    refine bz_if_eq (tgt := 67) (pc := 58) dX12_works_58 rfl (fun c => ?_) (fun c => ?_)
    · have hP15 := hP14.1 c
      clear hP14
      refine bz_aload_n (pc := 67) dX12_works_67 rfl rfl ?_
      refine bz_rw_rR (pc := 68) dX12_works_68 fl_X12_37 hP15 (fun r_13 hP16 => ?_)
      clear hP15
      refine bz_iload_n (pc := 71) dX12_works_71 rfl rfl ?_
      refine bz_iload (pc := 72) dX12_works_72 rfl ?_
      refine bz_if_ne (tgt := 82) (pc := 74) dX12_works_74 rfl (fun c => ?_) (fun c => ?_)
      · have hP17 := hP16.1 c
        clear hP16
        refine bz_aload_n (pc := 82) dX12_works_82 rfl rfl ?_
        refine bz_rw_rR (pc := 83) dX12_works_83 fl_X12_34 hP17 (fun r_14 hP18 => ?_)
        clear hP17
        refine bz_iload (pc := 86) dX12_works_86 rfl ?_
        obtain ⟨a_15, rfl, hP19⟩ := hP18
        refine bz_rw_rA (pc := 88) dX12_works_88 hP19 (fun x_16 hP20 => ?_)
        clear hP19
        obtain ⟨a_17, rfl, hP21⟩ := hP20
        refine bz_rw_wA (pc := 89) dX12_works_89 hP21 (fun h_18 hP22 => ?_)
        clear hP21
        refine bz_s_iinc (pc := 90) dX12_works_90 (Nat.le_of_ble_eq_true rfl) rfl rfl [some (.inr (some a0)), some (.inl x1), some (.inl x2), some (.inl (x3 + 1)), some (.inl x4), some (.inl x_9), some (.inl x_12)] rfl ?_
        refine bz_goto (tgt := 152) (pc := 93) dX12_works_93 rfl ?_
        refine bz_s_iinc (pc := 152) dX12_works_152 (Nat.le_of_ble_eq_true rfl) rfl rfl [some (.inr (some a0)), some (.inl x1), some (.inl x2), some (.inl (x3 + 1)), some (.inl (x4 + 1)), some (.inl x_9), some (.inl x_12)] rfl ?_
        refine bz_goto (tgt := 15) (pc := 155) dX12_works_155 rfl ?_
        exact hP22
      · have hP23 := hP16.2 c
        clear hP16
        refine bz_iload (pc := 77) dX12_works_77 rfl ?_
        refine bz_goto (tgt := 89) (pc := 79) dX12_works_79 rfl ?_
        obtain ⟨a_19, rfl, hP24⟩ := hP23
        refine bz_rw_wA (pc := 89) dX12_works_89 hP24 (fun h_20 hP25 => ?_)
        clear hP24
        refine bz_s_iinc (pc := 90) dX12_works_90 (Nat.le_of_ble_eq_true rfl) rfl rfl [some (.inr (some a0)), some (.inl x1), some (.inl x2), some (.inl (x3 + 1)), some (.inl x4), some (.inl x_9), some (.inl x_12)] rfl ?_
        refine bz_goto (tgt := 152) (pc := 93) dX12_works_93 rfl ?_
        refine bz_s_iinc (pc := 152) dX12_works_152 (Nat.le_of_ble_eq_true rfl) rfl rfl [some (.inr (some a0)), some (.inl x1), some (.inl x2), some (.inl (x3 + 1)), some (.inl (x4 + 1)), some (.inl x_9), some (.inl x_12)] rfl ?_
        refine bz_goto (tgt := 15) (pc := 155) dX12_works_155 rfl ?_
        exact hP25
    · have hP26 := hP14.2 c
      clear hP14
      refine bz_iload (pc := 61) dX12_works_61 rfl ?_
      refine bz_iconst (pc := 63) dX12_works_63 ci_1 ?_
      refine bz_icmp_ne (tgt := 96) (pc := 64) dX12_works_64 rfl (fun c => ?_) (fun c => ?_)
      · have hP27 := hP26.1 c
        clear hP26
        refine bz_iload (pc := 96) dX12_works_96 rfl ?_
        refine bz_iconst (pc := 98) dX12_works_98 ci_2 ?_
        refine bz_icmp_ne (tgt := 122) (pc := 99) dX12_works_99 rfl (fun c => ?_) (fun c => ?_)
        · have hP28 := hP27.1 c
          clear hP27
          refine bz_s_iinc (pc := 122) dX12_works_122 (Nat.le_of_ble_eq_true rfl) rfl rfl [some (.inr (some a0)), some (.inl x1), some (.inl x2), some (.inl (x3 + (-1))), some (.inl x4), some (.inl x_9), some (.inl x_12)] rfl ?_
          refine bz_aload_n (pc := 125) dX12_works_125 rfl rfl ?_
          refine bz_rw_rR (pc := 126) dX12_works_126 fl_X12_37 hP28 (fun r_21 hP29 => ?_)
          clear hP28
          refine bz_iload_n (pc := 129) dX12_works_129 rfl rfl ?_
          refine bz_iconst (pc := 130) dX12_works_130 ci_1 ?_
          refine bz_isub (pc := 131) dX12_works_131 ?_
          refine bz_iload (pc := 132) dX12_works_132 rfl ?_
          refine bz_aload_n (pc := 134) dX12_works_134 rfl rfl ?_
          refine bz_rw_rR (pc := 135) dX12_works_135 fl_X12_37 hP29 (fun r_22 hP30 => ?_)
          clear hP29
          refine bz_iload_n (pc := 138) dX12_works_138 rfl rfl ?_
          refine bz_iconst (pc := 139) dX12_works_139 ci_1 ?_
          refine bz_isub (pc := 140) dX12_works_140 ?_
          obtain ⟨a_23, rfl, hP31⟩ := hP30
          refine bz_rw_rA (pc := 141) dX12_works_141 hP31 (fun x_24 hP32 => ?_)
          clear hP31
          refine bz_aload_n (pc := 142) dX12_works_142 rfl rfl ?_
          refine bz_rw_rR (pc := 143) dX12_works_143 fl_X12_37 hP32 (fun r_25 hP33 => ?_)
          clear hP32
          refine bz_iload_n (pc := 146) dX12_works_146 rfl rfl ?_
          obtain ⟨a_26, rfl, hP34⟩ := hP33
          refine bz_rw_rA (pc := 147) dX12_works_147 hP34 (fun x_27 hP35 => ?_)
          clear hP34
          refine bz_kIS (as := [.inl x_12, .inl x_24, .inl x_27]) (st := [.inl ((x3 + (-1)) - 1), .inr r_21]) (n := 3) (mc := 0) (ms := 0) (bc := bc) (bs := bs) (yc := kX12_joined) (pc := 148) dX12_works_148 sc_X12_joined ml_X12_290 ss_X12_joined rfl (Nat.le_of_ble_eq_true rfl) hP35 (fun x_28 h_29 hP36 => ?_)
          clear hP35
          obtain ⟨a_30, rfl, hP37⟩ := hP36
          refine bz_rw_wA (pc := 151) dX12_works_151 hP37 (fun h_31 hP38 => ?_)
          clear hP37
          refine bz_s_iinc (pc := 152) dX12_works_152 (Nat.le_of_ble_eq_true rfl) rfl rfl [some (.inr (some a0)), some (.inl x1), some (.inl x2), some (.inl (x3 + (-1))), some (.inl (x4 + 1)), some (.inl x_9), some (.inl x_12)] rfl ?_
          refine bz_goto (tgt := 15) (pc := 155) dX12_works_155 rfl ?_
          exact hP38
        · have hP39 := hP27.2 c
          clear hP27
          refine bz_aload_n (pc := 102) dX12_works_102 rfl rfl ?_
          refine bz_rw_rR (pc := 103) dX12_works_103 fl_X12_37 hP39 (fun r_32 hP40 => ?_)
          clear hP39
          refine bz_iload_n (pc := 106) dX12_works_106 rfl rfl ?_
          refine bz_iconst (pc := 107) dX12_works_107 ci_1 ?_
          refine bz_isub (pc := 108) dX12_works_108 ?_
          refine bz_aload_n (pc := 109) dX12_works_109 rfl rfl ?_
          refine bz_rw_rR (pc := 110) dX12_works_110 fl_X12_37 hP40 (fun r_33 hP41 => ?_)
          clear hP40
          refine bz_iload_n (pc := 113) dX12_works_113 rfl rfl ?_
          refine bz_iconst (pc := 114) dX12_works_114 ci_1 ?_
          refine bz_isub (pc := 115) dX12_works_115 ?_
          obtain ⟨a_34, rfl, hP42⟩ := hP41
          refine bz_rw_rA (pc := 116) dX12_works_116 hP42 (fun x_35 hP43 => ?_)
          clear hP42
          refine bz_ineg (pc := 117) dX12_works_117 ?_
          obtain ⟨a_36, rfl, hP44⟩ := hP43
          refine bz_rw_wA (pc := 118) dX12_works_118 hP44 (fun h_37 hP45 => ?_)
          clear hP44
          refine bz_goto (tgt := 152) (pc := 119) dX12_works_119 rfl ?_
          refine bz_s_iinc (pc := 152) dX12_works_152 (Nat.le_of_ble_eq_true rfl) rfl rfl [some (.inr (some a0)), some (.inl x1), some (.inl x2), some (.inl x3), some (.inl (x4 + 1)), some (.inl x_9), some (.inl x_12)] rfl ?_
          refine bz_goto (tgt := 15) (pc := 155) dX12_works_155 rfl ?_
          exact hP45
      · have hP46 := hP26.2 c
        clear hP26
        refine bz_aload_n (pc := 67) dX12_works_67 rfl rfl ?_
        refine bz_rw_rR (pc := 68) dX12_works_68 fl_X12_37 hP46 (fun r_38 hP47 => ?_)
        clear hP46
        refine bz_iload_n (pc := 71) dX12_works_71 rfl rfl ?_
        refine bz_iload (pc := 72) dX12_works_72 rfl ?_
        refine bz_if_ne (tgt := 82) (pc := 74) dX12_works_74 rfl (fun c => ?_) (fun c => ?_)
        · have hP48 := hP47.1 c
          clear hP47
          refine bz_aload_n (pc := 82) dX12_works_82 rfl rfl ?_
          refine bz_rw_rR (pc := 83) dX12_works_83 fl_X12_34 hP48 (fun r_39 hP49 => ?_)
          clear hP48
          refine bz_iload (pc := 86) dX12_works_86 rfl ?_
          obtain ⟨a_40, rfl, hP50⟩ := hP49
          refine bz_rw_rA (pc := 88) dX12_works_88 hP50 (fun x_41 hP51 => ?_)
          clear hP50
          obtain ⟨a_42, rfl, hP52⟩ := hP51
          refine bz_rw_wA (pc := 89) dX12_works_89 hP52 (fun h_43 hP53 => ?_)
          clear hP52
          refine bz_s_iinc (pc := 90) dX12_works_90 (Nat.le_of_ble_eq_true rfl) rfl rfl [some (.inr (some a0)), some (.inl x1), some (.inl x2), some (.inl (x3 + 1)), some (.inl x4), some (.inl x_9), some (.inl x_12)] rfl ?_
          refine bz_goto (tgt := 152) (pc := 93) dX12_works_93 rfl ?_
          refine bz_s_iinc (pc := 152) dX12_works_152 (Nat.le_of_ble_eq_true rfl) rfl rfl [some (.inr (some a0)), some (.inl x1), some (.inl x2), some (.inl (x3 + 1)), some (.inl (x4 + 1)), some (.inl x_9), some (.inl x_12)] rfl ?_
          refine bz_goto (tgt := 15) (pc := 155) dX12_works_155 rfl ?_
          exact hP53
        · have hP54 := hP47.2 c
          clear hP47
          refine bz_iload (pc := 77) dX12_works_77 rfl ?_
          refine bz_goto (tgt := 89) (pc := 79) dX12_works_79 rfl ?_
          obtain ⟨a_44, rfl, hP55⟩ := hP54
          refine bz_rw_wA (pc := 89) dX12_works_89 hP55 (fun h_45 hP56 => ?_)
          clear hP55
          refine bz_s_iinc (pc := 90) dX12_works_90 (Nat.le_of_ble_eq_true rfl) rfl rfl [some (.inr (some a0)), some (.inl x1), some (.inl x2), some (.inl (x3 + 1)), some (.inl x4), some (.inl x_9), some (.inl x_12)] rfl ?_
          refine bz_goto (tgt := 152) (pc := 93) dX12_works_93 rfl ?_
          refine bz_s_iinc (pc := 152) dX12_works_152 (Nat.le_of_ble_eq_true rfl) rfl rfl [some (.inr (some a0)), some (.inl x1), some (.inl x2), some (.inl (x3 + 1)), some (.inl (x4 + 1)), some (.inl x_9), some (.inl x_12)] rfl ?_
          refine bz_goto (tgt := 15) (pc := 155) dX12_works_155 rfl ?_
          exact hP56
theorem m_X12_works {G : bz_G} {l : Launch} {d mc ms : Nat} {F : Option bz_V → bz_H → Prop} (a0 : Nat) (x1 : Int32) (h : bz_H) (hP : ∀ (κ : bz_K) (bc bs : Nat), κ.2.1 = l → w_X12_works_0 G κ l d F bc bs a0 x1 h) : bz_Call G l (d + 1) kX12_works [.inr (some a0), .inl x1] h mc ms F :=
  bz_body (by decide) (Nat.le_of_ble_eq_true rfl) (fun κ hl => g_X12_works_0 hl a0 x1 h (hP κ mc ms hl))
def w_X12_write_0 (G : bz_G) (l : Launch) (d : Nat) (F : Option bz_V → bz_H → Prop) (a0 : Nat) (x1 : Int32) (x2 : Int32) (x3 : Int32) (h : bz_H) : Prop := bz_cI G l d kX12_isSheet [.inl x1] h 0 0 (fun x_1 h_2 => (¬ x_1 = 0 → bz_rR h_2 a0 12 30 (fun r_3 => bz_nn r_3 (fun a_4 => bz_rA h_2 a_4 x1 (fun x_5 => (¬ x_5 = 0 → bz_rR h_2 a0 12 31 (fun r_6 => bz_nn r_6 (fun a_7 => bz_rA h_2 a_7 x1 (fun x_8 => bz_cI G l d kX12_in [.inl x2, .inl 0, .inl (x_8 - 1)] h_2 0 0 (fun x_9 h_10 => (¬ x_9 = 0 → bz_rR h_10 a0 12 30 (fun r_11 => bz_nn r_11 (fun a_12 => bz_rA h_10 a_12 x1 (fun x_13 => bz_rR h_10 a0 12 32 (fun r_14 => bz_nn r_14 (fun a_15 => bz_wA h_10 a_15 ((60 * x1) + x2) ((x3 <<< ((32 - x_13) &&& 31)) >>> ((32 - x_13) &&& 31)) (fun h_16 => F (some (.inl 1)) h_16))))))) ∧ (x_9 = 0 → bz_rc h_10 a0 12 (bz_cI G l d kX12_finding [.inr (some a0), .inl 0] h_10 0 0 (fun x_17 h_18 => F (some (.inl x_17)) h_18)))))))) ∧ (x_5 = 0 → bz_rc h_2 a0 12 (bz_cI G l d kX12_finding [.inr (some a0), .inl 5] h_2 0 0 (fun x_19 h_20 => F (some (.inl x_19)) h_20))))))) ∧ (x_1 = 0 → bz_rc h_2 a0 12 (bz_cI G l d kX12_finding [.inr (some a0), .inl 0] h_2 0 0 (fun x_21 h_22 => F (some (.inl x_21)) h_22))))
set_option maxRecDepth 20000 in
set_option maxHeartbeats 4000000 in
theorem g_X12_write_0 {G : bz_G} {κ : bz_K} {l : Launch} {d : Nat} {F : Option bz_V → bz_H → Prop} {bc bs : Nat} (hl : κ.2.1 = l) (a0 : Nat) (x1 : Int32) (x2 : Int32) (x3 : Int32) (h : bz_H) (hP0 : w_X12_write_0 G l d F a0 x1 x2 x3 h) : bz_J G κ kX12_write (d + 1) F bc bs 0 [some (.inr (some a0)), some (.inl x1), some (.inl x2), some (.inl x3), none] [] h := by
  subst hl
  unfold w_X12_write_0 at hP0
  refine bz_iload_n (pc := 0) dX12_write_0 rfl rfl ?_
  refine bz_kIS (as := [.inl x1]) (st := []) (n := 1) (mc := 0) (ms := 0) (bc := bc) (bs := bs) (yc := kX12_isSheet) (pc := 1) dX12_write_1 sc_X12_isSheet ml_X12_341 ss_X12_isSheet rfl (Nat.le_of_ble_eq_true rfl) hP0 (fun x_1 h_2 hP1 => ?_)
  clear hP0
  refine bz_if_ne (tgt := 13) (pc := 4) dX12_write_4 rfl (fun c => ?_) (fun c => ?_)
  · have hP2 := hP1.1 c
    clear hP1
    refine bz_aload_n (pc := 13) dX12_write_13 rfl rfl ?_
    refine bz_rw_rR (pc := 14) dX12_write_14 fl_X12_52 hP2 (fun r_3 hP3 => ?_)
    clear hP2
    refine bz_iload_n (pc := 17) dX12_write_17 rfl rfl ?_
    obtain ⟨a_4, rfl, hP4⟩ := hP3
    refine bz_rw_rA (pc := 18) dX12_write_18 hP4 (fun x_5 hP5 => ?_)
    clear hP4
    refine bz_if_ne (tgt := 28) (pc := 19) dX12_write_19 rfl (fun c => ?_) (fun c => ?_)
    · have hP6 := hP5.1 c
      clear hP5
      refine bz_iload_n (pc := 28) dX12_write_28 rfl rfl ?_
      refine bz_iconst (pc := 29) dX12_write_29 ci_0 ?_
      refine bz_aload_n (pc := 30) dX12_write_30 rfl rfl ?_
      refine bz_rw_rR (pc := 31) dX12_write_31 fl_X12_55 hP6 (fun r_6 hP7 => ?_)
      clear hP6
      refine bz_iload_n (pc := 34) dX12_write_34 rfl rfl ?_
      obtain ⟨a_7, rfl, hP8⟩ := hP7
      refine bz_rw_rA (pc := 35) dX12_write_35 hP8 (fun x_8 hP9 => ?_)
      clear hP8
      refine bz_iconst (pc := 36) dX12_write_36 ci_1 ?_
      refine bz_isub (pc := 37) dX12_write_37 ?_
      refine bz_kIS (as := [.inl x2, .inl 0, .inl (x_8 - 1)]) (st := []) (n := 3) (mc := 0) (ms := 0) (bc := bc) (bs := bs) (yc := kX12_in) (pc := 38) dX12_write_38 sc_X12_in ml_X12_65 ss_X12_in rfl (Nat.le_of_ble_eq_true rfl) hP9 (fun x_9 h_10 hP10 => ?_)
      clear hP9
      refine bz_if_ne (tgt := 50) (pc := 41) dX12_write_41 rfl (fun c => ?_) (fun c => ?_)
      · have hP11 := hP10.1 c
        clear hP10
        refine bz_bipush (pc := 50) dX12_write_50 cb_32 ?_
        refine bz_aload_n (pc := 52) dX12_write_52 rfl rfl ?_
        refine bz_rw_rR (pc := 53) dX12_write_53 fl_X12_52 hP11 (fun r_11 hP12 => ?_)
        clear hP11
        refine bz_iload_n (pc := 56) dX12_write_56 rfl rfl ?_
        obtain ⟨a_12, rfl, hP13⟩ := hP12
        refine bz_rw_rA (pc := 57) dX12_write_57 hP13 (fun x_13 hP14 => ?_)
        clear hP13
        refine bz_isub (pc := 58) dX12_write_58 ?_
        refine bz_s_istore (pc := 59) dX12_write_59 (Nat.le_of_ble_eq_true rfl) [some (.inr (some a0)), some (.inl x1), some (.inl x2), some (.inl x3), some (.inl (32 - x_13))] rfl ?_
        refine bz_aload_n (pc := 61) dX12_write_61 rfl rfl ?_
        refine bz_rw_rR (pc := 62) dX12_write_62 fl_X12_58 hP14 (fun r_14 hP15 => ?_)
        clear hP14
        refine bz_bipush (pc := 65) dX12_write_65 cb_60 ?_
        refine bz_iload_n (pc := 67) dX12_write_67 rfl rfl ?_
        refine bz_imul (pc := 68) dX12_write_68 ?_
        refine bz_iload_n (pc := 69) dX12_write_69 rfl rfl ?_
        refine bz_iadd (pc := 70) dX12_write_70 ?_
        refine bz_iload_n (pc := 71) dX12_write_71 rfl rfl ?_
        refine bz_iload (pc := 72) dX12_write_72 rfl ?_
        refine bz_ishl (pc := 74) dX12_write_74 ?_
        refine bz_iload (pc := 75) dX12_write_75 rfl ?_
        refine bz_ishr (pc := 77) dX12_write_77 ?_
        obtain ⟨a_15, rfl, hP16⟩ := hP15
        refine bz_rw_wA (pc := 78) dX12_write_78 hP16 (fun h_16 hP17 => ?_)
        clear hP16
        refine bz_iconst (pc := 79) dX12_write_79 ci_1 ?_
        exact bz_retI (pc := 80) dX12_write_80 rfl rfl hP17
      · have hP18 := hP10.2 c
        clear hP10
        refine bz_aload_n (pc := 44) dX12_write_44 rfl rfl ?_
        refine bz_iconst (pc := 45) dX12_write_45 ci_0 ?_
        refine bz_kIV (as := [.inl 0]) (st := []) (ci := 12) (n := 1) (mc := 0) (ms := 0) (bc := bc) (bs := bs) (yc := kX12_finding) (q := (RX12, TX12, 34)) (b := a0) (pc := 46) dX12_write_46 sc_X12_finding ml_X12_73 im_X12_finding se_X12_finding rfl rfl rfl (Nat.le_of_ble_eq_true rfl) hP18 (fun x_17 h_18 hP19 => ?_)
        clear hP18
        exact bz_retI (pc := 49) dX12_write_49 rfl rfl hP19
    · have hP20 := hP5.2 c
      clear hP5
      refine bz_aload_n (pc := 22) dX12_write_22 rfl rfl ?_
      refine bz_iconst (pc := 23) dX12_write_23 ci_5 ?_
      refine bz_kIV (as := [.inl 5]) (st := []) (ci := 12) (n := 1) (mc := 0) (ms := 0) (bc := bc) (bs := bs) (yc := kX12_finding) (q := (RX12, TX12, 34)) (b := a0) (pc := 24) dX12_write_24 sc_X12_finding ml_X12_73 im_X12_finding se_X12_finding rfl rfl rfl (Nat.le_of_ble_eq_true rfl) hP20 (fun x_19 h_20 hP21 => ?_)
      clear hP20
      exact bz_retI (pc := 27) dX12_write_27 rfl rfl hP21
  · have hP22 := hP1.2 c
    clear hP1
    refine bz_aload_n (pc := 7) dX12_write_7 rfl rfl ?_
    refine bz_iconst (pc := 8) dX12_write_8 ci_0 ?_
    refine bz_kIV (as := [.inl 0]) (st := []) (ci := 12) (n := 1) (mc := 0) (ms := 0) (bc := bc) (bs := bs) (yc := kX12_finding) (q := (RX12, TX12, 34)) (b := a0) (pc := 9) dX12_write_9 sc_X12_finding ml_X12_73 im_X12_finding se_X12_finding rfl rfl rfl (Nat.le_of_ble_eq_true rfl) hP22 (fun x_21 h_22 hP23 => ?_)
    clear hP22
    exact bz_retI (pc := 12) dX12_write_12 rfl rfl hP23
theorem m_X12_write {G : bz_G} {l : Launch} {d mc ms : Nat} {F : Option bz_V → bz_H → Prop} (a0 : Nat) (x1 : Int32) (x2 : Int32) (x3 : Int32) (h : bz_H) (hP : w_X12_write_0 G l d F a0 x1 x2 x3 h) : bz_Call G l (d + 1) kX12_write [.inr (some a0), .inl x1, .inl x2, .inl x3] h mc ms F :=
  bz_body (by decide) (Nat.le_of_ble_eq_true rfl) (fun κ hl => g_X12_write_0 hl a0 x1 x2 x3 h hP)
def w_X12_zoneOf_0 (G : bz_G) (l : Launch) (d : Nat) (F : Option bz_V → bz_H → Prop) (a0 : Nat) (x1 : Int32) (h : bz_H) : Prop := bz_rR h a0 12 0 (fun r_1 => bz_rc h a0 12 (bz_cI G l d kX12_ofOrder [.inr (some a0), .inl x1, .inl 1] h 0 0 (fun x_2 h_3 => bz_nn r_1 (fun a_4 => bz_rA h_3 a_4 (28 + x_2) (fun x_5 => F (some (.inl x_5)) h_3)))))
set_option maxRecDepth 20000 in
set_option maxHeartbeats 4000000 in
theorem g_X12_zoneOf_0 {G : bz_G} {κ : bz_K} {l : Launch} {d : Nat} {F : Option bz_V → bz_H → Prop} {bc bs : Nat} (hl : κ.2.1 = l) (a0 : Nat) (x1 : Int32) (h : bz_H) (hP0 : w_X12_zoneOf_0 G l d F a0 x1 h) : bz_J G κ kX12_zoneOf (d + 1) F bc bs 0 [some (.inr (some a0)), some (.inl x1)] [] h := by
  subst hl
  unfold w_X12_zoneOf_0 at hP0
  refine bz_aload_n (pc := 0) dX12_zoneOf_0 rfl rfl ?_
  refine bz_rw_rR (pc := 1) dX12_zoneOf_1 fl_X12_7 hP0 (fun r_1 hP1 => ?_)
  clear hP0
  refine bz_bipush (pc := 4) dX12_zoneOf_4 cb_28 ?_
  refine bz_aload_n (pc := 6) dX12_zoneOf_6 rfl rfl ?_
  refine bz_iload_n (pc := 7) dX12_zoneOf_7 rfl rfl ?_
  refine bz_iconst (pc := 8) dX12_zoneOf_8 ci_1 ?_
  refine bz_kIV (as := [.inl x1, .inl 1]) (st := [.inl 28, .inr r_1]) (ci := 12) (n := 2) (mc := 0) (ms := 0) (bc := bc) (bs := bs) (yc := kX12_ofOrder) (q := (RX12, TX12, 34)) (b := a0) (pc := 9) dX12_zoneOf_9 sc_X12_ofOrder ml_X12_99 im_X12_ofOrder se_X12_ofOrder rfl rfl rfl (Nat.le_of_ble_eq_true rfl) hP1 (fun x_2 h_3 hP2 => ?_)
  clear hP1
  refine bz_iadd (pc := 12) dX12_zoneOf_12 ?_
  obtain ⟨a_4, rfl, hP3⟩ := hP2
  refine bz_rw_rA (pc := 13) dX12_zoneOf_13 hP3 (fun x_5 hP4 => ?_)
  clear hP3
  exact bz_retI (pc := 14) dX12_zoneOf_14 rfl rfl hP4
theorem m_X12_zoneOf {G : bz_G} {l : Launch} {d mc ms : Nat} {F : Option bz_V → bz_H → Prop} (a0 : Nat) (x1 : Int32) (h : bz_H) (hP : w_X12_zoneOf_0 G l d F a0 x1 h) : bz_Call G l (d + 1) kX12_zoneOf [.inr (some a0), .inl x1] h mc ms F :=
  bz_body (by decide) (Nat.le_of_ble_eq_true rfl) (fun κ hl => g_X12_zoneOf_0 hl a0 x1 h hP)
def w_X12_zone_0 (G : bz_G) (κ : bz_K) (l : Launch) (d : Nat) (F : Option bz_V → bz_H → Prop) (bc bs : Nat) (a0 : Nat) (x1 : Int32) (x2 : Int32) (h : bz_H) : Prop := bz_cI G l d kX12_in [.inl x1, .inl 0, .inl 3] h 0 0 (fun x_1 h_2 => (x_1 = 0 → bz_rc h_2 a0 12 (bz_cI G l d kX12_finding [.inr (some a0), .inl 0] h_2 0 0 (fun x_3 h_4 => F (some (.inl x_3)) h_4))) ∧ (¬ (x_1 = 0) → bz_cI G l d kX12_in [.inl x2, .inl 0, .inl 3] h_2 0 0 (fun x_5 h_6 => (¬ x_5 = 0 → bz_J G κ kX12_zone (d + 1) F bc bs 29 [some (.inr (some a0)), some (.inl x1), some (.inl x2), some (.inl 0), some (.inl 0), none] [] h_6) ∧ (x_5 = 0 → bz_rc h_6 a0 12 (bz_cI G l d kX12_finding [.inr (some a0), .inl 0] h_6 0 0 (fun x_7 h_8 => F (some (.inl x_7)) h_8))))))
set_option maxRecDepth 20000 in
set_option maxHeartbeats 4000000 in
theorem g_X12_zone_0 {G : bz_G} {κ : bz_K} {l : Launch} {d : Nat} {F : Option bz_V → bz_H → Prop} {bc bs : Nat} (hl : κ.2.1 = l) (a0 : Nat) (x1 : Int32) (x2 : Int32) (h : bz_H) (hP0 : w_X12_zone_0 G κ l d F bc bs a0 x1 x2 h) : bz_J G κ kX12_zone (d + 1) F bc bs 0 [some (.inr (some a0)), some (.inl x1), some (.inl x2), none, none, none] [] h := by
  subst hl
  unfold w_X12_zone_0 at hP0
  refine bz_iload_n (pc := 0) dX12_zone_0 rfl rfl ?_
  refine bz_iconst (pc := 1) dX12_zone_1 ci_0 ?_
  refine bz_iconst (pc := 2) dX12_zone_2 ci_3 ?_
  refine bz_kIS (as := [.inl x1, .inl 0, .inl 3]) (st := []) (n := 3) (mc := 0) (ms := 0) (bc := bc) (bs := bs) (yc := kX12_in) (pc := 3) dX12_zone_3 sc_X12_in ml_X12_65 ss_X12_in rfl (Nat.le_of_ble_eq_true rfl) hP0 (fun x_1 h_2 hP1 => ?_)
  clear hP0
  refine bz_if_eq (tgt := 18) (pc := 6) dX12_zone_6 rfl (fun c => ?_) (fun c => ?_)
  · have hP2 := hP1.1 c
    clear hP1
    refine bz_aload_n (pc := 18) dX12_zone_18 rfl rfl ?_
    refine bz_iconst (pc := 19) dX12_zone_19 ci_0 ?_
    refine bz_kIV (as := [.inl 0]) (st := []) (ci := 12) (n := 1) (mc := 0) (ms := 0) (bc := bc) (bs := bs) (yc := kX12_finding) (q := (RX12, TX12, 34)) (b := a0) (pc := 20) dX12_zone_20 sc_X12_finding ml_X12_73 im_X12_finding se_X12_finding rfl rfl rfl (Nat.le_of_ble_eq_true rfl) hP2 (fun x_3 h_4 hP3 => ?_)
    clear hP2
    exact bz_retI (pc := 23) dX12_zone_23 rfl rfl hP3
  · have hP4 := hP1.2 c
    clear hP1
    refine bz_iload_n (pc := 9) dX12_zone_9 rfl rfl ?_
    refine bz_iconst (pc := 10) dX12_zone_10 ci_0 ?_
    refine bz_iconst (pc := 11) dX12_zone_11 ci_3 ?_
    refine bz_kIS (as := [.inl x2, .inl 0, .inl 3]) (st := []) (n := 3) (mc := 0) (ms := 0) (bc := bc) (bs := bs) (yc := kX12_in) (pc := 12) dX12_zone_12 sc_X12_in ml_X12_65 ss_X12_in rfl (Nat.le_of_ble_eq_true rfl) hP4 (fun x_5 h_6 hP5 => ?_)
    clear hP4
    refine bz_if_ne (tgt := 24) (pc := 15) dX12_zone_15 rfl (fun c => ?_) (fun c => ?_)
    · have hP6 := hP5.1 c
      clear hP5
      refine bz_iconst (pc := 24) dX12_zone_24 ci_0 ?_
      refine bz_s_istore_n (pc := 25) dX12_zone_25 rfl (Nat.le_of_ble_eq_true rfl) [some (.inr (some a0)), some (.inl x1), some (.inl x2), some (.inl 0), none, none] rfl ?_
      refine bz_iconst (pc := 26) dX12_zone_26 ci_0 ?_
      refine bz_s_istore (pc := 27) dX12_zone_27 (Nat.le_of_ble_eq_true rfl) [some (.inr (some a0)), some (.inl x1), some (.inl x2), some (.inl 0), some (.inl 0), none] rfl ?_
      exact hP6
    · have hP7 := hP5.2 c
      clear hP5
      refine bz_aload_n (pc := 18) dX12_zone_18 rfl rfl ?_
      refine bz_iconst (pc := 19) dX12_zone_19 ci_0 ?_
      refine bz_kIV (as := [.inl 0]) (st := []) (ci := 12) (n := 1) (mc := 0) (ms := 0) (bc := bc) (bs := bs) (yc := kX12_finding) (q := (RX12, TX12, 34)) (b := a0) (pc := 20) dX12_zone_20 sc_X12_finding ml_X12_73 im_X12_finding se_X12_finding rfl rfl rfl (Nat.le_of_ble_eq_true rfl) hP7 (fun x_7 h_8 hP8 => ?_)
      clear hP7
      exact bz_retI (pc := 23) dX12_zone_23 rfl rfl hP8
def w_X12_zone_29 (G : bz_G) (κ : bz_K) (l : Launch) (d : Nat) (F : Option bz_V → bz_H → Prop) (bc bs : Nat) (a0 : Nat) (x1 : Int32) (x2 : Int32) (x3 : Int32) (x4 : Int32) (u5 : Option bz_V) (h : bz_H) : Prop := bz_rR h a0 12 0 (fun r_9 => bz_nn r_9 (fun a_10 => bz_rA h a_10 2 (fun x_11 => (x_11 ≤ x4 → F (some (.inl x3)) h) ∧ (¬ (x_11 ≤ x4) → bz_rc h a0 12 (bz_cI G l d kX12_zoneOf [.inr (some a0), .inl x4] h 0 0 (fun x_12 h_13 => (x_12 = x1 → bz_rc h_13 a0 12 (bz_cI G l d kX12_isGiven [.inr (some a0), .inl x4] h_13 0 0 (fun x_14 h_15 => (¬ x2 = 0 → (¬ x_14 = 0 → (¬ x2 = 1 → (¬ x2 = 2 → bz_rc h_15 a0 12 (bz_cI G l d kX12_payOf [.inr (some a0), .inl x4] h_15 0 0 (fun x_16 h_17 => bz_J G κ kX12_zone (d + 1) F bc bs 29 [some (.inr (some a0)), some (.inl x1), some (.inl x2), some (.inl (x3 + x_16)), some (.inl (x4 + 1)), some (.inl x_14)] [] h_17))) ∧ (x2 = 2 → bz_rc h_15 a0 12 (bz_cI G l d kX12_lateOf [.inr (some a0), .inl x4] h_15 0 0 (fun x_18 h_19 => bz_J G κ kX12_zone (d + 1) F bc bs 29 [some (.inr (some a0)), some (.inl x1), some (.inl x2), some (.inl (x3 + x_18)), some (.inl (x4 + 1)), some (.inl x_14)] [] h_19)))) ∧ (x2 = 1 → bz_J G κ kX12_zone (d + 1) F bc bs 29 [some (.inr (some a0)), some (.inl x1), some (.inl x2), some (.inl (x3 + 1)), some (.inl (x4 + 1)), some (.inl x_14)] [] h_15)) ∧ (x_14 = 0 → bz_J G κ kX12_zone (d + 1) F bc bs 29 [some (.inr (some a0)), some (.inl x1), some (.inl x2), some (.inl (x3 + 0)), some (.inl (x4 + 1)), some (.inl x_14)] [] h_15)) ∧ (x2 = 0 → bz_rc h_15 a0 12 (bz_cI G l d kX12_isWaiting [.inr (some a0), .inl x4] h_15 0 0 (fun x_20 h_21 => bz_J G κ kX12_zone (d + 1) F bc bs 29 [some (.inr (some a0)), some (.inl x1), some (.inl x2), some (.inl (x3 + (if x_20 = 0 then 0 else 1))), some (.inl (x4 + 1)), some (.inl x_14)] [] h_21)))))) ∧ (¬ (x_12 = x1) → bz_J G κ kX12_zone (d + 1) F bc bs 29 [some (.inr (some a0)), some (.inl x1), some (.inl x2), some (.inl x3), some (.inl (x4 + 1)), u5] [] h_13)))))))
set_option maxRecDepth 20000 in
set_option maxHeartbeats 4000000 in
theorem g_X12_zone_29 {G : bz_G} {κ : bz_K} {l : Launch} {d : Nat} {F : Option bz_V → bz_H → Prop} {bc bs : Nat} (hl : κ.2.1 = l) (a0 : Nat) (x1 : Int32) (x2 : Int32) (x3 : Int32) (x4 : Int32) (u5 : Option bz_V) (h : bz_H) (hP0 : w_X12_zone_29 G κ l d F bc bs a0 x1 x2 x3 x4 u5 h) : bz_J G κ kX12_zone (d + 1) F bc bs 29 [some (.inr (some a0)), some (.inl x1), some (.inl x2), some (.inl x3), some (.inl x4), u5] [] h := by
  subst hl
  unfold w_X12_zone_29 at hP0
  refine bz_iload (pc := 29) dX12_zone_29 rfl ?_
  refine bz_aload_n (pc := 31) dX12_zone_31 rfl rfl ?_
  refine bz_rw_rR (pc := 32) dX12_zone_32 fl_X12_7 hP0 (fun r_9 hP1 => ?_)
  clear hP0
  refine bz_iconst (pc := 35) dX12_zone_35 ci_2 ?_
  obtain ⟨a_10, rfl, hP2⟩ := hP1
  refine bz_rw_rA (pc := 36) dX12_zone_36 hP2 (fun x_11 hP3 => ?_)
  clear hP2
  refine bz_icmp_ge (tgt := 129) (pc := 37) dX12_zone_37 rfl (fun c => ?_) (fun c => ?_)
  · have hP4 := hP3.1 c
    clear hP3
    refine bz_iload_n (pc := 129) dX12_zone_129 rfl rfl ?_
    exact bz_retI (pc := 130) dX12_zone_130 rfl rfl hP4
  · have hP5 := hP3.2 c
    clear hP3
    refine bz_aload_n (pc := 40) dX12_zone_40 rfl rfl ?_
    refine bz_iload (pc := 41) dX12_zone_41 rfl ?_
    refine bz_kIV (as := [.inl x4]) (st := []) (ci := 12) (n := 1) (mc := 0) (ms := 0) (bc := bc) (bs := bs) (yc := kX12_zoneOf) (q := (RX12, TX12, 34)) (b := a0) (pc := 43) dX12_zone_43 sc_X12_zoneOf ml_X12_317 im_X12_zoneOf se_X12_zoneOf rfl rfl rfl (Nat.le_of_ble_eq_true rfl) hP5 (fun x_12 h_13 hP6 => ?_)
    clear hP5
    refine bz_iload_n (pc := 46) dX12_zone_46 rfl rfl ?_
    refine bz_icmp_eq (tgt := 53) (pc := 47) dX12_zone_47 rfl (fun c => ?_) (fun c => ?_)
    · have hP7 := hP6.1 c
      clear hP6
      refine bz_aload_n (pc := 53) dX12_zone_53 rfl rfl ?_
      refine bz_iload (pc := 54) dX12_zone_54 rfl ?_
      refine bz_kIV (as := [.inl x4]) (st := []) (ci := 12) (n := 1) (mc := 0) (ms := 0) (bc := bc) (bs := bs) (yc := kX12_isGiven) (q := (RX12, TX12, 34)) (b := a0) (pc := 56) dX12_zone_56 sc_X12_isGiven ml_X12_120 im_X12_isGiven se_X12_isGiven rfl rfl rfl (Nat.le_of_ble_eq_true rfl) hP7 (fun x_14 h_15 hP8 => ?_)
      clear hP7
      refine bz_s_istore (pc := 59) dX12_zone_59 (Nat.le_of_ble_eq_true rfl) [some (.inr (some a0)), some (.inl x1), some (.inl x2), some (.inl x3), some (.inl x4), some (.inl x_14)] rfl ?_
      refine bz_iload_n (pc := 61) dX12_zone_61 rfl rfl ?_
      refine bz_iload_n (pc := 62) dX12_zone_62 rfl rfl ?_
      refine bz_if_ne (tgt := 83) (pc := 63) dX12_zone_63 rfl (fun c => ?_) (fun c => ?_)
      · have hP9 := hP8.1 c
        clear hP8
        refine bz_iload (pc := 83) dX12_zone_83 rfl ?_
        refine bz_if_ne (tgt := 92) (pc := 85) dX12_zone_85 rfl (fun c => ?_) (fun c => ?_)
        · have hP10 := hP9.1 c
          clear hP9
          refine bz_iload_n (pc := 92) dX12_zone_92 rfl rfl ?_
          refine bz_iconst (pc := 93) dX12_zone_93 ci_1 ?_
          refine bz_icmp_ne (tgt := 101) (pc := 94) dX12_zone_94 rfl (fun c => ?_) (fun c => ?_)
          · have hP11 := hP10.1 c
            clear hP10
            refine bz_iload_n (pc := 101) dX12_zone_101 rfl rfl ?_
            refine bz_iconst (pc := 102) dX12_zone_102 ci_2 ?_
            refine bz_icmp_ne (tgt := 115) (pc := 103) dX12_zone_103 rfl (fun c => ?_) (fun c => ?_)
            · have hP12 := hP11.1 c
              clear hP11
              refine bz_aload_n (pc := 115) dX12_zone_115 rfl rfl ?_
              refine bz_iload (pc := 116) dX12_zone_116 rfl ?_
              refine bz_kIV (as := [.inl x4]) (st := [.inl x3]) (ci := 12) (n := 1) (mc := 0) (ms := 0) (bc := bc) (bs := bs) (yc := kX12_payOf) (q := (RX12, TX12, 34)) (b := a0) (pc := 118) dX12_zone_118 sc_X12_payOf ml_X12_123 im_X12_payOf se_X12_payOf rfl rfl rfl (Nat.le_of_ble_eq_true rfl) hP12 (fun x_16 h_17 hP13 => ?_)
              clear hP12
              refine bz_iadd (pc := 121) dX12_zone_121 ?_
              refine bz_s_istore_n (pc := 122) dX12_zone_122 rfl (Nat.le_of_ble_eq_true rfl) [some (.inr (some a0)), some (.inl x1), some (.inl x2), some (.inl (x3 + x_16)), some (.inl x4), some (.inl x_14)] rfl ?_
              refine bz_s_iinc (pc := 123) dX12_zone_123 (Nat.le_of_ble_eq_true rfl) rfl rfl [some (.inr (some a0)), some (.inl x1), some (.inl x2), some (.inl (x3 + x_16)), some (.inl (x4 + 1)), some (.inl x_14)] rfl ?_
              refine bz_goto (tgt := 29) (pc := 126) dX12_zone_126 rfl ?_
              exact hP13
            · have hP14 := hP11.2 c
              clear hP11
              refine bz_aload_n (pc := 106) dX12_zone_106 rfl rfl ?_
              refine bz_iload (pc := 107) dX12_zone_107 rfl ?_
              refine bz_kIV (as := [.inl x4]) (st := [.inl x3]) (ci := 12) (n := 1) (mc := 0) (ms := 0) (bc := bc) (bs := bs) (yc := kX12_lateOf) (q := (RX12, TX12, 34)) (b := a0) (pc := 109) dX12_zone_109 sc_X12_lateOf ml_X12_105 im_X12_lateOf se_X12_lateOf rfl rfl rfl (Nat.le_of_ble_eq_true rfl) hP14 (fun x_18 h_19 hP15 => ?_)
              clear hP14
              refine bz_goto (tgt := 121) (pc := 112) dX12_zone_112 rfl ?_
              refine bz_iadd (pc := 121) dX12_zone_121 ?_
              refine bz_s_istore_n (pc := 122) dX12_zone_122 rfl (Nat.le_of_ble_eq_true rfl) [some (.inr (some a0)), some (.inl x1), some (.inl x2), some (.inl (x3 + x_18)), some (.inl x4), some (.inl x_14)] rfl ?_
              refine bz_s_iinc (pc := 123) dX12_zone_123 (Nat.le_of_ble_eq_true rfl) rfl rfl [some (.inr (some a0)), some (.inl x1), some (.inl x2), some (.inl (x3 + x_18)), some (.inl (x4 + 1)), some (.inl x_14)] rfl ?_
              refine bz_goto (tgt := 29) (pc := 126) dX12_zone_126 rfl ?_
              exact hP15
          · have hP16 := hP10.2 c
            clear hP10
            refine bz_iconst (pc := 97) dX12_zone_97 ci_1 ?_
            refine bz_goto (tgt := 121) (pc := 98) dX12_zone_98 rfl ?_
            refine bz_iadd (pc := 121) dX12_zone_121 ?_
            refine bz_s_istore_n (pc := 122) dX12_zone_122 rfl (Nat.le_of_ble_eq_true rfl) [some (.inr (some a0)), some (.inl x1), some (.inl x2), some (.inl (x3 + 1)), some (.inl x4), some (.inl x_14)] rfl ?_
            refine bz_s_iinc (pc := 123) dX12_zone_123 (Nat.le_of_ble_eq_true rfl) rfl rfl [some (.inr (some a0)), some (.inl x1), some (.inl x2), some (.inl (x3 + 1)), some (.inl (x4 + 1)), some (.inl x_14)] rfl ?_
            refine bz_goto (tgt := 29) (pc := 126) dX12_zone_126 rfl ?_
            exact hP16
        · have hP17 := hP9.2 c
          clear hP9
          refine bz_iconst (pc := 88) dX12_zone_88 ci_0 ?_
          refine bz_goto (tgt := 121) (pc := 89) dX12_zone_89 rfl ?_
          refine bz_iadd (pc := 121) dX12_zone_121 ?_
          refine bz_s_istore_n (pc := 122) dX12_zone_122 rfl (Nat.le_of_ble_eq_true rfl) [some (.inr (some a0)), some (.inl x1), some (.inl x2), some (.inl (x3 + 0)), some (.inl x4), some (.inl x_14)] rfl ?_
          refine bz_s_iinc (pc := 123) dX12_zone_123 (Nat.le_of_ble_eq_true rfl) rfl rfl [some (.inr (some a0)), some (.inl x1), some (.inl x2), some (.inl (x3 + 0)), some (.inl (x4 + 1)), some (.inl x_14)] rfl ?_
          refine bz_goto (tgt := 29) (pc := 126) dX12_zone_126 rfl ?_
          exact hP17
      · have hP18 := hP8.2 c
        clear hP8
        refine bz_aload_n (pc := 66) dX12_zone_66 rfl rfl ?_
        refine bz_iload (pc := 67) dX12_zone_67 rfl ?_
        refine bz_kIV (as := [.inl x4]) (st := [.inl x3]) (ci := 12) (n := 1) (mc := 0) (ms := 0) (bc := bc) (bs := bs) (yc := kX12_isWaiting) (q := (RX12, TX12, 34)) (b := a0) (pc := 69) dX12_zone_69 sc_X12_isWaiting ml_X12_129 im_X12_isWaiting se_X12_isWaiting rfl rfl rfl (Nat.le_of_ble_eq_true rfl) hP18 (fun x_20 h_21 hP19 => ?_)
        clear hP18
        have hJ : bz_J G κ kX12_zone (d + 1) F bc bs 121 [some (.inr (some a0)), some (.inl x1), some (.inl x2), some (.inl x3), some (.inl x4), some (.inl x_14)] [.inl (if x_20 = 0 then 0 else 1), .inl x3] h_21 := by
          refine bz_iadd (pc := 121) dX12_zone_121 ?_
          refine bz_s_istore_n (pc := 122) dX12_zone_122 rfl (Nat.le_of_ble_eq_true rfl) [some (.inr (some a0)), some (.inl x1), some (.inl x2), some (.inl (x3 + (if x_20 = 0 then 0 else 1))), some (.inl x4), some (.inl x_14)] rfl ?_
          refine bz_s_iinc (pc := 123) dX12_zone_123 (Nat.le_of_ble_eq_true rfl) rfl rfl [some (.inr (some a0)), some (.inl x1), some (.inl x2), some (.inl (x3 + (if x_20 = 0 then 0 else 1))), some (.inl (x4 + 1)), some (.inl x_14)] rfl ?_
          refine bz_goto (tgt := 29) (pc := 126) dX12_zone_126 rfl ?_
          exact hP19
        refine bz_if_eq (tgt := 79) (pc := 72) dX12_zone_72 rfl (fun c => ?_) (fun c => ?_)
        · have e9 : ((if x_20 = 0 then 0 else 1) : Int32) = (0) := if_pos c
          rw [e9] at hJ
          refine bz_iconst (pc := 79) dX12_zone_79 ci_0 ?_
          refine bz_goto (tgt := 121) (pc := 80) dX12_zone_80 rfl ?_
          exact hJ
        · have e9 : ((if x_20 = 0 then 0 else 1) : Int32) = (1) := if_neg c
          rw [e9] at hJ
          refine bz_iconst (pc := 75) dX12_zone_75 ci_1 ?_
          refine bz_goto (tgt := 121) (pc := 76) dX12_zone_76 rfl ?_
          exact hJ
    · have hP20 := hP6.2 c
      clear hP6
      refine bz_goto (tgt := 123) (pc := 50) dX12_zone_50 rfl ?_
      refine bz_s_iinc (pc := 123) dX12_zone_123 (Nat.le_of_ble_eq_true rfl) rfl rfl [some (.inr (some a0)), some (.inl x1), some (.inl x2), some (.inl x3), some (.inl (x4 + 1)), u5] rfl ?_
      refine bz_goto (tgt := 29) (pc := 126) dX12_zone_126 rfl ?_
      exact hP20
theorem m_X12_zone {G : bz_G} {l : Launch} {d mc ms : Nat} {F : Option bz_V → bz_H → Prop} (a0 : Nat) (x1 : Int32) (x2 : Int32) (h : bz_H) (hP : ∀ (κ : bz_K) (bc bs : Nat), κ.2.1 = l → w_X12_zone_0 G κ l d F bc bs a0 x1 x2 h) : bz_Call G l (d + 1) kX12_zone [.inr (some a0), .inl x1, .inl x2] h mc ms F :=
  bz_body (by decide) (Nat.le_of_ble_eq_true rfl) (fun κ hl => g_X12_zone_0 hl a0 x1 x2 h (hP κ mc ms hl))
def w_J7_fill_53178_0 (G : bz_G) (κ : bz_K) (l : Launch) (d : Nat) (F : Option bz_V → bz_H → Prop) (bc bs : Nat) (r0 : Option Nat) (x1 : Int32) (h : bz_H) : Prop := bz_nn r0 (fun a_1 => bz_rN h a_1 (fun x_2 => bz_J G κ kJ7_fill_53178 (d + 1) F bc bs 5 [some (.inr (some a_1)), some (.inl x1), some (.inl 0), some (.inl x_2)] [] h))
set_option maxRecDepth 20000 in
set_option maxHeartbeats 4000000 in
theorem g_J7_fill_53178_0 {G : bz_G} {κ : bz_K} {l : Launch} {d : Nat} {F : Option bz_V → bz_H → Prop} {bc bs : Nat} (hl : κ.2.1 = l) (r0 : Option Nat) (x1 : Int32) (h : bz_H) (hP0 : w_J7_fill_53178_0 G κ l d F bc bs r0 x1 h) : bz_J G κ kJ7_fill_53178 (d + 1) F bc bs 0 [some (.inr r0), some (.inl x1), none, none] [] h := by
  subst hl
  unfold w_J7_fill_53178_0 at hP0
  refine bz_iconst (pc := 0) dJ7_fill_53178_0 ci_0 ?_
  refine bz_s_istore_n (pc := 1) dJ7_fill_53178_1 rfl (Nat.le_of_ble_eq_true rfl) [some (.inr r0), some (.inl x1), some (.inl 0), none] rfl ?_
  refine bz_aload_n (pc := 2) dJ7_fill_53178_2 rfl rfl ?_
  obtain ⟨a_1, rfl, hP1⟩ := hP0
  refine bz_rw_rN (pc := 3) dJ7_fill_53178_3 hP1 (fun x_2 hP2 => ?_)
  clear hP1
  refine bz_s_istore_n (pc := 4) dJ7_fill_53178_4 rfl (Nat.le_of_ble_eq_true rfl) [some (.inr (some a_1)), some (.inl x1), some (.inl 0), some (.inl x_2)] rfl ?_
  exact hP2
def w_J7_fill_53178_5 (G : bz_G) (κ : bz_K) (l : Launch) (d : Nat) (F : Option bz_V → bz_H → Prop) (bc bs : Nat) (r0 : Option Nat) (x1 : Int32) (x2 : Int32) (x3 : Int32) (h : bz_H) : Prop := (x3 ≤ x2 → F none h) ∧ (¬ (x3 ≤ x2) → bz_nn r0 (fun a_3 => bz_wA h a_3 x2 x1 (fun h_4 => bz_J G κ kJ7_fill_53178 (d + 1) F bc bs 5 [some (.inr (some a_3)), some (.inl x1), some (.inl (x2 + 1)), some (.inl x3)] [] h_4)))
set_option maxRecDepth 20000 in
set_option maxHeartbeats 4000000 in
theorem g_J7_fill_53178_5 {G : bz_G} {κ : bz_K} {l : Launch} {d : Nat} {F : Option bz_V → bz_H → Prop} {bc bs : Nat} (hl : κ.2.1 = l) (r0 : Option Nat) (x1 : Int32) (x2 : Int32) (x3 : Int32) (h : bz_H) (hP0 : w_J7_fill_53178_5 G κ l d F bc bs r0 x1 x2 x3 h) : bz_J G κ kJ7_fill_53178 (d + 1) F bc bs 5 [some (.inr r0), some (.inl x1), some (.inl x2), some (.inl x3)] [] h := by
  subst hl
  unfold w_J7_fill_53178_5 at hP0
  refine bz_iload_n (pc := 5) dJ7_fill_53178_5 rfl rfl ?_
  refine bz_iload_n (pc := 6) dJ7_fill_53178_6 rfl rfl ?_
  refine bz_icmp_ge (tgt := 20) (pc := 7) dJ7_fill_53178_7 rfl (fun c => ?_) (fun c => ?_)
  · have hP1 := hP0.1 c
    clear hP0
    exact bz_retV (pc := 20) dJ7_fill_53178_20 rfl hP1
  · have hP2 := hP0.2 c
    clear hP0
    refine bz_aload_n (pc := 10) dJ7_fill_53178_10 rfl rfl ?_
    refine bz_iload_n (pc := 11) dJ7_fill_53178_11 rfl rfl ?_
    refine bz_iload_n (pc := 12) dJ7_fill_53178_12 rfl rfl ?_
    obtain ⟨a_3, rfl, hP3⟩ := hP2
    refine bz_rw_wA (pc := 13) dJ7_fill_53178_13 hP3 (fun h_4 hP4 => ?_)
    clear hP3
    refine bz_s_iinc (pc := 14) dJ7_fill_53178_14 (Nat.le_of_ble_eq_true rfl) rfl rfl [some (.inr (some a_3)), some (.inl x1), some (.inl (x2 + 1)), some (.inl x3)] rfl ?_
    refine bz_goto (tgt := 5) (pc := 17) dJ7_fill_53178_17 rfl ?_
    exact hP4
theorem m_J7_fill_53178 {G : bz_G} {l : Launch} {d mc ms : Nat} {F : Option bz_V → bz_H → Prop} (r0 : Option Nat) (x1 : Int32) (h : bz_H) (hP : ∀ (κ : bz_K) (bc bs : Nat), κ.2.1 = l → w_J7_fill_53178_0 G κ l d F bc bs r0 x1 h) : bz_Call G l (d + 1) kJ7_fill_53178 [.inr r0, .inl x1] h mc ms F :=
  bz_body (by decide) (Nat.le_of_ble_eq_true rfl) (fun κ hl => g_J7_fill_53178_0 hl r0 x1 h (hP κ mc ms hl))
