set_option maxRecDepth 20000 in
set_option maxHeartbeats 4000000 in
theorem g_X11_trip_0 {G : bz_G} {κ : bz_K} {l : Launch} {d : Nat} {F : Option bz_V → bz_H → Prop} {bc bs : Nat} (hl : κ.2.1 = l) (a0 : Nat) (x1 : Int32) (x2 : Int32) (x3 : Int32) (h : bz_H) (hP : bz_rR h a0 11 0 (fun r_1 => bz_nn r_1 (fun a_4 => bz_rc h a_4 10 (bz_cR G l d kX10_riderAt [.inr (some a_4), .inl x1] h 0 0 (fun r_2 h_3 => bz_rR h_3 a0 11 0 (fun r_5 => bz_nn r_5 (fun a_8 => bz_rc h_3 a_8 10 (bz_cR G l d kX10_orderAt [.inr (some a_8), .inl x2] h_3 0 0 (fun r_6 h_7 => (r_2 = none → bz_rc h_7 a0 11 (bz_cI G l d kX11_finding [.inr (some a0), .inl (-1000001)] h_7 0 0 (fun x_10 h_11 => F (some (.inl x_10)) h_11))) ∧ (∀ a_9, r_2 = some a_9 → (r_6 = none → bz_rc h_7 a0 11 (bz_cI G l d kX11_finding [.inr (some a0), .inl (-1000001)] h_7 0 0 (fun x_13 h_14 => F (some (.inl x_13)) h_14))) ∧ (∀ a_12, r_6 = some a_12 → bz_cI G l d kX11_isWithin [.inl x3, .inl 0, .inl 2] h_7 0 0 (fun x_15 h_16 => (¬ x_15 = 0 → bz_rI h_16 a_12 2 7 (fun x_17 => (x_17 = 0 → bz_rR h_16 a0 11 6 (fun r_18 => bz_rI h_16 a_9 3 1 (fun x_19 => bz_rI h_16 a_9 3 4 (fun x_20 => bz_rR h_16 a0 11 0 (fun r_21 => bz_nn r_21 (fun a_22 => bz_rI h_16 a_22 10 12 (fun x_23 => bz_rc h_16 a_9 3 (bz_cI G l d kX3_startFrom [.inr (some a_9), .inl x_23] h_16 0 0 (fun x_24 h_25 => bz_nn r_18 (fun a_28 => bz_rc h_25 a_28 9 (bz_cI G l d kX9_planOne [.inr (some a_28), .inl x_19, .inl x_20, .inl x_24, .inr (some a_12)] h_25 0 0 (fun x_26 h_27 => (¬ x_26 = 0 → (x3 = 0 → bz_rR h_27 a0 11 6 (fun r_29 => bz_nn r_29 (fun a_30 => bz_rR h_27 a_30 9 1 (fun r_31 => bz_nn r_31 (fun a_32 => bz_rA h_27 a_32 0 (fun x_33 => F (some (.inl x_33)) h_27)))))) ∧ (¬ x3 = 0 → (x3 = 1 → bz_rR h_27 a0 11 6 (fun r_34 => bz_nn r_34 (fun a_35 => bz_rR h_27 a_35 9 1 (fun r_36 => bz_nn r_36 (fun a_37 => bz_rA h_27 a_37 1 (fun x_38 => F (some (.inl x_38)) h_27)))))) ∧ (¬ x3 = 1 → bz_rR h_27 a0 11 6 (fun r_39 => bz_nn r_39 (fun a_40 => bz_rI h_27 a_40 9 10 (fun x_41 => F (some (.inl x_41)) h_27)))))) ∧ (x_26 = 0 → bz_rc h_27 a0 11 (bz_cI G l d kX11_finding [.inr (some a0), .inl (-1000004)] h_27 0 0 (fun x_42 h_43 => F (some (.inl x_42)) h_43))))))))))))))) ∧ (¬ (x_17 = 0) → bz_rc h_16 a0 11 (bz_cI G l d kX11_finding [.inr (some a0), .inl (-1000005)] h_16 0 0 (fun x_44 h_45 => F (some (.inl x_44)) h_45))))) ∧ (x_15 = 0 → bz_rc h_16 a0 11 (bz_cI G l d kX11_finding [.inr (some a0), .inl (-1000001)] h_16 0 0 (fun x_46 h_47 => F (some (.inl x_46)) h_47))))))))))))))) : bz_J G κ kX11_trip (d + 1) F bc bs 0 [some (.inr (some a0)), some (.inl x1), some (.inl x2), some (.inl x3), none, none] [] h := by
  subst hl
  refine bz_aload_n (pc := 0) dX11_trip_0 rfl rfl ?_
  refine bz_rw_rR (pc := 1) dX11_trip_1 fl_X11_12 hP (fun r_1 hP => ?_)
  refine bz_iload_n (pc := 4) dX11_trip_4 rfl rfl ?_
  obtain ⟨a_4, rfl, hP⟩ := hP
  refine bz_kRV (as := [.inl x1]) (st := []) (ci := 10) (pc := 5) dX11_trip_5 sc_X10_riderAt ml_X11_179 im_X10_riderAt se_X10_riderAt rfl rfl rfl (by decide) hP (fun r_2 h_3 hP => ?_)
  refine bz_s_astore (pc := 8) dX11_trip_8 (by decide) [some (.inr (some a0)), some (.inl x1), some (.inl x2), some (.inl x3), some (.inr r_2), none] rfl ?_
  refine bz_aload_n (pc := 10) dX11_trip_10 rfl rfl ?_
  refine bz_rw_rR (pc := 11) dX11_trip_11 fl_X11_12 hP (fun r_5 hP => ?_)
  refine bz_iload_n (pc := 14) dX11_trip_14 rfl rfl ?_
  obtain ⟨a_8, rfl, hP⟩ := hP
  refine bz_kRV (as := [.inl x2]) (st := []) (ci := 10) (pc := 15) dX11_trip_15 sc_X10_orderAt ml_X11_132 im_X10_orderAt se_X10_orderAt rfl rfl rfl (by decide) hP (fun r_6 h_7 hP => ?_)
  refine bz_s_astore (pc := 18) dX11_trip_18 (by decide) [some (.inr (some a0)), some (.inl x1), some (.inl x2), some (.inl x3), some (.inr r_2), some (.inr r_6)] rfl ?_
  refine bz_aload (pc := 20) dX11_trip_20 rfl ?_
  refine bz_ifnull (tgt := 39) (pc := 22) dX11_trip_22 (by decide) (fun c => ?_) (fun a_9 c => ?_)
  · have hP := hP.1 c
    subst c
    refine bz_aload_n (pc := 39) dX11_trip_39 rfl rfl ?_
    refine bz_ldc (pc := 40) dX11_trip_40 ct_X11_78 ?_
    refine bz_kIV (as := [.inl (-1000001)]) (st := []) (ci := 11) (pc := 42) dX11_trip_42 sc_X11_finding ml_X11_79 im_X11_finding se_X11_finding rfl rfl rfl (by decide) hP (fun x_10 h_11 hP => ?_)
    exact bz_retI (pc := 45) dX11_trip_45 rfl rfl hP
  · have hP := hP.2 a_9 c
    subst c
    refine bz_aload (pc := 25) dX11_trip_25 rfl ?_
    refine bz_ifnull (tgt := 39) (pc := 27) dX11_trip_27 (by decide) (fun c => ?_) (fun a_12 c => ?_)
    · have hP := hP.1 c
      subst c
      refine bz_aload_n (pc := 39) dX11_trip_39 rfl rfl ?_
      refine bz_ldc (pc := 40) dX11_trip_40 ct_X11_78 ?_
      refine bz_kIV (as := [.inl (-1000001)]) (st := []) (ci := 11) (pc := 42) dX11_trip_42 sc_X11_finding ml_X11_79 im_X11_finding se_X11_finding rfl rfl rfl (by decide) hP (fun x_13 h_14 hP => ?_)
      exact bz_retI (pc := 45) dX11_trip_45 rfl rfl hP
    · have hP := hP.2 a_12 c
      subst c
      refine bz_iload_n (pc := 30) dX11_trip_30 rfl rfl ?_
      refine bz_iconst (v := 0) (pc := 31) dX11_trip_31 (by decide) ?_
      refine bz_iconst (v := 2) (pc := 32) dX11_trip_32 (by decide) ?_
      refine bz_kIS (as := [.inl x3, .inl 0, .inl 2]) (st := []) (pc := 33) dX11_trip_33 sc_X11_isWithin ml_X11_74 ss_X11_isWithin rfl (by decide) hP (fun x_15 h_16 hP => ?_)
      refine bz_if_ne (tgt := 46) (pc := 36) dX11_trip_36 (by decide) (fun c => ?_) (fun c => ?_)
      · have hP := hP.1 c
        refine bz_aload (pc := 46) dX11_trip_46 rfl ?_
        refine bz_rw_rI (pc := 48) dX11_trip_48 fl_X11_136 hP (fun x_17 hP => ?_)
        refine bz_if_eq (tgt := 61) (pc := 51) dX11_trip_51 (by decide) (fun c => ?_) (fun c => ?_)
        · have hP := hP.1 c
          refine bz_aload_n (pc := 61) dX11_trip_61 rfl rfl ?_
          refine bz_rw_rR (pc := 62) dX11_trip_62 fl_X11_50 hP (fun r_18 hP => ?_)
          refine bz_aload (pc := 65) dX11_trip_65 rfl ?_
          refine bz_rw_rI (pc := 67) dX11_trip_67 fl_X11_183 hP (fun x_19 hP => ?_)
          refine bz_aload (pc := 70) dX11_trip_70 rfl ?_
          refine bz_rw_rI (pc := 72) dX11_trip_72 fl_X11_188 hP (fun x_20 hP => ?_)
          refine bz_aload (pc := 75) dX11_trip_75 rfl ?_
          refine bz_aload_n (pc := 77) dX11_trip_77 rfl rfl ?_
          refine bz_rw_rR (pc := 78) dX11_trip_78 fl_X11_12 hP (fun r_21 hP => ?_)
          obtain ⟨a_22, rfl, hP⟩ := hP
          refine bz_rw_rI (pc := 81) dX11_trip_81 fl_X11_103 hP (fun x_23 hP => ?_)
          refine bz_kIV (as := [.inl x_23]) (st := [.inl x_20, .inl x_19, .inr r_18]) (ci := 3) (pc := 84) dX11_trip_84 sc_X3_startFrom ml_X11_212 im_X3_startFrom se_X3_startFrom rfl rfl rfl (by decide) hP (fun x_24 h_25 hP => ?_)
          refine bz_aload (pc := 87) dX11_trip_87 rfl ?_
          obtain ⟨a_28, rfl, hP⟩ := hP
          refine bz_kIV (as := [.inl x_19, .inl x_20, .inl x_24, .inr (some a_12)]) (st := []) (ci := 9) (pc := 89) dX11_trip_89 sc_X9_planOne ml_X11_215 im_X9_planOne se_X9_planOne rfl rfl rfl (by decide) hP (fun x_26 h_27 hP => ?_)
          refine bz_if_ne (tgt := 102) (pc := 92) dX11_trip_92 (by decide) (fun c => ?_) (fun c => ?_)
          · have hP := hP.1 c
            refine bz_iload_n (pc := 102) dX11_trip_102 rfl rfl ?_
            refine bz_lookup (pc := 103) [(0, 25), (1, 35)] dX11_trip_103 (by decide) (by decide) (by decide) (by decide) ?_
            refine ⟨fun c => ?_, fun c => ?_⟩
            · have hP := hP.1 c
              show bz_J G κ kX11_trip (d + 1) F bc bs 128 [some (.inr (some a0)), some (.inl x1), some (.inl x2), some (.inl x3), some (.inr (some a_9)), some (.inr (some a_12))] [] h_27
              refine bz_aload_n (pc := 128) dX11_trip_128 rfl rfl ?_
              refine bz_rw_rR (pc := 129) dX11_trip_129 fl_X11_50 hP (fun r_29 hP => ?_)
              obtain ⟨a_30, rfl, hP⟩ := hP
              refine bz_rw_rR (pc := 132) dX11_trip_132 fl_X11_219 hP (fun r_31 hP => ?_)
              refine bz_iconst (v := 0) (pc := 135) dX11_trip_135 (by decide) ?_
              obtain ⟨a_32, rfl, hP⟩ := hP
              refine bz_rw_rA (pc := 136) dX11_trip_136 hP (fun x_33 hP => ?_)
              exact bz_retI (pc := 137) dX11_trip_137 rfl rfl hP
            · have hP := hP.2 c
              refine ⟨fun c => ?_, fun c => ?_⟩
              · have hP := hP.1 c
                show bz_J G κ kX11_trip (d + 1) F bc bs 138 [some (.inr (some a0)), some (.inl x1), some (.inl x2), some (.inl x3), some (.inr (some a_9)), some (.inr (some a_12))] [] h_27
                refine bz_aload_n (pc := 138) dX11_trip_138 rfl rfl ?_
                refine bz_rw_rR (pc := 139) dX11_trip_139 fl_X11_50 hP (fun r_34 hP => ?_)
                obtain ⟨a_35, rfl, hP⟩ := hP
                refine bz_rw_rR (pc := 142) dX11_trip_142 fl_X11_219 hP (fun r_36 hP => ?_)
                refine bz_iconst (v := 1) (pc := 145) dX11_trip_145 (by decide) ?_
                obtain ⟨a_37, rfl, hP⟩ := hP
                refine bz_rw_rA (pc := 146) dX11_trip_146 hP (fun x_38 hP => ?_)
                exact bz_retI (pc := 147) dX11_trip_147 rfl rfl hP
              · have hP := hP.2 c
                show bz_J G κ kX11_trip (d + 1) F bc bs 148 [some (.inr (some a0)), some (.inl x1), some (.inl x2), some (.inl x3), some (.inr (some a_9)), some (.inr (some a_12))] [] h_27
                refine bz_aload_n (pc := 148) dX11_trip_148 rfl rfl ?_
                refine bz_rw_rR (pc := 149) dX11_trip_149 fl_X11_50 hP (fun r_39 hP => ?_)
                obtain ⟨a_40, rfl, hP⟩ := hP
                refine bz_rw_rI (pc := 152) dX11_trip_152 fl_X11_222 hP (fun x_41 hP => ?_)
                exact bz_retI (pc := 155) dX11_trip_155 rfl rfl hP
          · have hP := hP.2 c
            refine bz_aload_n (pc := 95) dX11_trip_95 rfl rfl ?_
            refine bz_ldc (pc := 96) dX11_trip_96 ct_X11_102 ?_
            refine bz_kIV (as := [.inl (-1000004)]) (st := []) (ci := 11) (pc := 98) dX11_trip_98 sc_X11_finding ml_X11_79 im_X11_finding se_X11_finding rfl rfl rfl (by decide) hP (fun x_42 h_43 hP => ?_)
            exact bz_retI (pc := 101) dX11_trip_101 rfl rfl hP
        · have hP := hP.2 c
          refine bz_aload_n (pc := 54) dX11_trip_54 rfl rfl ?_
          refine bz_ldc (pc := 55) dX11_trip_55 ct_X11_107 ?_
          refine bz_kIV (as := [.inl (-1000005)]) (st := []) (ci := 11) (pc := 57) dX11_trip_57 sc_X11_finding ml_X11_79 im_X11_finding se_X11_finding rfl rfl rfl (by decide) hP (fun x_44 h_45 hP => ?_)
          exact bz_retI (pc := 60) dX11_trip_60 rfl rfl hP
      · have hP := hP.2 c
        refine bz_aload_n (pc := 39) dX11_trip_39 rfl rfl ?_
        refine bz_ldc (pc := 40) dX11_trip_40 ct_X11_78 ?_
        refine bz_kIV (as := [.inl (-1000001)]) (st := []) (ci := 11) (pc := 42) dX11_trip_42 sc_X11_finding ml_X11_79 im_X11_finding se_X11_finding rfl rfl rfl (by decide) hP (fun x_46 h_47 hP => ?_)
        exact bz_retI (pc := 45) dX11_trip_45 rfl rfl hP
theorem m_X11_trip {G : bz_G} {l : Launch} {d mc ms : Nat} {F : Option bz_V → bz_H → Prop} (a0 : Nat) (x1 : Int32) (x2 : Int32) (x3 : Int32) (h : bz_H) (hP : bz_rR h a0 11 0 (fun r_1 => bz_nn r_1 (fun a_4 => bz_rc h a_4 10 (bz_cR G l d kX10_riderAt [.inr (some a_4), .inl x1] h 0 0 (fun r_2 h_3 => bz_rR h_3 a0 11 0 (fun r_5 => bz_nn r_5 (fun a_8 => bz_rc h_3 a_8 10 (bz_cR G l d kX10_orderAt [.inr (some a_8), .inl x2] h_3 0 0 (fun r_6 h_7 => (r_2 = none → bz_rc h_7 a0 11 (bz_cI G l d kX11_finding [.inr (some a0), .inl (-1000001)] h_7 0 0 (fun x_10 h_11 => F (some (.inl x_10)) h_11))) ∧ (∀ a_9, r_2 = some a_9 → (r_6 = none → bz_rc h_7 a0 11 (bz_cI G l d kX11_finding [.inr (some a0), .inl (-1000001)] h_7 0 0 (fun x_13 h_14 => F (some (.inl x_13)) h_14))) ∧ (∀ a_12, r_6 = some a_12 → bz_cI G l d kX11_isWithin [.inl x3, .inl 0, .inl 2] h_7 0 0 (fun x_15 h_16 => (¬ x_15 = 0 → bz_rI h_16 a_12 2 7 (fun x_17 => (x_17 = 0 → bz_rR h_16 a0 11 6 (fun r_18 => bz_rI h_16 a_9 3 1 (fun x_19 => bz_rI h_16 a_9 3 4 (fun x_20 => bz_rR h_16 a0 11 0 (fun r_21 => bz_nn r_21 (fun a_22 => bz_rI h_16 a_22 10 12 (fun x_23 => bz_rc h_16 a_9 3 (bz_cI G l d kX3_startFrom [.inr (some a_9), .inl x_23] h_16 0 0 (fun x_24 h_25 => bz_nn r_18 (fun a_28 => bz_rc h_25 a_28 9 (bz_cI G l d kX9_planOne [.inr (some a_28), .inl x_19, .inl x_20, .inl x_24, .inr (some a_12)] h_25 0 0 (fun x_26 h_27 => (¬ x_26 = 0 → (x3 = 0 → bz_rR h_27 a0 11 6 (fun r_29 => bz_nn r_29 (fun a_30 => bz_rR h_27 a_30 9 1 (fun r_31 => bz_nn r_31 (fun a_32 => bz_rA h_27 a_32 0 (fun x_33 => F (some (.inl x_33)) h_27)))))) ∧ (¬ x3 = 0 → (x3 = 1 → bz_rR h_27 a0 11 6 (fun r_34 => bz_nn r_34 (fun a_35 => bz_rR h_27 a_35 9 1 (fun r_36 => bz_nn r_36 (fun a_37 => bz_rA h_27 a_37 1 (fun x_38 => F (some (.inl x_38)) h_27)))))) ∧ (¬ x3 = 1 → bz_rR h_27 a0 11 6 (fun r_39 => bz_nn r_39 (fun a_40 => bz_rI h_27 a_40 9 10 (fun x_41 => F (some (.inl x_41)) h_27)))))) ∧ (x_26 = 0 → bz_rc h_27 a0 11 (bz_cI G l d kX11_finding [.inr (some a0), .inl (-1000004)] h_27 0 0 (fun x_42 h_43 => F (some (.inl x_42)) h_43))))))))))))))) ∧ (¬ (x_17 = 0) → bz_rc h_16 a0 11 (bz_cI G l d kX11_finding [.inr (some a0), .inl (-1000005)] h_16 0 0 (fun x_44 h_45 => F (some (.inl x_44)) h_45))))) ∧ (x_15 = 0 → bz_rc h_16 a0 11 (bz_cI G l d kX11_finding [.inr (some a0), .inl (-1000001)] h_16 0 0 (fun x_46 h_47 => F (some (.inl x_46)) h_47))))))))))))))) : bz_Call G l (d + 1) kX11_trip [.inr (some a0), .inl x1, .inl x2, .inl x3] h mc ms F :=
  bz_body (by decide) (by decide) (fun κ hl => g_X11_trip_0 hl a0 x1 x2 x3 h hP)
set_option maxRecDepth 20000 in
set_option maxHeartbeats 4000000 in
theorem g_X11_undo_0 {G : bz_G} {κ : bz_K} {l : Launch} {d : Nat} {F : Option bz_V → bz_H → Prop} {bc bs : Nat} (hl : κ.2.1 = l) (a0 : Nat) (h : bz_H) (hP : bz_rI h a0 11 2 (fun x_1 => (¬ x_1 = 0 → bz_rR h a0 11 0 (fun r_2 => bz_rR h a0 11 1 (fun r_3 => bz_nn r_2 (fun a_6 => bz_rc h a_6 10 (bz_cV G l d kX10_becomeLike [.inr (some a_6), .inr r_3] h 0 0 (fun h_5 => bz_rR h_5 a0 11 0 (fun r_7 => bz_nn r_7 (fun a_8 => bz_rI h_5 a_8 10 12 (fun x_9 => F (some (.inl x_9)) h_5))))))))) ∧ (x_1 = 0 → bz_rc h a0 11 (bz_cI G l d kX11_finding [.inr (some a0), .inl (-1000004)] h 0 0 (fun x_10 h_11 => F (some (.inl x_10)) h_11))))) : bz_J G κ kX11_undo (d + 1) F bc bs 0 [some (.inr (some a0))] [] h := by
  subst hl
  refine bz_aload_n (pc := 0) dX11_undo_0 rfl rfl ?_
  refine bz_rw_rI (pc := 1) dX11_undo_1 fl_X11_19 hP (fun x_1 hP => ?_)
  refine bz_if_ne (tgt := 14) (pc := 4) dX11_undo_4 (by decide) (fun c => ?_) (fun c => ?_)
  · have hP := hP.1 c
    refine bz_aload_n (pc := 14) dX11_undo_14 rfl rfl ?_
    refine bz_rw_rR (pc := 15) dX11_undo_15 fl_X11_12 hP (fun r_2 hP => ?_)
    refine bz_aload_n (pc := 18) dX11_undo_18 rfl rfl ?_
    refine bz_rw_rR (pc := 19) dX11_undo_19 fl_X11_16 hP (fun r_3 hP => ?_)
    obtain ⟨a_6, rfl, hP⟩ := hP
    refine bz_kVV (as := [.inr r_3]) (st := []) (ci := 10) (pc := 22) dX11_undo_22 sc_X10_becomeLike ml_X11_413 im_X10_becomeLike se_X10_becomeLike rfl rfl rfl (by decide) hP (fun h_5 hP => ?_)
    refine bz_aload_n (pc := 25) dX11_undo_25 rfl rfl ?_
    refine bz_rw_rR (pc := 26) dX11_undo_26 fl_X11_12 hP (fun r_7 hP => ?_)
    obtain ⟨a_8, rfl, hP⟩ := hP
    refine bz_rw_rI (pc := 29) dX11_undo_29 fl_X11_103 hP (fun x_9 hP => ?_)
    exact bz_retI (pc := 32) dX11_undo_32 rfl rfl hP
  · have hP := hP.2 c
    refine bz_aload_n (pc := 7) dX11_undo_7 rfl rfl ?_
    refine bz_ldc (pc := 8) dX11_undo_8 ct_X11_102 ?_
    refine bz_kIV (as := [.inl (-1000004)]) (st := []) (ci := 11) (pc := 10) dX11_undo_10 sc_X11_finding ml_X11_79 im_X11_finding se_X11_finding rfl rfl rfl (by decide) hP (fun x_10 h_11 hP => ?_)
    exact bz_retI (pc := 13) dX11_undo_13 rfl rfl hP
theorem m_X11_undo {G : bz_G} {l : Launch} {d mc ms : Nat} {F : Option bz_V → bz_H → Prop} (a0 : Nat) (h : bz_H) (hP : bz_rI h a0 11 2 (fun x_1 => (¬ x_1 = 0 → bz_rR h a0 11 0 (fun r_2 => bz_rR h a0 11 1 (fun r_3 => bz_nn r_2 (fun a_6 => bz_rc h a_6 10 (bz_cV G l d kX10_becomeLike [.inr (some a_6), .inr r_3] h 0 0 (fun h_5 => bz_rR h_5 a0 11 0 (fun r_7 => bz_nn r_7 (fun a_8 => bz_rI h_5 a_8 10 12 (fun x_9 => F (some (.inl x_9)) h_5))))))))) ∧ (x_1 = 0 → bz_rc h a0 11 (bz_cI G l d kX11_finding [.inr (some a0), .inl (-1000004)] h 0 0 (fun x_10 h_11 => F (some (.inl x_10)) h_11))))) : bz_Call G l (d + 1) kX11_undo [.inr (some a0)] h mc ms F :=
  bz_body (by decide) (by decide) (fun κ hl => g_X11_undo_0 hl a0 h hP)
set_option maxRecDepth 20000 in
set_option maxHeartbeats 4000000 in
theorem g_X11_wageFor_0 {G : bz_G} {κ : bz_K} {l : Launch} {d : Nat} {F : Option bz_V → bz_H → Prop} {bc bs : Nat} (hl : κ.2.1 = l) (a0 : Nat) (x1 : Int32) (r2 : Option Nat) (x3 : Int32) (x4 : Int32) (h : bz_H) (hP : bz_rR h a0 11 0 (fun r_1 => bz_rR h a0 11 0 (fun r_2 => bz_nn r_2 (fun a_3 => bz_rI h a_3 10 14 (fun x_4 => bz_nn r_1 (fun a_7 => bz_rc h a_7 10 (bz_cR G l d kX10_textAt [.inr (some a_7), .inl x_4] h 0 0 (fun r_5 h_6 => (∀ a_8, r_5 = some a_8 → bz_rR h_6 a0 11 0 (fun r_9 => bz_rR h_6 a0 11 7 (fun r_10 => bz_nn r_9 (fun a_13 => bz_rc h_6 a_13 10 (bz_cV G l d kX10_nameRider [.inr (some a_13), .inr r_10, .inl x1, .inr r2] h_6 0 0 (fun h_12 => bz_rR h_12 a0 11 7 (fun r_14 => bz_nn r2 (fun a_15 => bz_rI h_12 a_15 2 3 (fun x_16 => bz_rc h_12 a_15 2 (bz_cI G l d kX2_lateAt [.inr (some a_15), .inl x4] h_12 0 0 (fun x_17 h_18 => bz_nn r_14 (fun a_21 => bz_rc h_18 a_21 0 (bz_cV G l d kX0_putTimes [.inr (some a_21), .inl (x3 - x_16), .inl x_17] h_18 0 0 (fun h_20 => bz_rR h_20 a0 11 7 (fun r_22 => bz_nn r_22 (fun a_25 => bz_rc h_20 a_25 0 (bz_cI G l d kX0_worthOf [.inr (some a_25), .inr (some a_8)] h_20 0 0 (fun x_23 h_24 => F (some (.inl (if 0 < (if x_23 < 9999 then x_23 else 9999) then if x_23 < 9999 then x_23 else 9999 else 0))) h_24)))))))))))))))))) ∧ (r_5 = none → F (some (.inl 0)) h_6))))))))) : bz_J G κ kX11_wageFor (d + 1) F bc bs 0 [some (.inr (some a0)), some (.inl x1), some (.inr r2), some (.inl x3), some (.inl x4), none] [] h := by
  subst hl
  refine bz_aload_n (pc := 0) dX11_wageFor_0 rfl rfl ?_
  refine bz_rw_rR (pc := 1) dX11_wageFor_1 fl_X11_12 hP (fun r_1 hP => ?_)
  refine bz_aload_n (pc := 4) dX11_wageFor_4 rfl rfl ?_
  refine bz_rw_rR (pc := 5) dX11_wageFor_5 fl_X11_12 hP (fun r_2 hP => ?_)
  obtain ⟨a_3, rfl, hP⟩ := hP
  refine bz_rw_rI (pc := 8) dX11_wageFor_8 fl_X11_278 hP (fun x_4 hP => ?_)
  obtain ⟨a_7, rfl, hP⟩ := hP
  refine bz_kRV (as := [.inl x_4]) (st := []) (ci := 10) (pc := 11) dX11_wageFor_11 sc_X10_textAt ml_X11_281 im_X10_textAt se_X10_textAt rfl rfl rfl (by decide) hP (fun r_5 h_6 hP => ?_)
  refine bz_s_astore (pc := 14) dX11_wageFor_14 (by decide) [some (.inr (some a0)), some (.inl x1), some (.inr r2), some (.inl x3), some (.inl x4), some (.inr r_5)] rfl ?_
  refine bz_aload (pc := 16) dX11_wageFor_16 rfl ?_
  refine bz_ifnonnull (tgt := 23) (pc := 18) dX11_wageFor_18 (by decide) (fun a_8 c => ?_) (fun c => ?_)
  · have hP := hP.1 a_8 c
    subst c
    refine bz_aload_n (pc := 23) dX11_wageFor_23 rfl rfl ?_
    refine bz_rw_rR (pc := 24) dX11_wageFor_24 fl_X11_12 hP (fun r_9 hP => ?_)
    refine bz_aload_n (pc := 27) dX11_wageFor_27 rfl rfl ?_
    refine bz_rw_rR (pc := 28) dX11_wageFor_28 fl_X11_57 hP (fun r_10 hP => ?_)
    refine bz_iload_n (pc := 31) dX11_wageFor_31 rfl rfl ?_
    refine bz_aload_n (pc := 32) dX11_wageFor_32 rfl rfl ?_
    obtain ⟨a_13, rfl, hP⟩ := hP
    refine bz_kVV (as := [.inr r_10, .inl x1, .inr r2]) (st := []) (ci := 10) (pc := 33) dX11_wageFor_33 sc_X10_nameRider ml_X11_285 im_X10_nameRider se_X10_nameRider rfl rfl rfl (by decide) hP (fun h_12 hP => ?_)
    refine bz_aload_n (pc := 36) dX11_wageFor_36 rfl rfl ?_
    refine bz_rw_rR (pc := 37) dX11_wageFor_37 fl_X11_57 hP (fun r_14 hP => ?_)
    refine bz_iload_n (pc := 40) dX11_wageFor_40 rfl rfl ?_
    refine bz_aload_n (pc := 41) dX11_wageFor_41 rfl rfl ?_
    obtain ⟨a_15, rfl, hP⟩ := hP
    refine bz_rw_rI (pc := 42) dX11_wageFor_42 fl_X11_147 hP (fun x_16 hP => ?_)
    refine bz_isub (pc := 45) dX11_wageFor_45 ?_
    refine bz_aload_n (pc := 46) dX11_wageFor_46 rfl rfl ?_
    refine bz_iload (pc := 47) dX11_wageFor_47 rfl ?_
    refine bz_kIV (as := [.inl x4]) (st := [.inl (x3 - x_16), .inr r_14]) (ci := 2) (pc := 49) dX11_wageFor_49 sc_X2_lateAt ml_X11_431 im_X2_lateAt se_X2_lateAt rfl rfl rfl (by decide) hP (fun x_17 h_18 hP => ?_)
    obtain ⟨a_21, rfl, hP⟩ := hP
    refine bz_kVV (as := [.inl (x3 - x_16), .inl x_17]) (st := []) (ci := 0) (pc := 52) dX11_wageFor_52 sc_X0_putTimes ml_X11_289 im_X0_putTimes se_X0_putTimes rfl rfl rfl (by decide) hP (fun h_20 hP => ?_)
    refine bz_iconst (v := 0) (pc := 55) dX11_wageFor_55 (by decide) ?_
    refine bz_sipush (v := 9999) (pc := 56) dX11_wageFor_56 (by decide) ?_
    refine bz_aload_n (pc := 59) dX11_wageFor_59 rfl rfl ?_
    refine bz_rw_rR (pc := 60) dX11_wageFor_60 fl_X11_57 hP (fun r_22 hP => ?_)
    refine bz_aload (pc := 63) dX11_wageFor_63 rfl ?_
    obtain ⟨a_25, rfl, hP⟩ := hP
    refine bz_kIV (as := [.inr (some a_8)]) (st := [.inl 9999, .inl 0]) (ci := 0) (pc := 65) dX11_wageFor_65 sc_X0_worthOf ml_X11_292 im_X0_worthOf se_X0_worthOf rfl rfl rfl (by decide) hP (fun x_23 h_24 hP => ?_)
    refine bz_mmin (pc := 68) dX11_wageFor_68 ml_X11_410 mt_min mt_init mt_code_min (Nat.succ_pos d) (by decide) ?_
    refine bz_mmax (pc := 71) dX11_wageFor_71 ml_X11_329 mt_max mt_init mt_code_max (Nat.succ_pos d) (by decide) ?_
    exact bz_retI (pc := 74) dX11_wageFor_74 rfl rfl hP
  · have hP := hP.2 c
    subst c
    refine bz_iconst (v := 0) (pc := 21) dX11_wageFor_21 (by decide) ?_
    exact bz_retI (pc := 22) dX11_wageFor_22 rfl rfl hP
theorem m_X11_wageFor {G : bz_G} {l : Launch} {d mc ms : Nat} {F : Option bz_V → bz_H → Prop} (a0 : Nat) (x1 : Int32) (r2 : Option Nat) (x3 : Int32) (x4 : Int32) (h : bz_H) (hP : bz_rR h a0 11 0 (fun r_1 => bz_rR h a0 11 0 (fun r_2 => bz_nn r_2 (fun a_3 => bz_rI h a_3 10 14 (fun x_4 => bz_nn r_1 (fun a_7 => bz_rc h a_7 10 (bz_cR G l d kX10_textAt [.inr (some a_7), .inl x_4] h 0 0 (fun r_5 h_6 => (∀ a_8, r_5 = some a_8 → bz_rR h_6 a0 11 0 (fun r_9 => bz_rR h_6 a0 11 7 (fun r_10 => bz_nn r_9 (fun a_13 => bz_rc h_6 a_13 10 (bz_cV G l d kX10_nameRider [.inr (some a_13), .inr r_10, .inl x1, .inr r2] h_6 0 0 (fun h_12 => bz_rR h_12 a0 11 7 (fun r_14 => bz_nn r2 (fun a_15 => bz_rI h_12 a_15 2 3 (fun x_16 => bz_rc h_12 a_15 2 (bz_cI G l d kX2_lateAt [.inr (some a_15), .inl x4] h_12 0 0 (fun x_17 h_18 => bz_nn r_14 (fun a_21 => bz_rc h_18 a_21 0 (bz_cV G l d kX0_putTimes [.inr (some a_21), .inl (x3 - x_16), .inl x_17] h_18 0 0 (fun h_20 => bz_rR h_20 a0 11 7 (fun r_22 => bz_nn r_22 (fun a_25 => bz_rc h_20 a_25 0 (bz_cI G l d kX0_worthOf [.inr (some a_25), .inr (some a_8)] h_20 0 0 (fun x_23 h_24 => F (some (.inl (if 0 < (if x_23 < 9999 then x_23 else 9999) then if x_23 < 9999 then x_23 else 9999 else 0))) h_24)))))))))))))))))) ∧ (r_5 = none → F (some (.inl 0)) h_6))))))))) : bz_Call G l (d + 1) kX11_wageFor [.inr (some a0), .inl x1, .inr r2, .inl x3, .inl x4] h mc ms F :=
  bz_body (by decide) (by decide) (fun κ hl => g_X11_wageFor_0 hl a0 x1 r2 x3 x4 h hP)
set_option maxRecDepth 20000 in
set_option maxHeartbeats 4000000 in
theorem g_X11_way_0 {G : bz_G} {κ : bz_K} {l : Launch} {d : Nat} {F : Option bz_V → bz_H → Prop} {bc bs : Nat} (hl : κ.2.1 = l) (a0 : Nat) (x1 : Int32) (x2 : Int32) (h : bz_H) (hP : bz_cI G l d kX11_isCrossing [.inl x1] h 0 0 (fun x_1 h_2 => (x_1 = 0 → bz_rc h_2 a0 11 (bz_cI G l d kX11_finding [.inr (some a0), .inl (-1000001)] h_2 0 0 (fun x_3 h_4 => F (some (.inl x_3)) h_4))) ∧ (¬ (x_1 = 0) → bz_cI G l d kX11_isCrossing [.inl x2] h_2 0 0 (fun x_5 h_6 => (¬ x_5 = 0 → bz_rR h_6 a0 11 0 (fun r_7 => bz_nn r_7 (fun a_8 => bz_rR h_6 a_8 10 0 (fun r_9 => bz_nn r_9 (fun a_12 => bz_rc h_6 a_12 8 (bz_cI G l d kX8_wayBetween [.inr (some a_12), .inl x1, .inl x2] h_6 0 0 (fun x_10 h_11 => (¬ x_10 = (-1) → F (some (.inl x_10)) h_11) ∧ (x_10 = (-1) → bz_rc h_11 a0 11 (bz_cI G l d kX11_finding [.inr (some a0), .inl (-1000004)] h_11 0 0 (fun x_13 h_14 => F (some (.inl x_13)) h_14)))))))))) ∧ (x_5 = 0 → bz_rc h_6 a0 11 (bz_cI G l d kX11_finding [.inr (some a0), .inl (-1000001)] h_6 0 0 (fun x_15 h_16 => F (some (.inl x_15)) h_16))))))) : bz_J G κ kX11_way (d + 1) F bc bs 0 [some (.inr (some a0)), some (.inl x1), some (.inl x2), none] [] h := by
  subst hl
  refine bz_iload_n (pc := 0) dX11_way_0 rfl rfl ?_
  refine bz_kIS (as := [.inl x1]) (st := []) (pc := 1) dX11_way_1 sc_X11_isCrossing ml_X11_70 ss_X11_isCrossing rfl (by decide) hP (fun x_1 h_2 hP => ?_)
  refine bz_if_eq (tgt := 14) (pc := 4) dX11_way_4 (by decide) (fun c => ?_) (fun c => ?_)
  · have hP := hP.1 c
    refine bz_aload_n (pc := 14) dX11_way_14 rfl rfl ?_
    refine bz_ldc (pc := 15) dX11_way_15 ct_X11_78 ?_
    refine bz_kIV (as := [.inl (-1000001)]) (st := []) (ci := 11) (pc := 17) dX11_way_17 sc_X11_finding ml_X11_79 im_X11_finding se_X11_finding rfl rfl rfl (by decide) hP (fun x_3 h_4 hP => ?_)
    exact bz_retI (pc := 20) dX11_way_20 rfl rfl hP
  · have hP := hP.2 c
    refine bz_iload_n (pc := 7) dX11_way_7 rfl rfl ?_
    refine bz_kIS (as := [.inl x2]) (st := []) (pc := 8) dX11_way_8 sc_X11_isCrossing ml_X11_70 ss_X11_isCrossing rfl (by decide) hP (fun x_5 h_6 hP => ?_)
    refine bz_if_ne (tgt := 21) (pc := 11) dX11_way_11 (by decide) (fun c => ?_) (fun c => ?_)
    · have hP := hP.1 c
      refine bz_aload_n (pc := 21) dX11_way_21 rfl rfl ?_
      refine bz_rw_rR (pc := 22) dX11_way_22 fl_X11_12 hP (fun r_7 hP => ?_)
      obtain ⟨a_8, rfl, hP⟩ := hP
      refine bz_rw_rR (pc := 25) dX11_way_25 fl_X11_43 hP (fun r_9 hP => ?_)
      refine bz_iload_n (pc := 28) dX11_way_28 rfl rfl ?_
      refine bz_iload_n (pc := 29) dX11_way_29 rfl rfl ?_
      obtain ⟨a_12, rfl, hP⟩ := hP
      refine bz_kIV (as := [.inl x1, .inl x2]) (st := []) (ci := 8) (pc := 30) dX11_way_30 sc_X8_wayBetween ml_X11_99 im_X8_wayBetween se_X8_wayBetween rfl rfl rfl (by decide) hP (fun x_10 h_11 hP => ?_)
      refine bz_s_istore_n (pc := 33) dX11_way_33 rfl (by decide) [some (.inr (some a0)), some (.inl x1), some (.inl x2), some (.inl x_10)] rfl ?_
      refine bz_iload_n (pc := 34) dX11_way_34 rfl rfl ?_
      refine bz_iconst (v := (-1)) (pc := 35) dX11_way_35 (by decide) ?_
      refine bz_icmp_ne (tgt := 48) (pc := 36) dX11_way_36 (by decide) (fun c => ?_) (fun c => ?_)
      · have hP := hP.1 c
        refine bz_iload_n (pc := 48) dX11_way_48 rfl rfl ?_
        exact bz_retI (pc := 49) dX11_way_49 rfl rfl hP
      · have hP := hP.2 c
        refine bz_aload_n (pc := 39) dX11_way_39 rfl rfl ?_
        refine bz_ldc (pc := 40) dX11_way_40 ct_X11_102 ?_
        refine bz_kIV (as := [.inl (-1000004)]) (st := []) (ci := 11) (pc := 42) dX11_way_42 sc_X11_finding ml_X11_79 im_X11_finding se_X11_finding rfl rfl rfl (by decide) hP (fun x_13 h_14 hP => ?_)
        refine bz_goto (tgt := 49) (pc := 45) dX11_way_45 (by decide) ?_
        exact bz_retI (pc := 49) dX11_way_49 rfl rfl hP
    · have hP := hP.2 c
      refine bz_aload_n (pc := 14) dX11_way_14 rfl rfl ?_
      refine bz_ldc (pc := 15) dX11_way_15 ct_X11_78 ?_
      refine bz_kIV (as := [.inl (-1000001)]) (st := []) (ci := 11) (pc := 17) dX11_way_17 sc_X11_finding ml_X11_79 im_X11_finding se_X11_finding rfl rfl rfl (by decide) hP (fun x_15 h_16 hP => ?_)
      exact bz_retI (pc := 20) dX11_way_20 rfl rfl hP
theorem m_X11_way {G : bz_G} {l : Launch} {d mc ms : Nat} {F : Option bz_V → bz_H → Prop} (a0 : Nat) (x1 : Int32) (x2 : Int32) (h : bz_H) (hP : bz_cI G l d kX11_isCrossing [.inl x1] h 0 0 (fun x_1 h_2 => (x_1 = 0 → bz_rc h_2 a0 11 (bz_cI G l d kX11_finding [.inr (some a0), .inl (-1000001)] h_2 0 0 (fun x_3 h_4 => F (some (.inl x_3)) h_4))) ∧ (¬ (x_1 = 0) → bz_cI G l d kX11_isCrossing [.inl x2] h_2 0 0 (fun x_5 h_6 => (¬ x_5 = 0 → bz_rR h_6 a0 11 0 (fun r_7 => bz_nn r_7 (fun a_8 => bz_rR h_6 a_8 10 0 (fun r_9 => bz_nn r_9 (fun a_12 => bz_rc h_6 a_12 8 (bz_cI G l d kX8_wayBetween [.inr (some a_12), .inl x1, .inl x2] h_6 0 0 (fun x_10 h_11 => (¬ x_10 = (-1) → F (some (.inl x_10)) h_11) ∧ (x_10 = (-1) → bz_rc h_11 a0 11 (bz_cI G l d kX11_finding [.inr (some a0), .inl (-1000004)] h_11 0 0 (fun x_13 h_14 => F (some (.inl x_13)) h_14)))))))))) ∧ (x_5 = 0 → bz_rc h_6 a0 11 (bz_cI G l d kX11_finding [.inr (some a0), .inl (-1000001)] h_6 0 0 (fun x_15 h_16 => F (some (.inl x_15)) h_16))))))) : bz_Call G l (d + 1) kX11_way [.inr (some a0), .inl x1, .inl x2] h mc ms F :=
  bz_body (by decide) (by decide) (fun κ hl => g_X11_way_0 hl a0 x1 x2 h hP)
set_option maxRecDepth 20000 in
set_option maxHeartbeats 4000000 in
theorem g_X11_whom_0 {G : bz_G} {κ : bz_K} {l : Launch} {d : Nat} {F : Option bz_V → bz_H → Prop} {bc bs : Nat} (hl : κ.2.1 = l) (a0 : Nat) (x1 : Int32) (x2 : Int32) (h : bz_H) (hP : bz_rR h a0 11 0 (fun r_1 => bz_nn r_1 (fun a_4 => bz_rc h a_4 10 (bz_cR G l d kX10_textAt [.inr (some a_4), .inl x1] h 0 0 (fun r_2 h_3 => (r_2 = none → bz_rc h_3 a0 11 (bz_cI G l d kX11_finding [.inr (some a0), .inl (-1000001)] h_3 0 0 (fun x_6 h_7 => F (some (.inl x_6)) h_7))) ∧ (∀ a_5, r_2 = some a_5 → bz_rR h_3 a0 11 0 (fun r_8 => bz_nn r_8 (fun a_11 => bz_rc h_3 a_11 10 (bz_cR G l d kX10_orderAt [.inr (some a_11), .inl x2] h_3 0 0 (fun r_9 h_10 => (∀ a_12, r_9 = some a_12 → bz_rR h_10 a0 11 8 (fun r_15 => bz_nn r_15 (fun a_18 => bz_rc h_10 a_18 1 (bz_cV G l d kX1_passBy [.inr (some a_18), .inr (some a_5)] h_10 0 0 (fun h_17 => bz_rR h_17 a0 11 8 (fun r_19 => bz_nn r_19 (fun a_20 => bz_rR h_17 a_20 1 6 (fun r_21 => bz_nn r_21 (fun a_22 => bz_rA h_17 a_22 x2 (fun x_23 => (¬ x_23 = (-1) → F (some (.inl x_23)) h_17) ∧ (x_23 = (-1) → bz_rc h_17 a0 11 (bz_cI G l d kX11_finding [.inr (some a0), .inl (-1000004)] h_17 0 0 (fun x_24 h_25 => F (some (.inl x_24)) h_25))))))))))))) ∧ (r_9 = none → bz_rc h_10 a0 11 (bz_cI G l d kX11_finding [.inr (some a0), .inl (-1000001)] h_10 0 0 (fun x_13 h_14 => F (some (.inl x_13)) h_14))))))))))))) : bz_J G κ kX11_whom (d + 1) F bc bs 0 [some (.inr (some a0)), some (.inl x1), some (.inl x2), none, none] [] h := by
  subst hl
  refine bz_aload_n (pc := 0) dX11_whom_0 rfl rfl ?_
  refine bz_rw_rR (pc := 1) dX11_whom_1 fl_X11_12 hP (fun r_1 hP => ?_)
  refine bz_iload_n (pc := 4) dX11_whom_4 rfl rfl ?_
  obtain ⟨a_4, rfl, hP⟩ := hP
  refine bz_kRV (as := [.inl x1]) (st := []) (ci := 10) (pc := 5) dX11_whom_5 sc_X10_textAt ml_X11_281 im_X10_textAt se_X10_textAt rfl rfl rfl (by decide) hP (fun r_2 h_3 hP => ?_)
  refine bz_s_astore_n (pc := 8) dX11_whom_8 rfl (by decide) [some (.inr (some a0)), some (.inl x1), some (.inl x2), some (.inr r_2), none] rfl ?_
  refine bz_aload_n (pc := 9) dX11_whom_9 rfl rfl ?_
  refine bz_ifnull (tgt := 24) (pc := 10) dX11_whom_10 (by decide) (fun c => ?_) (fun a_5 c => ?_)
  · have hP := hP.1 c
    subst c
    refine bz_aload_n (pc := 24) dX11_whom_24 rfl rfl ?_
    refine bz_ldc (pc := 25) dX11_whom_25 ct_X11_78 ?_
    refine bz_kIV (as := [.inl (-1000001)]) (st := []) (ci := 11) (pc := 27) dX11_whom_27 sc_X11_finding ml_X11_79 im_X11_finding se_X11_finding rfl rfl rfl (by decide) hP (fun x_6 h_7 hP => ?_)
    exact bz_retI (pc := 30) dX11_whom_30 rfl rfl hP
  · have hP := hP.2 a_5 c
    subst c
    refine bz_aload_n (pc := 13) dX11_whom_13 rfl rfl ?_
    refine bz_rw_rR (pc := 14) dX11_whom_14 fl_X11_12 hP (fun r_8 hP => ?_)
    refine bz_iload_n (pc := 17) dX11_whom_17 rfl rfl ?_
    obtain ⟨a_11, rfl, hP⟩ := hP
    refine bz_kRV (as := [.inl x2]) (st := []) (ci := 10) (pc := 18) dX11_whom_18 sc_X10_orderAt ml_X11_132 im_X10_orderAt se_X10_orderAt rfl rfl rfl (by decide) hP (fun r_9 h_10 hP => ?_)
    refine bz_ifnonnull (tgt := 31) (pc := 21) dX11_whom_21 (by decide) (fun a_12 c => ?_) (fun c => ?_)
    · have hP := hP.1 a_12 c
      subst c
      refine bz_aload_n (pc := 31) dX11_whom_31 rfl rfl ?_
      refine bz_rw_rR (pc := 32) dX11_whom_32 fl_X11_66 hP (fun r_15 hP => ?_)
      refine bz_aload_n (pc := 35) dX11_whom_35 rfl rfl ?_
      obtain ⟨a_18, rfl, hP⟩ := hP
      refine bz_kVV (as := [.inr (some a_5)]) (st := []) (ci := 1) (pc := 36) dX11_whom_36 sc_X1_passBy ml_X11_352 im_X1_passBy se_X1_passBy rfl rfl rfl (by decide) hP (fun h_17 hP => ?_)
      refine bz_aload_n (pc := 39) dX11_whom_39 rfl rfl ?_
      refine bz_rw_rR (pc := 40) dX11_whom_40 fl_X11_66 hP (fun r_19 hP => ?_)
      obtain ⟨a_20, rfl, hP⟩ := hP
      refine bz_rw_rR (pc := 43) dX11_whom_43 fl_X11_368 hP (fun r_21 hP => ?_)
      refine bz_iload_n (pc := 46) dX11_whom_46 rfl rfl ?_
      obtain ⟨a_22, rfl, hP⟩ := hP
      refine bz_rw_rA (pc := 47) dX11_whom_47 hP (fun x_23 hP => ?_)
      refine bz_s_istore (pc := 48) dX11_whom_48 (by decide) [some (.inr (some a0)), some (.inl x1), some (.inl x2), some (.inr (some a_5)), some (.inl x_23)] rfl ?_
      refine bz_iload (pc := 50) dX11_whom_50 rfl ?_
      refine bz_iconst (v := (-1)) (pc := 52) dX11_whom_52 (by decide) ?_
      refine bz_icmp_ne (tgt := 65) (pc := 53) dX11_whom_53 (by decide) (fun c => ?_) (fun c => ?_)
      · have hP := hP.1 c
        refine bz_iload (pc := 65) dX11_whom_65 rfl ?_
        exact bz_retI (pc := 67) dX11_whom_67 rfl rfl hP
      · have hP := hP.2 c
        refine bz_aload_n (pc := 56) dX11_whom_56 rfl rfl ?_
        refine bz_ldc (pc := 57) dX11_whom_57 ct_X11_102 ?_
        refine bz_kIV (as := [.inl (-1000004)]) (st := []) (ci := 11) (pc := 59) dX11_whom_59 sc_X11_finding ml_X11_79 im_X11_finding se_X11_finding rfl rfl rfl (by decide) hP (fun x_24 h_25 hP => ?_)
        refine bz_goto (tgt := 67) (pc := 62) dX11_whom_62 (by decide) ?_
        exact bz_retI (pc := 67) dX11_whom_67 rfl rfl hP
    · have hP := hP.2 c
      subst c
      refine bz_aload_n (pc := 24) dX11_whom_24 rfl rfl ?_
      refine bz_ldc (pc := 25) dX11_whom_25 ct_X11_78 ?_
      refine bz_kIV (as := [.inl (-1000001)]) (st := []) (ci := 11) (pc := 27) dX11_whom_27 sc_X11_finding ml_X11_79 im_X11_finding se_X11_finding rfl rfl rfl (by decide) hP (fun x_13 h_14 hP => ?_)
      exact bz_retI (pc := 30) dX11_whom_30 rfl rfl hP
theorem m_X11_whom {G : bz_G} {l : Launch} {d mc ms : Nat} {F : Option bz_V → bz_H → Prop} (a0 : Nat) (x1 : Int32) (x2 : Int32) (h : bz_H) (hP : bz_rR h a0 11 0 (fun r_1 => bz_nn r_1 (fun a_4 => bz_rc h a_4 10 (bz_cR G l d kX10_textAt [.inr (some a_4), .inl x1] h 0 0 (fun r_2 h_3 => (r_2 = none → bz_rc h_3 a0 11 (bz_cI G l d kX11_finding [.inr (some a0), .inl (-1000001)] h_3 0 0 (fun x_6 h_7 => F (some (.inl x_6)) h_7))) ∧ (∀ a_5, r_2 = some a_5 → bz_rR h_3 a0 11 0 (fun r_8 => bz_nn r_8 (fun a_11 => bz_rc h_3 a_11 10 (bz_cR G l d kX10_orderAt [.inr (some a_11), .inl x2] h_3 0 0 (fun r_9 h_10 => (∀ a_12, r_9 = some a_12 → bz_rR h_10 a0 11 8 (fun r_15 => bz_nn r_15 (fun a_18 => bz_rc h_10 a_18 1 (bz_cV G l d kX1_passBy [.inr (some a_18), .inr (some a_5)] h_10 0 0 (fun h_17 => bz_rR h_17 a0 11 8 (fun r_19 => bz_nn r_19 (fun a_20 => bz_rR h_17 a_20 1 6 (fun r_21 => bz_nn r_21 (fun a_22 => bz_rA h_17 a_22 x2 (fun x_23 => (¬ x_23 = (-1) → F (some (.inl x_23)) h_17) ∧ (x_23 = (-1) → bz_rc h_17 a0 11 (bz_cI G l d kX11_finding [.inr (some a0), .inl (-1000004)] h_17 0 0 (fun x_24 h_25 => F (some (.inl x_24)) h_25))))))))))))) ∧ (r_9 = none → bz_rc h_10 a0 11 (bz_cI G l d kX11_finding [.inr (some a0), .inl (-1000001)] h_10 0 0 (fun x_13 h_14 => F (some (.inl x_13)) h_14))))))))))))) : bz_Call G l (d + 1) kX11_whom [.inr (some a0), .inl x1, .inl x2] h mc ms F :=
  bz_body (by decide) (by decide) (fun κ hl => g_X11_whom_0 hl a0 x1 x2 h hP)
set_option maxRecDepth 20000 in
set_option maxHeartbeats 4000000 in
theorem g_X11_wipe_0 {G : bz_G} {κ : bz_K} {l : Launch} {d : Nat} {F : Option bz_V → bz_H → Prop} {bc bs : Nat} (hl : κ.2.1 = l) (a0 : Nat) (h : bz_H) (hP : bz_rR h a0 11 3 (fun r_1 => bz_nn r_1 (fun a_2 => bz_rI h a_2 6 1 (fun x_3 => bz_rR h a0 11 3 (fun r_4 => bz_nn r_4 (fun a_5 => bz_wI h a_5 6 1 0 (fun h_6 => F (some (.inl x_3)) h_6))))))) : bz_J G κ kX11_wipe (d + 1) F bc bs 0 [some (.inr (some a0)), none] [] h := by
  subst hl
  refine bz_aload_n (pc := 0) dX11_wipe_0 rfl rfl ?_
  refine bz_rw_rR (pc := 1) dX11_wipe_1 fl_X11_26 hP (fun r_1 hP => ?_)
  obtain ⟨a_2, rfl, hP⟩ := hP
  refine bz_rw_rI (pc := 4) dX11_wipe_4 fl_X11_240 hP (fun x_3 hP => ?_)
  refine bz_s_istore_n (pc := 7) dX11_wipe_7 rfl (by decide) [some (.inr (some a0)), some (.inl x_3)] rfl ?_
  refine bz_aload_n (pc := 8) dX11_wipe_8 rfl rfl ?_
  refine bz_rw_rR (pc := 9) dX11_wipe_9 fl_X11_26 hP (fun r_4 hP => ?_)
  refine bz_iconst (v := 0) (pc := 12) dX11_wipe_12 (by decide) ?_
  obtain ⟨a_5, rfl, hP⟩ := hP
  refine bz_rw_wI (pc := 13) dX11_wipe_13 fl_X11_240 (fun q h9 => by cases h9; rfl) rfl hP (fun h_6 hP => ?_)
  refine bz_iload_n (pc := 16) dX11_wipe_16 rfl rfl ?_
  exact bz_retI (pc := 17) dX11_wipe_17 rfl rfl hP
theorem m_X11_wipe {G : bz_G} {l : Launch} {d mc ms : Nat} {F : Option bz_V → bz_H → Prop} (a0 : Nat) (h : bz_H) (hP : bz_rR h a0 11 3 (fun r_1 => bz_nn r_1 (fun a_2 => bz_rI h a_2 6 1 (fun x_3 => bz_rR h a0 11 3 (fun r_4 => bz_nn r_4 (fun a_5 => bz_wI h a_5 6 1 0 (fun h_6 => F (some (.inl x_3)) h_6))))))) : bz_Call G l (d + 1) kX11_wipe [.inr (some a0)] h mc ms F :=
  bz_body (by decide) (by decide) (fun κ hl => g_X11_wipe_0 hl a0 h hP)
set_option maxRecDepth 20000 in
set_option maxHeartbeats 4000000 in
theorem g_X11_write_0 {G : bz_G} {κ : bz_K} {l : Launch} {d : Nat} {F : Option bz_V → bz_H → Prop} {bc bs : Nat} (hl : κ.2.1 = l) (a0 : Nat) (x1 : Int32) (x2 : Int32) (x3 : Int32) (h : bz_H) (hP : bz_rc h a0 11 (bz_cR G l d kX11_sheetAt [.inr (some a0), .inl x1] h 0 0 (fun r_1 h_2 => (∀ a_3, r_1 = some a_3 → bz_rc h_2 a_3 5 (bz_cI G l d kX5_isMissing [.inr (some a_3)] h_2 0 0 (fun x_6 h_7 => (x_6 = 0 → bz_rI h_7 a_3 5 2 (fun x_8 => bz_cI G l d kX11_isWithin [.inl x2, .inl 0, .inl (x_8 - 1)] h_7 0 0 (fun x_9 h_10 => (¬ x_9 = 0 → bz_rc h_10 a_3 5 (bz_cV G l d kX5_put [.inr (some a_3), .inl x2, .inl x3] h_10 0 0 (fun h_12 => F (some (.inl 1)) h_12))) ∧ (x_9 = 0 → bz_rc h_10 a0 11 (bz_cI G l d kX11_finding [.inr (some a0), .inl (-1000001)] h_10 0 0 (fun x_13 h_14 => F (some (.inl x_13)) h_14)))))) ∧ (¬ (x_6 = 0) → bz_rc h_7 a0 11 (bz_cI G l d kX11_finding [.inr (some a0), .inl (-1000006)] h_7 0 0 (fun x_15 h_16 => F (some (.inl x_15)) h_16)))))) ∧ (r_1 = none → bz_rc h_2 a0 11 (bz_cI G l d kX11_finding [.inr (some a0), .inl (-1000001)] h_2 0 0 (fun x_4 h_5 => F (some (.inl x_4)) h_5)))))) : bz_J G κ kX11_write (d + 1) F bc bs 0 [some (.inr (some a0)), some (.inl x1), some (.inl x2), some (.inl x3), none] [] h := by
  subst hl
  refine bz_aload_n (pc := 0) dX11_write_0 rfl rfl ?_
  refine bz_iload_n (pc := 1) dX11_write_1 rfl rfl ?_
  refine bz_kRV (as := [.inl x1]) (st := []) (ci := 11) (pc := 2) dX11_write_2 sc_X11_sheetAt ml_X11_380 im_X11_sheetAt se_X11_sheetAt rfl rfl rfl (by decide) hP (fun r_1 h_2 hP => ?_)
  refine bz_s_astore (pc := 5) dX11_write_5 (by decide) [some (.inr (some a0)), some (.inl x1), some (.inl x2), some (.inl x3), some (.inr r_1)] rfl ?_
  refine bz_aload (pc := 7) dX11_write_7 rfl ?_
  refine bz_ifnonnull (tgt := 19) (pc := 9) dX11_write_9 (by decide) (fun a_3 c => ?_) (fun c => ?_)
  · have hP := hP.1 a_3 c
    subst c
    refine bz_aload (pc := 19) dX11_write_19 rfl ?_
    refine bz_kIV (as := []) (st := []) (ci := 5) (pc := 21) dX11_write_21 sc_X5_isMissing ml_X11_389 im_X5_isMissing se_X5_isMissing rfl rfl rfl (by decide) hP (fun x_6 h_7 hP => ?_)
    refine bz_if_eq (tgt := 35) (pc := 24) dX11_write_24 (by decide) (fun c => ?_) (fun c => ?_)
    · have hP := hP.1 c
      refine bz_iload_n (pc := 35) dX11_write_35 rfl rfl ?_
      refine bz_iconst (v := 0) (pc := 36) dX11_write_36 (by decide) ?_
      refine bz_aload (pc := 37) dX11_write_37 rfl ?_
      refine bz_rw_rI (pc := 39) dX11_write_39 fl_X11_388 hP (fun x_8 hP => ?_)
      refine bz_iconst (v := 1) (pc := 42) dX11_write_42 (by decide) ?_
      refine bz_isub (pc := 43) dX11_write_43 ?_
      refine bz_kIS (as := [.inl x2, .inl 0, .inl (x_8 - 1)]) (st := []) (pc := 44) dX11_write_44 sc_X11_isWithin ml_X11_74 ss_X11_isWithin rfl (by decide) hP (fun x_9 h_10 hP => ?_)
      refine bz_if_ne (tgt := 57) (pc := 47) dX11_write_47 (by decide) (fun c => ?_) (fun c => ?_)
      · have hP := hP.1 c
        refine bz_aload (pc := 57) dX11_write_57 rfl ?_
        refine bz_iload_n (pc := 59) dX11_write_59 rfl rfl ?_
        refine bz_iload_n (pc := 60) dX11_write_60 rfl rfl ?_
        refine bz_kVV (as := [.inl x2, .inl x3]) (st := []) (ci := 5) (pc := 61) dX11_write_61 sc_X5_put ml_X11_392 im_X5_put se_X5_put rfl rfl rfl (by decide) hP (fun h_12 hP => ?_)
        refine bz_iconst (v := 1) (pc := 64) dX11_write_64 (by decide) ?_
        exact bz_retI (pc := 65) dX11_write_65 rfl rfl hP
      · have hP := hP.2 c
        refine bz_aload_n (pc := 50) dX11_write_50 rfl rfl ?_
        refine bz_ldc (pc := 51) dX11_write_51 ct_X11_78 ?_
        refine bz_kIV (as := [.inl (-1000001)]) (st := []) (ci := 11) (pc := 53) dX11_write_53 sc_X11_finding ml_X11_79 im_X11_finding se_X11_finding rfl rfl rfl (by decide) hP (fun x_13 h_14 hP => ?_)
        exact bz_retI (pc := 56) dX11_write_56 rfl rfl hP
    · have hP := hP.2 c
      refine bz_aload_n (pc := 27) dX11_write_27 rfl rfl ?_
      refine bz_ldcw (pc := 28) dX11_write_28 ct_X11_374 ?_
      refine bz_kIV (as := [.inl (-1000006)]) (st := []) (ci := 11) (pc := 31) dX11_write_31 sc_X11_finding ml_X11_79 im_X11_finding se_X11_finding rfl rfl rfl (by decide) hP (fun x_15 h_16 hP => ?_)
      exact bz_retI (pc := 34) dX11_write_34 rfl rfl hP
  · have hP := hP.2 c
    subst c
    refine bz_aload_n (pc := 12) dX11_write_12 rfl rfl ?_
    refine bz_ldc (pc := 13) dX11_write_13 ct_X11_78 ?_
    refine bz_kIV (as := [.inl (-1000001)]) (st := []) (ci := 11) (pc := 15) dX11_write_15 sc_X11_finding ml_X11_79 im_X11_finding se_X11_finding rfl rfl rfl (by decide) hP (fun x_4 h_5 hP => ?_)
    exact bz_retI (pc := 18) dX11_write_18 rfl rfl hP
theorem m_X11_write {G : bz_G} {l : Launch} {d mc ms : Nat} {F : Option bz_V → bz_H → Prop} (a0 : Nat) (x1 : Int32) (x2 : Int32) (x3 : Int32) (h : bz_H) (hP : bz_rc h a0 11 (bz_cR G l d kX11_sheetAt [.inr (some a0), .inl x1] h 0 0 (fun r_1 h_2 => (∀ a_3, r_1 = some a_3 → bz_rc h_2 a_3 5 (bz_cI G l d kX5_isMissing [.inr (some a_3)] h_2 0 0 (fun x_6 h_7 => (x_6 = 0 → bz_rI h_7 a_3 5 2 (fun x_8 => bz_cI G l d kX11_isWithin [.inl x2, .inl 0, .inl (x_8 - 1)] h_7 0 0 (fun x_9 h_10 => (¬ x_9 = 0 → bz_rc h_10 a_3 5 (bz_cV G l d kX5_put [.inr (some a_3), .inl x2, .inl x3] h_10 0 0 (fun h_12 => F (some (.inl 1)) h_12))) ∧ (x_9 = 0 → bz_rc h_10 a0 11 (bz_cI G l d kX11_finding [.inr (some a0), .inl (-1000001)] h_10 0 0 (fun x_13 h_14 => F (some (.inl x_13)) h_14)))))) ∧ (¬ (x_6 = 0) → bz_rc h_7 a0 11 (bz_cI G l d kX11_finding [.inr (some a0), .inl (-1000006)] h_7 0 0 (fun x_15 h_16 => F (some (.inl x_15)) h_16)))))) ∧ (r_1 = none → bz_rc h_2 a0 11 (bz_cI G l d kX11_finding [.inr (some a0), .inl (-1000001)] h_2 0 0 (fun x_4 h_5 => F (some (.inl x_4)) h_5)))))) : bz_Call G l (d + 1) kX11_write [.inr (some a0), .inl x1, .inl x2, .inl x3] h mc ms F :=
  bz_body (by decide) (by decide) (fun κ hl => g_X11_write_0 hl a0 x1 x2 x3 h hP)
set_option maxRecDepth 20000 in
set_option maxHeartbeats 4000000 in
theorem g_X11_zone_0 {G : bz_G} {κ : bz_K} {l : Launch} {d : Nat} {F : Option bz_V → bz_H → Prop} {bc bs : Nat} (hl : κ.2.1 = l) (a0 : Nat) (x1 : Int32) (x2 : Int32) (h : bz_H) (hP : bz_cI G l d kX11_isWithin [.inl x1, .inl 0, .inl 3] h 0 0 (fun x_1 h_2 => (x_1 = 0 → bz_rc h_2 a0 11 (bz_cI G l d kX11_finding [.inr (some a0), .inl (-1000001)] h_2 0 0 (fun x_3 h_4 => F (some (.inl x_3)) h_4))) ∧ (¬ (x_1 = 0) → bz_cI G l d kX11_isWithin [.inl x2, .inl 0, .inl 3] h_2 0 0 (fun x_5 h_6 => (¬ x_5 = 0 → bz_J G κ kX11_zone (d + 1) F bc bs 41 [some (.inr (some a0)), some (.inl x1), some (.inl x2), some (.inl (if x2 = 0 then 0 else 1)), some (.inl 0), some (.inl 0), none] [] h_6) ∧ (x_5 = 0 → bz_rc h_6 a0 11 (bz_cI G l d kX11_finding [.inr (some a0), .inl (-1000001)] h_6 0 0 (fun x_7 h_8 => F (some (.inl x_7)) h_8))))))) : bz_J G κ kX11_zone (d + 1) F bc bs 0 [some (.inr (some a0)), some (.inl x1), some (.inl x2), none, none, none, none] [] h := by
  subst hl
  refine bz_iload_n (pc := 0) dX11_zone_0 rfl rfl ?_
  refine bz_iconst (v := 0) (pc := 1) dX11_zone_1 (by decide) ?_
  refine bz_iconst (v := 3) (pc := 2) dX11_zone_2 (by decide) ?_
  refine bz_kIS (as := [.inl x1, .inl 0, .inl 3]) (st := []) (pc := 3) dX11_zone_3 sc_X11_isWithin ml_X11_74 ss_X11_isWithin rfl (by decide) hP (fun x_1 h_2 hP => ?_)
  refine bz_if_eq (tgt := 18) (pc := 6) dX11_zone_6 (by decide) (fun c => ?_) (fun c => ?_)
  · have hP := hP.1 c
    refine bz_aload_n (pc := 18) dX11_zone_18 rfl rfl ?_
    refine bz_ldc (pc := 19) dX11_zone_19 ct_X11_78 ?_
    refine bz_kIV (as := [.inl (-1000001)]) (st := []) (ci := 11) (pc := 21) dX11_zone_21 sc_X11_finding ml_X11_79 im_X11_finding se_X11_finding rfl rfl rfl (by decide) hP (fun x_3 h_4 hP => ?_)
    exact bz_retI (pc := 24) dX11_zone_24 rfl rfl hP
  · have hP := hP.2 c
    refine bz_iload_n (pc := 9) dX11_zone_9 rfl rfl ?_
    refine bz_iconst (v := 0) (pc := 10) dX11_zone_10 (by decide) ?_
    refine bz_iconst (v := 3) (pc := 11) dX11_zone_11 (by decide) ?_
    refine bz_kIS (as := [.inl x2, .inl 0, .inl 3]) (st := []) (pc := 12) dX11_zone_12 sc_X11_isWithin ml_X11_74 ss_X11_isWithin rfl (by decide) hP (fun x_5 h_6 hP => ?_)
    refine bz_if_ne (tgt := 25) (pc := 15) dX11_zone_15 (by decide) (fun c => ?_) (fun c => ?_)
    · have hP := hP.1 c
      refine bz_iload_n (pc := 25) dX11_zone_25 rfl rfl ?_
      have hJ : bz_J G κ kX11_zone (d + 1) F bc bs 34 [some (.inr (some a0)), some (.inl x1), some (.inl x2), none, none, none, none] [.inl (if x2 = 0 then 0 else 1)] h_6 := by
        refine bz_s_istore_n (pc := 34) dX11_zone_34 rfl (by decide) [some (.inr (some a0)), some (.inl x1), some (.inl x2), some (.inl (if x2 = 0 then 0 else 1)), none, none, none] rfl ?_
        refine bz_iconst (v := 0) (pc := 35) dX11_zone_35 (by decide) ?_
        refine bz_s_istore (pc := 36) dX11_zone_36 (by decide) [some (.inr (some a0)), some (.inl x1), some (.inl x2), some (.inl (if x2 = 0 then 0 else 1)), some (.inl 0), none, none] rfl ?_
        refine bz_iconst (v := 0) (pc := 38) dX11_zone_38 (by decide) ?_
        refine bz_s_istore (pc := 39) dX11_zone_39 (by decide) [some (.inr (some a0)), some (.inl x1), some (.inl x2), some (.inl (if x2 = 0 then 0 else 1)), some (.inl 0), some (.inl 0), none] rfl ?_
        exact hP
      refine bz_if_ne (tgt := 33) (pc := 26) dX11_zone_26 (by decide) (fun c => ?_) (fun c => ?_)
      · have e9 : ((if x2 = 0 then 0 else 1) : Int32) = (1) := if_neg c
        rw [e9] at hJ
        refine bz_iconst (v := 1) (pc := 33) dX11_zone_33 (by decide) ?_
        exact hJ
      · have e9 : ((if x2 = 0 then 0 else 1) : Int32) = (0) := if_pos c
        rw [e9] at hJ
        refine bz_iconst (v := 0) (pc := 29) dX11_zone_29 (by decide) ?_
        refine bz_goto (tgt := 34) (pc := 30) dX11_zone_30 (by decide) ?_
        exact hJ
    · have hP := hP.2 c
      refine bz_aload_n (pc := 18) dX11_zone_18 rfl rfl ?_
      refine bz_ldc (pc := 19) dX11_zone_19 ct_X11_78 ?_
      refine bz_kIV (as := [.inl (-1000001)]) (st := []) (ci := 11) (pc := 21) dX11_zone_21 sc_X11_finding ml_X11_79 im_X11_finding se_X11_finding rfl rfl rfl (by decide) hP (fun x_7 h_8 hP => ?_)
      exact bz_retI (pc := 24) dX11_zone_24 rfl rfl hP
set_option maxRecDepth 20000 in
set_option maxHeartbeats 4000000 in
theorem g_X11_zone_41 {G : bz_G} {κ : bz_K} {l : Launch} {d : Nat} {F : Option bz_V → bz_H → Prop} {bc bs : Nat} (hl : κ.2.1 = l) (a0 : Nat) (x1 : Int32) (x2 : Int32) (x3 : Int32) (x4 : Int32) (x5 : Int32) (u6 : Option bz_V) (h : bz_H) (hP : bz_rR h a0 11 0 (fun r_9 => bz_nn r_9 (fun a_10 => bz_rI h a_10 10 9 (fun x_11 => (x_11 ≤ x5 → F (some (.inl x4)) h) ∧ (¬ (x_11 ≤ x5) → bz_rR h a0 11 0 (fun r_12 => bz_nn r_12 (fun a_13 => bz_rR h a_13 10 2 (fun r_14 => bz_nn r_14 (fun a_15 => bz_rQ h a_15 x5 (fun r_16 => bz_nn r_16 (fun a_17 => bz_rI h a_17 2 7 (fun x_18 => (¬ x_18 = x3 → bz_J G κ kX11_zone (d + 1) F bc bs 41 [some (.inr (some a0)), some (.inl x1), some (.inl x2), some (.inl x3), some (.inl x4), some (.inl (x5 + 1)), some (.inr (some a_17))] [] h) ∧ (x_18 = x3 → bz_rR h a0 11 0 (fun r_19 => bz_nn r_19 (fun a_20 => bz_rR h a_20 10 0 (fun r_21 => bz_nn r_21 (fun a_22 => bz_rR h a_22 8 1 (fun r_23 => bz_rI h a_17 2 2 (fun x_24 => bz_nn r_23 (fun a_25 => bz_rA h a_25 x_24 (fun x_26 => (x_26 = x1 → (x2 = 2 → bz_rI h a_17 2 11 (fun x_27 => bz_J G κ kX11_zone (d + 1) F bc bs 41 [some (.inr (some a0)), some (.inl x1), some (.inl x2), some (.inl x3), some (.inl (x4 + x_27)), some (.inl (x5 + 1)), some (.inr (some a_17))] [] h)) ∧ (¬ x2 = 2 → (x2 = 3 → bz_rR h a0 11 0 (fun r_28 => bz_nn r_28 (fun a_31 => bz_rc h a_31 10 (bz_cI G l d kX10_payFor [.inr (some a_31), .inr (some a_17)] h 0 0 (fun x_29 h_30 => bz_J G κ kX11_zone (d + 1) F bc bs 41 [some (.inr (some a0)), some (.inl x1), some (.inl x2), some (.inl x3), some (.inl (x4 + x_29)), some (.inl (x5 + 1)), some (.inr (some a_17))] [] h_30))))) ∧ (¬ x2 = 3 → bz_J G κ kX11_zone (d + 1) F bc bs 41 [some (.inr (some a0)), some (.inl x1), some (.inl x2), some (.inl x3), some (.inl (x4 + 1)), some (.inl (x5 + 1)), some (.inr (some a_17))] [] h))) ∧ (¬ (x_26 = x1) → bz_J G κ kX11_zone (d + 1) F bc bs 41 [some (.inr (some a0)), some (.inl x1), some (.inl x2), some (.inl x3), some (.inl x4), some (.inl (x5 + 1)), some (.inr (some a_17))] [] h)))))))))))))))))))))) : bz_J G κ kX11_zone (d + 1) F bc bs 41 [some (.inr (some a0)), some (.inl x1), some (.inl x2), some (.inl x3), some (.inl x4), some (.inl x5), u6] [] h := by
  subst hl
  refine bz_iload (pc := 41) dX11_zone_41 rfl ?_
  refine bz_aload_n (pc := 43) dX11_zone_43 rfl rfl ?_
  refine bz_rw_rR (pc := 44) dX11_zone_44 fl_X11_12 hP (fun r_9 hP => ?_)
  obtain ⟨a_10, rfl, hP⟩ := hP
  refine bz_rw_rI (pc := 47) dX11_zone_47 fl_X11_125 hP (fun x_11 hP => ?_)
  refine bz_icmp_ge (tgt := 163) (pc := 50) dX11_zone_50 (by decide) (fun c => ?_) (fun c => ?_)
  · have hP := hP.1 c
    refine bz_iload (pc := 163) dX11_zone_163 rfl ?_
    exact bz_retI (pc := 165) dX11_zone_165 rfl rfl hP
  · have hP := hP.2 c
    refine bz_aload_n (pc := 53) dX11_zone_53 rfl rfl ?_
    refine bz_rw_rR (pc := 54) dX11_zone_54 fl_X11_12 hP (fun r_12 hP => ?_)
    obtain ⟨a_13, rfl, hP⟩ := hP
    refine bz_rw_rR (pc := 57) dX11_zone_57 fl_X11_306 hP (fun r_14 hP => ?_)
    refine bz_iload (pc := 60) dX11_zone_60 rfl ?_
    obtain ⟨a_15, rfl, hP⟩ := hP
    refine bz_rw_ldq (pc := 62) dX11_zone_62 hP (fun r_16 hP => ?_)
    refine bz_s_astore (pc := 63) dX11_zone_63 (by decide) [some (.inr (some a0)), some (.inl x1), some (.inl x2), some (.inl x3), some (.inl x4), some (.inl x5), some (.inr r_16)] rfl ?_
    refine bz_aload (pc := 65) dX11_zone_65 rfl ?_
    obtain ⟨a_17, rfl, hP⟩ := hP
    refine bz_rw_rI (pc := 67) dX11_zone_67 fl_X11_136 hP (fun x_18 hP => ?_)
    refine bz_iload_n (pc := 70) dX11_zone_70 rfl rfl ?_
    refine bz_icmp_ne (tgt := 157) (pc := 71) dX11_zone_71 (by decide) (fun c => ?_) (fun c => ?_)
    · have hP := hP.1 c
      refine bz_s_iinc (pc := 157) dX11_zone_157 (by decide) rfl rfl [some (.inr (some a0)), some (.inl x1), some (.inl x2), some (.inl x3), some (.inl x4), some (.inl (x5 + 1)), some (.inr (some a_17))] rfl ?_
      refine bz_goto (tgt := 41) (pc := 160) dX11_zone_160 (by decide) ?_
      exact hP
    · have hP := hP.2 c
      refine bz_aload_n (pc := 74) dX11_zone_74 rfl rfl ?_
      refine bz_rw_rR (pc := 75) dX11_zone_75 fl_X11_12 hP (fun r_19 hP => ?_)
      obtain ⟨a_20, rfl, hP⟩ := hP
      refine bz_rw_rR (pc := 78) dX11_zone_78 fl_X11_43 hP (fun r_21 hP => ?_)
      obtain ⟨a_22, rfl, hP⟩ := hP
      refine bz_rw_rR (pc := 81) dX11_zone_81 fl_X11_346 hP (fun r_23 hP => ?_)
      refine bz_aload (pc := 84) dX11_zone_84 rfl ?_
      refine bz_rw_rI (pc := 86) dX11_zone_86 fl_X11_144 hP (fun x_24 hP => ?_)
      obtain ⟨a_25, rfl, hP⟩ := hP
      refine bz_rw_rA (pc := 89) dX11_zone_89 hP (fun x_26 hP => ?_)
      refine bz_iload_n (pc := 90) dX11_zone_90 rfl rfl ?_
      refine bz_icmp_eq (tgt := 97) (pc := 91) dX11_zone_91 (by decide) (fun c => ?_) (fun c => ?_)
      · have hP := hP.1 c
        refine bz_iload_n (pc := 97) dX11_zone_97 rfl rfl ?_
        refine bz_lookup (pc := 98) [(2, 26), (3, 39)] dX11_zone_98 (by decide) (by decide) (by decide) (by decide) ?_
        refine ⟨fun c => ?_, fun c => ?_⟩
        · have hP := hP.1 c
          show bz_J G κ kX11_zone (d + 1) F bc bs 124 [some (.inr (some a0)), some (.inl x1), some (.inl x2), some (.inl x3), some (.inl x4), some (.inl x5), some (.inr (some a_17))] [] h
          refine bz_iload (pc := 124) dX11_zone_124 rfl ?_
          refine bz_aload (pc := 126) dX11_zone_126 rfl ?_
          refine bz_rw_rI (pc := 128) dX11_zone_128 fl_X11_162 hP (fun x_27 hP => ?_)
          refine bz_iadd (pc := 131) dX11_zone_131 ?_
          refine bz_s_istore (pc := 132) dX11_zone_132 (by decide) [some (.inr (some a0)), some (.inl x1), some (.inl x2), some (.inl x3), some (.inl (x4 + x_27)), some (.inl x5), some (.inr (some a_17))] rfl ?_
          refine bz_goto (tgt := 157) (pc := 134) dX11_zone_134 (by decide) ?_
          refine bz_s_iinc (pc := 157) dX11_zone_157 (by decide) rfl rfl [some (.inr (some a0)), some (.inl x1), some (.inl x2), some (.inl x3), some (.inl (x4 + x_27)), some (.inl (x5 + 1)), some (.inr (some a_17))] rfl ?_
          refine bz_goto (tgt := 41) (pc := 160) dX11_zone_160 (by decide) ?_
          exact hP
        · have hP := hP.2 c
          refine ⟨fun c => ?_, fun c => ?_⟩
          · have hP := hP.1 c
            show bz_J G κ kX11_zone (d + 1) F bc bs 137 [some (.inr (some a0)), some (.inl x1), some (.inl x2), some (.inl x3), some (.inl x4), some (.inl x5), some (.inr (some a_17))] [] h
            refine bz_iload (pc := 137) dX11_zone_137 rfl ?_
            refine bz_aload_n (pc := 139) dX11_zone_139 rfl rfl ?_
            refine bz_rw_rR (pc := 140) dX11_zone_140 fl_X11_12 hP (fun r_28 hP => ?_)
            refine bz_aload (pc := 143) dX11_zone_143 rfl ?_
            obtain ⟨a_31, rfl, hP⟩ := hP
            refine bz_kIV (as := [.inr (some a_17)]) (st := [.inl x4]) (ci := 10) (pc := 145) dX11_zone_145 sc_X10_payFor ml_X11_165 im_X10_payFor se_X10_payFor rfl rfl rfl (by decide) hP (fun x_29 h_30 hP => ?_)
            refine bz_iadd (pc := 148) dX11_zone_148 ?_
            refine bz_s_istore (pc := 149) dX11_zone_149 (by decide) [some (.inr (some a0)), some (.inl x1), some (.inl x2), some (.inl x3), some (.inl (x4 + x_29)), some (.inl x5), some (.inr (some a_17))] rfl ?_
            refine bz_goto (tgt := 157) (pc := 151) dX11_zone_151 (by decide) ?_
            refine bz_s_iinc (pc := 157) dX11_zone_157 (by decide) rfl rfl [some (.inr (some a0)), some (.inl x1), some (.inl x2), some (.inl x3), some (.inl (x4 + x_29)), some (.inl (x5 + 1)), some (.inr (some a_17))] rfl ?_
            refine bz_goto (tgt := 41) (pc := 160) dX11_zone_160 (by decide) ?_
            exact hP
          · have hP := hP.2 c
            show bz_J G κ kX11_zone (d + 1) F bc bs 154 [some (.inr (some a0)), some (.inl x1), some (.inl x2), some (.inl x3), some (.inl x4), some (.inl x5), some (.inr (some a_17))] [] h
            refine bz_s_iinc (pc := 154) dX11_zone_154 (by decide) rfl rfl [some (.inr (some a0)), some (.inl x1), some (.inl x2), some (.inl x3), some (.inl (x4 + 1)), some (.inl x5), some (.inr (some a_17))] rfl ?_
            refine bz_s_iinc (pc := 157) dX11_zone_157 (by decide) rfl rfl [some (.inr (some a0)), some (.inl x1), some (.inl x2), some (.inl x3), some (.inl (x4 + 1)), some (.inl (x5 + 1)), some (.inr (some a_17))] rfl ?_
            refine bz_goto (tgt := 41) (pc := 160) dX11_zone_160 (by decide) ?_
            exact hP
      · have hP := hP.2 c
        refine bz_goto (tgt := 157) (pc := 94) dX11_zone_94 (by decide) ?_
        refine bz_s_iinc (pc := 157) dX11_zone_157 (by decide) rfl rfl [some (.inr (some a0)), some (.inl x1), some (.inl x2), some (.inl x3), some (.inl x4), some (.inl (x5 + 1)), some (.inr (some a_17))] rfl ?_
        refine bz_goto (tgt := 41) (pc := 160) dX11_zone_160 (by decide) ?_
        exact hP
theorem m_X11_zone {G : bz_G} {l : Launch} {d mc ms : Nat} {F : Option bz_V → bz_H → Prop} (a0 : Nat) (x1 : Int32) (x2 : Int32) (h : bz_H) (hP : ∀ (κ : bz_K) (bc bs : Nat), κ.2.1 = l → bz_cI G l d kX11_isWithin [.inl x1, .inl 0, .inl 3] h 0 0 (fun x_1 h_2 => (x_1 = 0 → bz_rc h_2 a0 11 (bz_cI G l d kX11_finding [.inr (some a0), .inl (-1000001)] h_2 0 0 (fun x_3 h_4 => F (some (.inl x_3)) h_4))) ∧ (¬ (x_1 = 0) → bz_cI G l d kX11_isWithin [.inl x2, .inl 0, .inl 3] h_2 0 0 (fun x_5 h_6 => (¬ x_5 = 0 → bz_J G κ kX11_zone (d + 1) F bc bs 41 [some (.inr (some a0)), some (.inl x1), some (.inl x2), some (.inl (if x2 = 0 then 0 else 1)), some (.inl 0), some (.inl 0), none] [] h_6) ∧ (x_5 = 0 → bz_rc h_6 a0 11 (bz_cI G l d kX11_finding [.inr (some a0), .inl (-1000001)] h_6 0 0 (fun x_7 h_8 => F (some (.inl x_7)) h_8))))))) : bz_Call G l (d + 1) kX11_zone [.inr (some a0), .inl x1, .inl x2] h mc ms F :=
  bz_body (by decide) (by decide) (fun κ hl => g_X11_zone_0 hl a0 x1 x2 h (hP κ mc ms hl))
set_option maxRecDepth 20000 in
set_option maxHeartbeats 4000000 in
theorem g_X12_app_0 {G : bz_G} {κ : bz_K} {l : Launch} {d : Nat} {F : Option bz_V → bz_H → Prop} {bc bs : Nat} (hl : κ.2.1 = l) (a0 : Nat) (x1 : Int32) (x2 : Int32) (x3 : Int32) (h : bz_H) (hP : bz_rc h a0 12 (bz_cI G l d kX12_isRider [.inr (some a0), .inl x1] h 0 0 (fun x_1 h_2 => (x_1 = 0 → bz_rc h_2 a0 12 (bz_cI G l d kX12_finding [.inr (some a0), .inl 0] h_2 0 0 (fun x_3 h_4 => F (some (.inl x_3)) h_4))) ∧ (¬ (x_1 = 0) → bz_cI G l d kX12_isMinute [.inl x2] h_2 0 0 (fun x_5 h_6 => (x_5 = 0 → bz_rc h_6 a0 12 (bz_cI G l d kX12_finding [.inr (some a0), .inl 0] h_6 0 0 (fun x_7 h_8 => F (some (.inl x_7)) h_8))) ∧ (¬ (x_5 = 0) → bz_cI G l d kX12_isMinute [.inl x3] h_6 0 0 (fun x_9 h_10 => (x_9 = 0 → bz_rc h_10 a0 12 (bz_cI G l d kX12_finding [.inr (some a0), .inl 0] h_10 0 0 (fun x_11 h_12 => F (some (.inl x_11)) h_12))) ∧ (¬ (x_9 = 0) → (x2 < x3 → bz_rR h_10 a0 12 0 (fun r_13 => bz_nn r_13 (fun a_14 => bz_rA h_10 a_14 (726 + (9 * x1)) (fun x_15 => (¬ x_15 = 4 → bz_rR h_10 a0 12 0 (fun r_16 => bz_rR h_10 a0 12 0 (fun r_17 => bz_nn r_17 (fun a_18 => bz_rA h_10 a_18 (726 + (9 * x1)) (fun x_19 => bz_nn r_16 (fun a_20 => bz_wA h_10 a_20 (((726 + (9 * x1)) + 1) + (2 * x_19)) x2 (fun h_21 => bz_rR h_21 a0 12 0 (fun r_22 => bz_rR h_21 a0 12 0 (fun r_23 => bz_nn r_23 (fun a_24 => bz_rA h_21 a_24 (726 + (9 * x1)) (fun x_25 => bz_nn r_22 (fun a_26 => bz_wA h_21 a_26 (((726 + (9 * x1)) + 2) + (2 * x_25)) x3 (fun h_27 => bz_rR h_27 a0 12 0 (fun r_28 => bz_nn r_28 (fun a_29 => bz_rA h_27 a_29 (726 + (9 * x1)) (fun x_30 => bz_wA h_27 a_29 (726 + (9 * x1)) (x_30 + 1) (fun h_31 => bz_rR h_31 a0 12 0 (fun r_32 => bz_nn r_32 (fun a_33 => bz_rA h_31 a_33 (726 + (9 * x1)) (fun x_34 => F (some (.inl x_34)) h_31)))))))))))))))))))) ∧ (x_15 = 4 → bz_rc h_10 a0 12 (bz_cI G l d kX12_finding [.inr (some a0), .inl 1] h_10 0 0 (fun x_35 h_36 => F (some (.inl x_35)) h_36))))))) ∧ (¬ (x2 < x3) → bz_rc h_10 a0 12 (bz_cI G l d kX12_finding [.inr (some a0), .inl 0] h_10 0 0 (fun x_37 h_38 => F (some (.inl x_37)) h_38))))))))))) : bz_J G κ kX12_app (d + 1) F bc bs 0 [some (.inr (some a0)), some (.inl x1), some (.inl x2), some (.inl x3), none] [] h := by
  subst hl
  refine bz_aload_n (pc := 0) dX12_app_0 rfl rfl ?_
  refine bz_iload_n (pc := 1) dX12_app_1 rfl rfl ?_
  refine bz_kIV (as := [.inl x1]) (st := []) (ci := 12) (pc := 2) dX12_app_2 sc_X12_isRider ml_X12_139 im_X12_isRider se_X12_isRider rfl rfl rfl (by decide) hP (fun x_1 h_2 hP => ?_)
  refine bz_if_eq (tgt := 27) (pc := 5) dX12_app_5 (by decide) (fun c => ?_) (fun c => ?_)
  · have hP := hP.1 c
    refine bz_aload_n (pc := 27) dX12_app_27 rfl rfl ?_
    refine bz_iconst (v := 0) (pc := 28) dX12_app_28 (by decide) ?_
    refine bz_kIV (as := [.inl 0]) (st := []) (ci := 12) (pc := 29) dX12_app_29 sc_X12_finding ml_X12_73 im_X12_finding se_X12_finding rfl rfl rfl (by decide) hP (fun x_3 h_4 hP => ?_)
    exact bz_retI (pc := 32) dX12_app_32 rfl rfl hP
  · have hP := hP.2 c
    refine bz_iload_n (pc := 8) dX12_app_8 rfl rfl ?_
    refine bz_kIS (as := [.inl x2]) (st := []) (pc := 9) dX12_app_9 sc_X12_isMinute ml_X12_305 ss_X12_isMinute rfl (by decide) hP (fun x_5 h_6 hP => ?_)
    refine bz_if_eq (tgt := 27) (pc := 12) dX12_app_12 (by decide) (fun c => ?_) (fun c => ?_)
    · have hP := hP.1 c
      refine bz_aload_n (pc := 27) dX12_app_27 rfl rfl ?_
      refine bz_iconst (v := 0) (pc := 28) dX12_app_28 (by decide) ?_
      refine bz_kIV (as := [.inl 0]) (st := []) (ci := 12) (pc := 29) dX12_app_29 sc_X12_finding ml_X12_73 im_X12_finding se_X12_finding rfl rfl rfl (by decide) hP (fun x_7 h_8 hP => ?_)
      exact bz_retI (pc := 32) dX12_app_32 rfl rfl hP
    · have hP := hP.2 c
      refine bz_iload_n (pc := 15) dX12_app_15 rfl rfl ?_
      refine bz_kIS (as := [.inl x3]) (st := []) (pc := 16) dX12_app_16 sc_X12_isMinute ml_X12_305 ss_X12_isMinute rfl (by decide) hP (fun x_9 h_10 hP => ?_)
      refine bz_if_eq (tgt := 27) (pc := 19) dX12_app_19 (by decide) (fun c => ?_) (fun c => ?_)
      · have hP := hP.1 c
        refine bz_aload_n (pc := 27) dX12_app_27 rfl rfl ?_
        refine bz_iconst (v := 0) (pc := 28) dX12_app_28 (by decide) ?_
        refine bz_kIV (as := [.inl 0]) (st := []) (ci := 12) (pc := 29) dX12_app_29 sc_X12_finding ml_X12_73 im_X12_finding se_X12_finding rfl rfl rfl (by decide) hP (fun x_11 h_12 hP => ?_)
        exact bz_retI (pc := 32) dX12_app_32 rfl rfl hP
      · have hP := hP.2 c
        refine bz_iload_n (pc := 22) dX12_app_22 rfl rfl ?_
        refine bz_iload_n (pc := 23) dX12_app_23 rfl rfl ?_
        refine bz_icmp_gt (tgt := 33) (pc := 24) dX12_app_24 (by decide) (fun c => ?_) (fun c => ?_)
        · have hP := hP.1 c
          refine bz_sipush (v := 726) (pc := 33) dX12_app_33 (by decide) ?_
          refine bz_bipush (v := 9) (pc := 36) dX12_app_36 (by decide) ?_
          refine bz_iload_n (pc := 38) dX12_app_38 rfl rfl ?_
          refine bz_imul (pc := 39) dX12_app_39 ?_
          refine bz_iadd (pc := 40) dX12_app_40 ?_
          refine bz_s_istore (pc := 41) dX12_app_41 (by decide) [some (.inr (some a0)), some (.inl x1), some (.inl x2), some (.inl x3), some (.inl (726 + (9 * x1)))] rfl ?_
          refine bz_aload_n (pc := 43) dX12_app_43 rfl rfl ?_
          refine bz_rw_rR (pc := 44) dX12_app_44 fl_X12_7 hP (fun r_13 hP => ?_)
          refine bz_iload (pc := 47) dX12_app_47 rfl ?_
          obtain ⟨a_14, rfl, hP⟩ := hP
          refine bz_rw_rA (pc := 49) dX12_app_49 hP (fun x_15 hP => ?_)
          refine bz_iconst (v := 4) (pc := 50) dX12_app_50 (by decide) ?_
          refine bz_icmp_ne (tgt := 60) (pc := 51) dX12_app_51 (by decide) (fun c => ?_) (fun c => ?_)
          · have hP := hP.1 c
            refine bz_aload_n (pc := 60) dX12_app_60 rfl rfl ?_
            refine bz_rw_rR (pc := 61) dX12_app_61 fl_X12_7 hP (fun r_16 hP => ?_)
            refine bz_iload (pc := 64) dX12_app_64 rfl ?_
            refine bz_iconst (v := 1) (pc := 66) dX12_app_66 (by decide) ?_
            refine bz_iadd (pc := 67) dX12_app_67 ?_
            refine bz_iconst (v := 2) (pc := 68) dX12_app_68 (by decide) ?_
            refine bz_aload_n (pc := 69) dX12_app_69 rfl rfl ?_
            refine bz_rw_rR (pc := 70) dX12_app_70 fl_X12_7 hP (fun r_17 hP => ?_)
            refine bz_iload (pc := 73) dX12_app_73 rfl ?_
            obtain ⟨a_18, rfl, hP⟩ := hP
            refine bz_rw_rA (pc := 75) dX12_app_75 hP (fun x_19 hP => ?_)
            refine bz_imul (pc := 76) dX12_app_76 ?_
            refine bz_iadd (pc := 77) dX12_app_77 ?_
            refine bz_iload_n (pc := 78) dX12_app_78 rfl rfl ?_
            obtain ⟨a_20, rfl, hP⟩ := hP
            refine bz_rw_wA (pc := 79) dX12_app_79 hP (fun h_21 hP => ?_)
            refine bz_aload_n (pc := 80) dX12_app_80 rfl rfl ?_
            refine bz_rw_rR (pc := 81) dX12_app_81 fl_X12_7 hP (fun r_22 hP => ?_)
            refine bz_iload (pc := 84) dX12_app_84 rfl ?_
            refine bz_iconst (v := 2) (pc := 86) dX12_app_86 (by decide) ?_
            refine bz_iadd (pc := 87) dX12_app_87 ?_
            refine bz_iconst (v := 2) (pc := 88) dX12_app_88 (by decide) ?_
            refine bz_aload_n (pc := 89) dX12_app_89 rfl rfl ?_
            refine bz_rw_rR (pc := 90) dX12_app_90 fl_X12_7 hP (fun r_23 hP => ?_)
            refine bz_iload (pc := 93) dX12_app_93 rfl ?_
            obtain ⟨a_24, rfl, hP⟩ := hP
            refine bz_rw_rA (pc := 95) dX12_app_95 hP (fun x_25 hP => ?_)
            refine bz_imul (pc := 96) dX12_app_96 ?_
            refine bz_iadd (pc := 97) dX12_app_97 ?_
            refine bz_iload_n (pc := 98) dX12_app_98 rfl rfl ?_
            obtain ⟨a_26, rfl, hP⟩ := hP
            refine bz_rw_wA (pc := 99) dX12_app_99 hP (fun h_27 hP => ?_)
            refine bz_aload_n (pc := 100) dX12_app_100 rfl rfl ?_
            refine bz_rw_rR (pc := 101) dX12_app_101 fl_X12_7 hP (fun r_28 hP => ?_)
            refine bz_iload (pc := 104) dX12_app_104 rfl ?_
            refine bz_dup2 (pc := 106) dX12_app_106 ?_
            obtain ⟨a_29, rfl, hP⟩ := hP
            refine bz_rw_rA (pc := 107) dX12_app_107 hP (fun x_30 hP => ?_)
            refine bz_iconst (v := 1) (pc := 108) dX12_app_108 (by decide) ?_
            refine bz_iadd (pc := 109) dX12_app_109 ?_
            refine bz_rw_wA (pc := 110) dX12_app_110 hP (fun h_31 hP => ?_)
            refine bz_aload_n (pc := 111) dX12_app_111 rfl rfl ?_
            refine bz_rw_rR (pc := 112) dX12_app_112 fl_X12_7 hP (fun r_32 hP => ?_)
            refine bz_iload (pc := 115) dX12_app_115 rfl ?_
            obtain ⟨a_33, rfl, hP⟩ := hP
            refine bz_rw_rA (pc := 117) dX12_app_117 hP (fun x_34 hP => ?_)
            exact bz_retI (pc := 118) dX12_app_118 rfl rfl hP
          · have hP := hP.2 c
            refine bz_aload_n (pc := 54) dX12_app_54 rfl rfl ?_
            refine bz_iconst (v := 1) (pc := 55) dX12_app_55 (by decide) ?_
            refine bz_kIV (as := [.inl 1]) (st := []) (ci := 12) (pc := 56) dX12_app_56 sc_X12_finding ml_X12_73 im_X12_finding se_X12_finding rfl rfl rfl (by decide) hP (fun x_35 h_36 hP => ?_)
            exact bz_retI (pc := 59) dX12_app_59 rfl rfl hP
        · have hP := hP.2 c
          refine bz_aload_n (pc := 27) dX12_app_27 rfl rfl ?_
          refine bz_iconst (v := 0) (pc := 28) dX12_app_28 (by decide) ?_
          refine bz_kIV (as := [.inl 0]) (st := []) (ci := 12) (pc := 29) dX12_app_29 sc_X12_finding ml_X12_73 im_X12_finding se_X12_finding rfl rfl rfl (by decide) hP (fun x_37 h_38 hP => ?_)
          exact bz_retI (pc := 32) dX12_app_32 rfl rfl hP
theorem m_X12_app {G : bz_G} {l : Launch} {d mc ms : Nat} {F : Option bz_V → bz_H → Prop} (a0 : Nat) (x1 : Int32) (x2 : Int32) (x3 : Int32) (h : bz_H) (hP : bz_rc h a0 12 (bz_cI G l d kX12_isRider [.inr (some a0), .inl x1] h 0 0 (fun x_1 h_2 => (x_1 = 0 → bz_rc h_2 a0 12 (bz_cI G l d kX12_finding [.inr (some a0), .inl 0] h_2 0 0 (fun x_3 h_4 => F (some (.inl x_3)) h_4))) ∧ (¬ (x_1 = 0) → bz_cI G l d kX12_isMinute [.inl x2] h_2 0 0 (fun x_5 h_6 => (x_5 = 0 → bz_rc h_6 a0 12 (bz_cI G l d kX12_finding [.inr (some a0), .inl 0] h_6 0 0 (fun x_7 h_8 => F (some (.inl x_7)) h_8))) ∧ (¬ (x_5 = 0) → bz_cI G l d kX12_isMinute [.inl x3] h_6 0 0 (fun x_9 h_10 => (x_9 = 0 → bz_rc h_10 a0 12 (bz_cI G l d kX12_finding [.inr (some a0), .inl 0] h_10 0 0 (fun x_11 h_12 => F (some (.inl x_11)) h_12))) ∧ (¬ (x_9 = 0) → (x2 < x3 → bz_rR h_10 a0 12 0 (fun r_13 => bz_nn r_13 (fun a_14 => bz_rA h_10 a_14 (726 + (9 * x1)) (fun x_15 => (¬ x_15 = 4 → bz_rR h_10 a0 12 0 (fun r_16 => bz_rR h_10 a0 12 0 (fun r_17 => bz_nn r_17 (fun a_18 => bz_rA h_10 a_18 (726 + (9 * x1)) (fun x_19 => bz_nn r_16 (fun a_20 => bz_wA h_10 a_20 (((726 + (9 * x1)) + 1) + (2 * x_19)) x2 (fun h_21 => bz_rR h_21 a0 12 0 (fun r_22 => bz_rR h_21 a0 12 0 (fun r_23 => bz_nn r_23 (fun a_24 => bz_rA h_21 a_24 (726 + (9 * x1)) (fun x_25 => bz_nn r_22 (fun a_26 => bz_wA h_21 a_26 (((726 + (9 * x1)) + 2) + (2 * x_25)) x3 (fun h_27 => bz_rR h_27 a0 12 0 (fun r_28 => bz_nn r_28 (fun a_29 => bz_rA h_27 a_29 (726 + (9 * x1)) (fun x_30 => bz_wA h_27 a_29 (726 + (9 * x1)) (x_30 + 1) (fun h_31 => bz_rR h_31 a0 12 0 (fun r_32 => bz_nn r_32 (fun a_33 => bz_rA h_31 a_33 (726 + (9 * x1)) (fun x_34 => F (some (.inl x_34)) h_31)))))))))))))))))))) ∧ (x_15 = 4 → bz_rc h_10 a0 12 (bz_cI G l d kX12_finding [.inr (some a0), .inl 1] h_10 0 0 (fun x_35 h_36 => F (some (.inl x_35)) h_36))))))) ∧ (¬ (x2 < x3) → bz_rc h_10 a0 12 (bz_cI G l d kX12_finding [.inr (some a0), .inl 0] h_10 0 0 (fun x_37 h_38 => F (some (.inl x_37)) h_38))))))))))) : bz_Call G l (d + 1) kX12_app [.inr (some a0), .inl x1, .inl x2, .inl x3] h mc ms F :=
  bz_body (by decide) (by decide) (fun κ hl => g_X12_app_0 hl a0 x1 x2 x3 h hP)
set_option maxRecDepth 20000 in
set_option maxHeartbeats 4000000 in
theorem g_X12_as_0 {G : bz_G} {κ : bz_K} {l : Launch} {d : Nat} {F : Option bz_V → bz_H → Prop} {bc bs : Nat} (hl : κ.2.1 = l) (a0 : Nat) (x1 : Int32) (x2 : Int32) (h : bz_H) (hP : bz_cI G l d kX12_isSpot [.inl x1] h 0 0 (fun x_1 h_2 => (x_1 = 0 → bz_rc h_2 a0 12 (bz_cI G l d kX12_finding [.inr (some a0), .inl 0] h_2 0 0 (fun x_3 h_4 => F (some (.inl x_3)) h_4))) ∧ (¬ (x_1 = 0) → bz_cI G l d kX12_in [.inl x2, .inl 0, .inl 6] h_2 0 0 (fun x_5 h_6 => (¬ x_5 = 0 → bz_rR h_6 a0 12 0 (fun r_7 => bz_nn r_7 (fun a_8 => bz_rA h_6 a_8 (966 + x1) (fun x_9 => (0 ≤ x_9 → bz_rc h_6 a0 12 (bz_cI G l d kX12_ofRider [.inr (some a0), .inl x_9, .inl 0] h_6 0 0 (fun x_10 h_11 => bz_cI G l d kX12_isOf [.inl x_10, .inl x2] h_11 0 0 (fun x_12 h_13 => (x_12 = 0 → bz_rc h_13 a0 12 (bz_cI G l d kX12_finding [.inr (some a0), .inl 2] h_13 0 0 (fun x_14 h_15 => F (some (.inl x_14)) h_15))) ∧ (¬ (x_12 = 0) → F (some (.inl x_9)) h_13))))) ∧ (¬ (0 ≤ x_9) → bz_rc h_6 a0 12 (bz_cI G l d kX12_finding [.inr (some a0), .inl 5] h_6 0 0 (fun x_16 h_17 => F (some (.inl x_16)) h_17))))))) ∧ (x_5 = 0 → bz_rc h_6 a0 12 (bz_cI G l d kX12_finding [.inr (some a0), .inl 0] h_6 0 0 (fun x_18 h_19 => F (some (.inl x_18)) h_19))))))) : bz_J G κ kX12_as (d + 1) F bc bs 0 [some (.inr (some a0)), some (.inl x1), some (.inl x2), none] [] h := by
  subst hl
  refine bz_iload_n (pc := 0) dX12_as_0 rfl rfl ?_
  refine bz_kIS (as := [.inl x1]) (st := []) (pc := 1) dX12_as_1 sc_X12_isSpot ml_X12_335 ss_X12_isSpot rfl (by decide) hP (fun x_1 h_2 hP => ?_)
  refine bz_if_eq (tgt := 17) (pc := 4) dX12_as_4 (by decide) (fun c => ?_) (fun c => ?_)
  · have hP := hP.1 c
    refine bz_aload_n (pc := 17) dX12_as_17 rfl rfl ?_
    refine bz_iconst (v := 0) (pc := 18) dX12_as_18 (by decide) ?_
    refine bz_kIV (as := [.inl 0]) (st := []) (ci := 12) (pc := 19) dX12_as_19 sc_X12_finding ml_X12_73 im_X12_finding se_X12_finding rfl rfl rfl (by decide) hP (fun x_3 h_4 hP => ?_)
    exact bz_retI (pc := 22) dX12_as_22 rfl rfl hP
  · have hP := hP.2 c
    refine bz_iload_n (pc := 7) dX12_as_7 rfl rfl ?_
    refine bz_iconst (v := 0) (pc := 8) dX12_as_8 (by decide) ?_
    refine bz_bipush (v := 6) (pc := 9) dX12_as_9 (by decide) ?_
    refine bz_kIS (as := [.inl x2, .inl 0, .inl 6]) (st := []) (pc := 11) dX12_as_11 sc_X12_in ml_X12_65 ss_X12_in rfl (by decide) hP (fun x_5 h_6 hP => ?_)
    refine bz_if_ne (tgt := 23) (pc := 14) dX12_as_14 (by decide) (fun c => ?_) (fun c => ?_)
    · have hP := hP.1 c
      refine bz_aload_n (pc := 23) dX12_as_23 rfl rfl ?_
      refine bz_rw_rR (pc := 24) dX12_as_24 fl_X12_7 hP (fun r_7 hP => ?_)
      refine bz_sipush (v := 966) (pc := 27) dX12_as_27 (by decide) ?_
      refine bz_iload_n (pc := 30) dX12_as_30 rfl rfl ?_
      refine bz_iadd (pc := 31) dX12_as_31 ?_
      obtain ⟨a_8, rfl, hP⟩ := hP
      refine bz_rw_rA (pc := 32) dX12_as_32 hP (fun x_9 hP => ?_)
      refine bz_s_istore_n (pc := 33) dX12_as_33 rfl (by decide) [some (.inr (some a0)), some (.inl x1), some (.inl x2), some (.inl x_9)] rfl ?_
      refine bz_iload_n (pc := 34) dX12_as_34 rfl rfl ?_
      refine bz_if_ge (tgt := 44) (pc := 35) dX12_as_35 (by decide) (fun c => ?_) (fun c => ?_)
      · have hP := hP.1 c
        refine bz_aload_n (pc := 44) dX12_as_44 rfl rfl ?_
        refine bz_iload_n (pc := 45) dX12_as_45 rfl rfl ?_
        refine bz_iconst (v := 0) (pc := 46) dX12_as_46 (by decide) ?_
        refine bz_kIV (as := [.inl x_9, .inl 0]) (st := []) (ci := 12) (pc := 47) dX12_as_47 sc_X12_ofRider ml_X12_136 im_X12_ofRider se_X12_ofRider rfl rfl rfl (by decide) hP (fun x_10 h_11 hP => ?_)
        refine bz_iload_n (pc := 50) dX12_as_50 rfl rfl ?_
        refine bz_kIS (as := [.inl x_10, .inl x2]) (st := []) (pc := 51) dX12_as_51 sc_X12_isOf ml_X12_338 ss_X12_isOf rfl (by decide) hP (fun x_12 h_13 hP => ?_)
        refine bz_if_eq (tgt := 61) (pc := 54) dX12_as_54 (by decide) (fun c => ?_) (fun c => ?_)
        · have hP := hP.1 c
          refine bz_aload_n (pc := 61) dX12_as_61 rfl rfl ?_
          refine bz_iconst (v := 2) (pc := 62) dX12_as_62 (by decide) ?_
          refine bz_kIV (as := [.inl 2]) (st := []) (ci := 12) (pc := 63) dX12_as_63 sc_X12_finding ml_X12_73 im_X12_finding se_X12_finding rfl rfl rfl (by decide) hP (fun x_14 h_15 hP => ?_)
          exact bz_retI (pc := 66) dX12_as_66 rfl rfl hP
        · have hP := hP.2 c
          refine bz_iload_n (pc := 57) dX12_as_57 rfl rfl ?_
          refine bz_goto (tgt := 66) (pc := 58) dX12_as_58 (by decide) ?_
          exact bz_retI (pc := 66) dX12_as_66 rfl rfl hP
      · have hP := hP.2 c
        refine bz_aload_n (pc := 38) dX12_as_38 rfl rfl ?_
        refine bz_iconst (v := 5) (pc := 39) dX12_as_39 (by decide) ?_
        refine bz_kIV (as := [.inl 5]) (st := []) (ci := 12) (pc := 40) dX12_as_40 sc_X12_finding ml_X12_73 im_X12_finding se_X12_finding rfl rfl rfl (by decide) hP (fun x_16 h_17 hP => ?_)
        exact bz_retI (pc := 43) dX12_as_43 rfl rfl hP
    · have hP := hP.2 c
      refine bz_aload_n (pc := 17) dX12_as_17 rfl rfl ?_
      refine bz_iconst (v := 0) (pc := 18) dX12_as_18 (by decide) ?_
      refine bz_kIV (as := [.inl 0]) (st := []) (ci := 12) (pc := 19) dX12_as_19 sc_X12_finding ml_X12_73 im_X12_finding se_X12_finding rfl rfl rfl (by decide) hP (fun x_18 h_19 hP => ?_)
      exact bz_retI (pc := 22) dX12_as_22 rfl rfl hP
theorem m_X12_as {G : bz_G} {l : Launch} {d mc ms : Nat} {F : Option bz_V → bz_H → Prop} (a0 : Nat) (x1 : Int32) (x2 : Int32) (h : bz_H) (hP : bz_cI G l d kX12_isSpot [.inl x1] h 0 0 (fun x_1 h_2 => (x_1 = 0 → bz_rc h_2 a0 12 (bz_cI G l d kX12_finding [.inr (some a0), .inl 0] h_2 0 0 (fun x_3 h_4 => F (some (.inl x_3)) h_4))) ∧ (¬ (x_1 = 0) → bz_cI G l d kX12_in [.inl x2, .inl 0, .inl 6] h_2 0 0 (fun x_5 h_6 => (¬ x_5 = 0 → bz_rR h_6 a0 12 0 (fun r_7 => bz_nn r_7 (fun a_8 => bz_rA h_6 a_8 (966 + x1) (fun x_9 => (0 ≤ x_9 → bz_rc h_6 a0 12 (bz_cI G l d kX12_ofRider [.inr (some a0), .inl x_9, .inl 0] h_6 0 0 (fun x_10 h_11 => bz_cI G l d kX12_isOf [.inl x_10, .inl x2] h_11 0 0 (fun x_12 h_13 => (x_12 = 0 → bz_rc h_13 a0 12 (bz_cI G l d kX12_finding [.inr (some a0), .inl 2] h_13 0 0 (fun x_14 h_15 => F (some (.inl x_14)) h_15))) ∧ (¬ (x_12 = 0) → F (some (.inl x_9)) h_13))))) ∧ (¬ (0 ≤ x_9) → bz_rc h_6 a0 12 (bz_cI G l d kX12_finding [.inr (some a0), .inl 5] h_6 0 0 (fun x_16 h_17 => F (some (.inl x_16)) h_17))))))) ∧ (x_5 = 0 → bz_rc h_6 a0 12 (bz_cI G l d kX12_finding [.inr (some a0), .inl 0] h_6 0 0 (fun x_18 h_19 => F (some (.inl x_18)) h_19))))))) : bz_Call G l (d + 1) kX12_as [.inr (some a0), .inl x1, .inl x2] h mc ms F :=
  bz_body (by decide) (by decide) (fun κ hl => g_X12_as_0 hl a0 x1 x2 h hP)
set_option maxRecDepth 20000 in
set_option maxHeartbeats 4000000 in
theorem g_X12_ban_0 {G : bz_G} {κ : bz_K} {l : Launch} {d : Nat} {F : Option bz_V → bz_H → Prop} {bc bs : Nat} (hl : κ.2.1 = l) (a0 : Nat) (x1 : Int32) (x2 : Int32) (x3 : Int32) (h : bz_H) (hP : bz_rc h a0 12 (bz_cI G l d kX12_isRider [.inr (some a0), .inl x1] h 0 0 (fun x_1 h_2 => (x_1 = 0 → bz_rc h_2 a0 12 (bz_cI G l d kX12_finding [.inr (some a0), .inl 0] h_2 0 0 (fun x_3 h_4 => F (some (.inl x_3)) h_4))) ∧ (¬ (x_1 = 0) → bz_cI G l d kX12_in [.inl x2, .inl 0, .inl 50] h_2 0 0 (fun x_5 h_6 => (x_5 = 0 → bz_rc h_6 a0 12 (bz_cI G l d kX12_finding [.inr (some a0), .inl 0] h_6 0 0 (fun x_7 h_8 => F (some (.inl x_7)) h_8))) ∧ (¬ (x_5 = 0) → bz_cI G l d kX12_in [.inl x3, .inl 1, .inl 9] h_6 0 0 (fun x_9 h_10 => (¬ x_9 = 0 → bz_J G κ kX12_ban (d + 1) F bc bs 40 [some (.inr (some a0)), some (.inl x1), some (.inl x2), some (.inl x3), some (.inl 0), some (.inl 0)] [] h_10) ∧ (x_9 = 0 → bz_rc h_10 a0 12 (bz_cI G l d kX12_finding [.inr (some a0), .inl 0] h_10 0 0 (fun x_11 h_12 => F (some (.inl x_11)) h_12)))))))))) : bz_J G κ kX12_ban (d + 1) F bc bs 0 [some (.inr (some a0)), some (.inl x1), some (.inl x2), some (.inl x3), none, none] [] h := by
  subst hl
  refine bz_aload_n (pc := 0) dX12_ban_0 rfl rfl ?_
  refine bz_iload_n (pc := 1) dX12_ban_1 rfl rfl ?_
  refine bz_kIV (as := [.inl x1]) (st := []) (ci := 12) (pc := 2) dX12_ban_2 sc_X12_isRider ml_X12_139 im_X12_isRider se_X12_isRider rfl rfl rfl (by decide) hP (fun x_1 h_2 hP => ?_)
  refine bz_if_eq (tgt := 28) (pc := 5) dX12_ban_5 (by decide) (fun c => ?_) (fun c => ?_)
  · have hP := hP.1 c
    refine bz_aload_n (pc := 28) dX12_ban_28 rfl rfl ?_
    refine bz_iconst (v := 0) (pc := 29) dX12_ban_29 (by decide) ?_
    refine bz_kIV (as := [.inl 0]) (st := []) (ci := 12) (pc := 30) dX12_ban_30 sc_X12_finding ml_X12_73 im_X12_finding se_X12_finding rfl rfl rfl (by decide) hP (fun x_3 h_4 hP => ?_)
    exact bz_retI (pc := 33) dX12_ban_33 rfl rfl hP
  · have hP := hP.2 c
    refine bz_iload_n (pc := 8) dX12_ban_8 rfl rfl ?_
    refine bz_iconst (v := 0) (pc := 9) dX12_ban_9 (by decide) ?_
    refine bz_bipush (v := 50) (pc := 10) dX12_ban_10 (by decide) ?_
    refine bz_kIS (as := [.inl x2, .inl 0, .inl 50]) (st := []) (pc := 12) dX12_ban_12 sc_X12_in ml_X12_65 ss_X12_in rfl (by decide) hP (fun x_5 h_6 hP => ?_)
    refine bz_if_eq (tgt := 28) (pc := 15) dX12_ban_15 (by decide) (fun c => ?_) (fun c => ?_)
    · have hP := hP.1 c
      refine bz_aload_n (pc := 28) dX12_ban_28 rfl rfl ?_
      refine bz_iconst (v := 0) (pc := 29) dX12_ban_29 (by decide) ?_
      refine bz_kIV (as := [.inl 0]) (st := []) (ci := 12) (pc := 30) dX12_ban_30 sc_X12_finding ml_X12_73 im_X12_finding se_X12_finding rfl rfl rfl (by decide) hP (fun x_7 h_8 hP => ?_)
      exact bz_retI (pc := 33) dX12_ban_33 rfl rfl hP
    · have hP := hP.2 c
      refine bz_iload_n (pc := 18) dX12_ban_18 rfl rfl ?_
      refine bz_iconst (v := 1) (pc := 19) dX12_ban_19 (by decide) ?_
      refine bz_bipush (v := 9) (pc := 20) dX12_ban_20 (by decide) ?_
      refine bz_kIS (as := [.inl x3, .inl 1, .inl 9]) (st := []) (pc := 22) dX12_ban_22 sc_X12_in ml_X12_65 ss_X12_in rfl (by decide) hP (fun x_9 h_10 hP => ?_)
      refine bz_if_ne (tgt := 34) (pc := 25) dX12_ban_25 (by decide) (fun c => ?_) (fun c => ?_)
      · have hP := hP.1 c
        refine bz_iconst (v := 0) (pc := 34) dX12_ban_34 (by decide) ?_
        refine bz_s_istore (pc := 35) dX12_ban_35 (by decide) [some (.inr (some a0)), some (.inl x1), some (.inl x2), some (.inl x3), some (.inl 0), none] rfl ?_
        refine bz_iconst (v := 0) (pc := 37) dX12_ban_37 (by decide) ?_
        refine bz_s_istore (pc := 38) dX12_ban_38 (by decide) [some (.inr (some a0)), some (.inl x1), some (.inl x2), some (.inl x3), some (.inl 0), some (.inl 0)] rfl ?_
        exact hP
      · have hP := hP.2 c
        refine bz_aload_n (pc := 28) dX12_ban_28 rfl rfl ?_
        refine bz_iconst (v := 0) (pc := 29) dX12_ban_29 (by decide) ?_
        refine bz_kIV (as := [.inl 0]) (st := []) (ci := 12) (pc := 30) dX12_ban_30 sc_X12_finding ml_X12_73 im_X12_finding se_X12_finding rfl rfl rfl (by decide) hP (fun x_11 h_12 hP => ?_)
        exact bz_retI (pc := 33) dX12_ban_33 rfl rfl hP
set_option maxRecDepth 20000 in
set_option maxHeartbeats 4000000 in
theorem g_X12_ban_40 {G : bz_G} {κ : bz_K} {l : Launch} {d : Nat} {F : Option bz_V → bz_H → Prop} {bc bs : Nat} (hl : κ.2.1 = l) (a0 : Nat) (x1 : Int32) (x2 : Int32) (x3 : Int32) (x4 : Int32) (x5 : Int32) (h : bz_H) (hP : bz_rR h a0 12 0 (fun r_13 => bz_nn r_13 (fun a_14 => bz_rA h a_14 2 (fun x_15 => (x_15 ≤ x5 → bz_rc h a0 12 (bz_cI G l d kX12_ofRider [.inr (some a0), .inl x1, .inl 3] h 0 0 (fun x_16 h_17 => (x_16 < x3 → F (some (.inl 0)) h_17) ∧ (¬ (x_16 < x3) → (¬ x_16 = 0) ∧ (F (some (.inl (if x2 ≤ (x4 / x_16) then 0 else 1))) h_17))))) ∧ (¬ (x_15 ≤ x5) → bz_rc h a0 12 (bz_cI G l d kX12_isHis [.inr (some a0), .inl x1, .inl x5] h 0 0 (fun x_18 h_19 => (x_18 = 0 → bz_J G κ kX12_ban (d + 1) F bc bs 40 [some (.inr (some a0)), some (.inl x1), some (.inl x2), some (.inl x3), some (.inl (x4 + 0)), some (.inl (x5 + 1))] [] h_19) ∧ (¬ (x_18 = 0) → bz_rc h_19 a0 12 (bz_cI G l d kX12_lack [.inr (some a0), .inl x5, .inl 2] h_19 0 0 (fun x_20 h_21 => bz_cI G l d kX12_lessOf50 [.inl x_20] h_21 0 0 (fun x_22 h_23 => bz_J G κ kX12_ban (d + 1) F bc bs 40 [some (.inr (some a0)), some (.inl x1), some (.inl x2), some (.inl x3), some (.inl (x4 + x_22)), some (.inl (x5 + 1))] [] h_23))))))))))) : bz_J G κ kX12_ban (d + 1) F bc bs 40 [some (.inr (some a0)), some (.inl x1), some (.inl x2), some (.inl x3), some (.inl x4), some (.inl x5)] [] h := by
  subst hl
  refine bz_iload (pc := 40) dX12_ban_40 rfl ?_
  refine bz_aload_n (pc := 42) dX12_ban_42 rfl rfl ?_
  refine bz_rw_rR (pc := 43) dX12_ban_43 fl_X12_7 hP (fun r_13 hP => ?_)
  refine bz_iconst (v := 2) (pc := 46) dX12_ban_46 (by decide) ?_
  obtain ⟨a_14, rfl, hP⟩ := hP
  refine bz_rw_rA (pc := 47) dX12_ban_47 hP (fun x_15 hP => ?_)
  refine bz_icmp_ge (tgt := 86) (pc := 48) dX12_ban_48 (by decide) (fun c => ?_) (fun c => ?_)
  · have hP := hP.1 c
    refine bz_aload_n (pc := 86) dX12_ban_86 rfl rfl ?_
    refine bz_iload_n (pc := 87) dX12_ban_87 rfl rfl ?_
    refine bz_iconst (v := 3) (pc := 88) dX12_ban_88 (by decide) ?_
    refine bz_kIV (as := [.inl x1, .inl 3]) (st := []) (ci := 12) (pc := 89) dX12_ban_89 sc_X12_ofRider ml_X12_136 im_X12_ofRider se_X12_ofRider rfl rfl rfl (by decide) hP (fun x_16 h_17 hP => ?_)
    refine bz_s_istore (pc := 92) dX12_ban_92 (by decide) [some (.inr (some a0)), some (.inl x1), some (.inl x2), some (.inl x3), some (.inl x4), some (.inl x_16)] rfl ?_
    refine bz_iload (pc := 94) dX12_ban_94 rfl ?_
    refine bz_iload_n (pc := 96) dX12_ban_96 rfl rfl ?_
    refine bz_icmp_lt (tgt := 113) (pc := 97) dX12_ban_97 (by decide) (fun c => ?_) (fun c => ?_)
    · have hP := hP.1 c
      refine bz_iconst (v := 0) (pc := 113) dX12_ban_113 (by decide) ?_
      exact bz_retI (pc := 114) dX12_ban_114 rfl rfl hP
    · have hP := hP.2 c
      refine bz_iload (pc := 100) dX12_ban_100 rfl ?_
      refine bz_iload (pc := 102) dX12_ban_102 rfl ?_
      obtain ⟨hz, hP⟩ := hP
      refine bz_idiv (pc := 104) dX12_ban_104 hz ?_
      refine bz_iload_n (pc := 105) dX12_ban_105 rfl rfl ?_
      have hJ : bz_J G κ kX12_ban (d + 1) F bc bs 114 [some (.inr (some a0)), some (.inl x1), some (.inl x2), some (.inl x3), some (.inl x4), some (.inl x_16)] [.inl (if x2 ≤ (x4 / x_16) then 0 else 1)] h_17 := by
        exact bz_retI (pc := 114) dX12_ban_114 rfl rfl hP
      refine bz_icmp_ge (tgt := 113) (pc := 106) dX12_ban_106 (by decide) (fun c => ?_) (fun c => ?_)
      · have e9 : ((if x2 ≤ (x4 / x_16) then 0 else 1) : Int32) = (0) := if_pos c
        rw [e9] at hJ
        refine bz_iconst (v := 0) (pc := 113) dX12_ban_113 (by decide) ?_
        exact hJ
      · have e9 : ((if x2 ≤ (x4 / x_16) then 0 else 1) : Int32) = (1) := if_neg c
        rw [e9] at hJ
        refine bz_iconst (v := 1) (pc := 109) dX12_ban_109 (by decide) ?_
        refine bz_goto (tgt := 114) (pc := 110) dX12_ban_110 (by decide) ?_
        exact hJ
  · have hP := hP.2 c
    refine bz_iload (pc := 51) dX12_ban_51 rfl ?_
    refine bz_aload_n (pc := 53) dX12_ban_53 rfl rfl ?_
    refine bz_iload_n (pc := 54) dX12_ban_54 rfl rfl ?_
    refine bz_iload (pc := 55) dX12_ban_55 rfl ?_
    refine bz_kIV (as := [.inl x1, .inl x5]) (st := [.inl x4]) (ci := 12) (pc := 57) dX12_ban_57 sc_X12_isHis ml_X12_132 im_X12_isHis se_X12_isHis rfl rfl rfl (by decide) hP (fun x_18 h_19 hP => ?_)
    refine bz_if_eq (tgt := 76) (pc := 60) dX12_ban_60 (by decide) (fun c => ?_) (fun c => ?_)
    · have hP := hP.1 c
      refine bz_iconst (v := 0) (pc := 76) dX12_ban_76 (by decide) ?_
      refine bz_iadd (pc := 77) dX12_ban_77 ?_
      refine bz_s_istore (pc := 78) dX12_ban_78 (by decide) [some (.inr (some a0)), some (.inl x1), some (.inl x2), some (.inl x3), some (.inl (x4 + 0)), some (.inl x5)] rfl ?_
      refine bz_s_iinc (pc := 80) dX12_ban_80 (by decide) rfl rfl [some (.inr (some a0)), some (.inl x1), some (.inl x2), some (.inl x3), some (.inl (x4 + 0)), some (.inl (x5 + 1))] rfl ?_
      refine bz_goto (tgt := 40) (pc := 83) dX12_ban_83 (by decide) ?_
      exact hP
    · have hP := hP.2 c
      refine bz_aload_n (pc := 63) dX12_ban_63 rfl rfl ?_
      refine bz_iload (pc := 64) dX12_ban_64 rfl ?_
      refine bz_iconst (v := 2) (pc := 66) dX12_ban_66 (by decide) ?_
      refine bz_kIV (as := [.inl x5, .inl 2]) (st := [.inl x4]) (ci := 12) (pc := 67) dX12_ban_67 sc_X12_lack ml_X12_111 im_X12_lack se_X12_lack rfl rfl rfl (by decide) hP (fun x_20 h_21 hP => ?_)
      refine bz_kIS (as := [.inl x_20]) (st := [.inl x4]) (pc := 70) dX12_ban_70 sc_X12_lessOf50 ml_X12_114 ss_X12_lessOf50 rfl (by decide) hP (fun x_22 h_23 hP => ?_)
      refine bz_goto (tgt := 77) (pc := 73) dX12_ban_73 (by decide) ?_
      refine bz_iadd (pc := 77) dX12_ban_77 ?_
      refine bz_s_istore (pc := 78) dX12_ban_78 (by decide) [some (.inr (some a0)), some (.inl x1), some (.inl x2), some (.inl x3), some (.inl (x4 + x_22)), some (.inl x5)] rfl ?_
      refine bz_s_iinc (pc := 80) dX12_ban_80 (by decide) rfl rfl [some (.inr (some a0)), some (.inl x1), some (.inl x2), some (.inl x3), some (.inl (x4 + x_22)), some (.inl (x5 + 1))] rfl ?_
      refine bz_goto (tgt := 40) (pc := 83) dX12_ban_83 (by decide) ?_
      exact hP
theorem m_X12_ban {G : bz_G} {l : Launch} {d mc ms : Nat} {F : Option bz_V → bz_H → Prop} (a0 : Nat) (x1 : Int32) (x2 : Int32) (x3 : Int32) (h : bz_H) (hP : ∀ (κ : bz_K) (bc bs : Nat), κ.2.1 = l → bz_rc h a0 12 (bz_cI G l d kX12_isRider [.inr (some a0), .inl x1] h 0 0 (fun x_1 h_2 => (x_1 = 0 → bz_rc h_2 a0 12 (bz_cI G l d kX12_finding [.inr (some a0), .inl 0] h_2 0 0 (fun x_3 h_4 => F (some (.inl x_3)) h_4))) ∧ (¬ (x_1 = 0) → bz_cI G l d kX12_in [.inl x2, .inl 0, .inl 50] h_2 0 0 (fun x_5 h_6 => (x_5 = 0 → bz_rc h_6 a0 12 (bz_cI G l d kX12_finding [.inr (some a0), .inl 0] h_6 0 0 (fun x_7 h_8 => F (some (.inl x_7)) h_8))) ∧ (¬ (x_5 = 0) → bz_cI G l d kX12_in [.inl x3, .inl 1, .inl 9] h_6 0 0 (fun x_9 h_10 => (¬ x_9 = 0 → bz_J G κ kX12_ban (d + 1) F bc bs 40 [some (.inr (some a0)), some (.inl x1), some (.inl x2), some (.inl x3), some (.inl 0), some (.inl 0)] [] h_10) ∧ (x_9 = 0 → bz_rc h_10 a0 12 (bz_cI G l d kX12_finding [.inr (some a0), .inl 0] h_10 0 0 (fun x_11 h_12 => F (some (.inl x_11)) h_12)))))))))) : bz_Call G l (d + 1) kX12_ban [.inr (some a0), .inl x1, .inl x2, .inl x3] h mc ms F :=
  bz_body (by decide) (by decide) (fun κ hl => g_X12_ban_0 hl a0 x1 x2 x3 h (hP κ mc ms hl))
set_option maxRecDepth 20000 in
set_option maxHeartbeats 4000000 in
theorem g_X12_become_0 {G : bz_G} {κ : bz_K} {l : Launch} {d : Nat} {F : Option bz_V → bz_H → Prop} {bc bs : Nat} (hl : κ.2.1 = l) (a0 : Nat) (x1 : Int32) (x2 : Int32) (h : bz_H) (hP : bz_rR h a0 12 0 (fun r_1 => bz_nn r_1 (fun a_2 => bz_rA h a_2 x1 (fun x_3 => bz_rR h a0 12 0 (fun r_4 => bz_nn r_4 (fun a_5 => bz_wA h a_5 x1 x2 (fun h_6 => F (some (.inl x_3)) h_6))))))) : bz_J G κ kX12_become (d + 1) F bc bs 0 [some (.inr (some a0)), some (.inl x1), some (.inl x2), none] [] h := by
  subst hl
  refine bz_aload_n (pc := 0) dX12_become_0 rfl rfl ?_
  refine bz_rw_rR (pc := 1) dX12_become_1 fl_X12_7 hP (fun r_1 hP => ?_)
  refine bz_iload_n (pc := 4) dX12_become_4 rfl rfl ?_
  obtain ⟨a_2, rfl, hP⟩ := hP
  refine bz_rw_rA (pc := 5) dX12_become_5 hP (fun x_3 hP => ?_)
  refine bz_s_istore_n (pc := 6) dX12_become_6 rfl (by decide) [some (.inr (some a0)), some (.inl x1), some (.inl x2), some (.inl x_3)] rfl ?_
  refine bz_aload_n (pc := 7) dX12_become_7 rfl rfl ?_
  refine bz_rw_rR (pc := 8) dX12_become_8 fl_X12_7 hP (fun r_4 hP => ?_)
  refine bz_iload_n (pc := 11) dX12_become_11 rfl rfl ?_
  refine bz_iload_n (pc := 12) dX12_become_12 rfl rfl ?_
  obtain ⟨a_5, rfl, hP⟩ := hP
  refine bz_rw_wA (pc := 13) dX12_become_13 hP (fun h_6 hP => ?_)
  refine bz_iload_n (pc := 14) dX12_become_14 rfl rfl ?_
  exact bz_retI (pc := 15) dX12_become_15 rfl rfl hP
theorem m_X12_become {G : bz_G} {l : Launch} {d mc ms : Nat} {F : Option bz_V → bz_H → Prop} (a0 : Nat) (x1 : Int32) (x2 : Int32) (h : bz_H) (hP : bz_rR h a0 12 0 (fun r_1 => bz_nn r_1 (fun a_2 => bz_rA h a_2 x1 (fun x_3 => bz_rR h a0 12 0 (fun r_4 => bz_nn r_4 (fun a_5 => bz_wA h a_5 x1 x2 (fun h_6 => F (some (.inl x_3)) h_6))))))) : bz_Call G l (d + 1) kX12_become [.inr (some a0), .inl x1, .inl x2] h mc ms F :=
  bz_body (by decide) (by decide) (fun κ hl => g_X12_become_0 hl a0 x1 x2 h hP)
set_option maxRecDepth 20000 in
set_option maxHeartbeats 4000000 in
theorem g_X12_becomesGiven_0 {G : bz_G} {κ : bz_K} {l : Launch} {d : Nat} {F : Option bz_V → bz_H → Prop} {bc bs : Nat} (hl : κ.2.1 = l) (a0 : Nat) (x1 : Int32) (x2 : Int32) (x3 : Int32) (x4 : Int32) (h : bz_H) (hP : bz_rR h a0 12 0 (fun r_1 => bz_nn r_1 (fun a_2 => bz_wA h a_2 ((312 + (12 * x2)) + 5) 1 (fun h_3 => bz_rR h_3 a0 12 0 (fun r_4 => bz_nn r_4 (fun a_5 => bz_wA h_3 a_5 ((312 + (12 * x2)) + 6) x1 (fun h_6 => bz_rR h_6 a0 12 0 (fun r_7 => bz_rR h_6 a0 12 9 (fun r_8 => bz_nn r_8 (fun a_9 => bz_rA h_6 a_9 x3 (fun x_10 => bz_nn r_7 (fun a_11 => bz_wA h_6 a_11 ((312 + (12 * x2)) + 7) x_10 (fun h_12 => bz_rR h_12 a0 12 0 (fun r_13 => bz_rR h_12 a0 12 10 (fun r_14 => bz_nn r_14 (fun a_15 => bz_rA h_12 a_15 x3 (fun x_16 => bz_nn r_13 (fun a_17 => bz_wA h_12 a_17 ((312 + (12 * x2)) + 8) x_16 (fun h_18 => bz_rR h_18 a0 12 0 (fun r_19 => bz_nn r_19 (fun a_20 => bz_wA h_18 a_20 ((312 + (12 * x2)) + 9) x4 (fun h_21 => bz_rR h_21 a0 12 0 (fun r_22 => bz_nn r_22 (fun a_23 => bz_rA h_21 a_23 ((600 + (8 * x1)) + 3) (fun x_24 => bz_wA h_21 a_23 ((600 + (8 * x1)) + 3) (x_24 + 1) (fun h_25 => F none h_25)))))))))))))))))))))))))) : bz_J G κ kX12_becomesGiven (d + 1) F bc bs 0 [some (.inr (some a0)), some (.inl x1), some (.inl x2), some (.inl x3), some (.inl x4), none] [] h := by
  subst hl
  refine bz_sipush (v := 312) (pc := 0) dX12_becomesGiven_0 (by decide) ?_
  refine bz_bipush (v := 12) (pc := 3) dX12_becomesGiven_3 (by decide) ?_
  refine bz_iload_n (pc := 5) dX12_becomesGiven_5 rfl rfl ?_
  refine bz_imul (pc := 6) dX12_becomesGiven_6 ?_
  refine bz_iadd (pc := 7) dX12_becomesGiven_7 ?_
  refine bz_s_istore (pc := 8) dX12_becomesGiven_8 (by decide) [some (.inr (some a0)), some (.inl x1), some (.inl x2), some (.inl x3), some (.inl x4), some (.inl (312 + (12 * x2)))] rfl ?_
  refine bz_aload_n (pc := 10) dX12_becomesGiven_10 rfl rfl ?_
  refine bz_rw_rR (pc := 11) dX12_becomesGiven_11 fl_X12_7 hP (fun r_1 hP => ?_)
  refine bz_iload (pc := 14) dX12_becomesGiven_14 rfl ?_
  refine bz_iconst (v := 5) (pc := 16) dX12_becomesGiven_16 (by decide) ?_
  refine bz_iadd (pc := 17) dX12_becomesGiven_17 ?_
  refine bz_iconst (v := 1) (pc := 18) dX12_becomesGiven_18 (by decide) ?_
  obtain ⟨a_2, rfl, hP⟩ := hP
  refine bz_rw_wA (pc := 19) dX12_becomesGiven_19 hP (fun h_3 hP => ?_)
  refine bz_aload_n (pc := 20) dX12_becomesGiven_20 rfl rfl ?_
  refine bz_rw_rR (pc := 21) dX12_becomesGiven_21 fl_X12_7 hP (fun r_4 hP => ?_)
  refine bz_iload (pc := 24) dX12_becomesGiven_24 rfl ?_
  refine bz_bipush (v := 6) (pc := 26) dX12_becomesGiven_26 (by decide) ?_
  refine bz_iadd (pc := 28) dX12_becomesGiven_28 ?_
  refine bz_iload_n (pc := 29) dX12_becomesGiven_29 rfl rfl ?_
  obtain ⟨a_5, rfl, hP⟩ := hP
  refine bz_rw_wA (pc := 30) dX12_becomesGiven_30 hP (fun h_6 hP => ?_)
  refine bz_aload_n (pc := 31) dX12_becomesGiven_31 rfl rfl ?_
  refine bz_rw_rR (pc := 32) dX12_becomesGiven_32 fl_X12_7 hP (fun r_7 hP => ?_)
  refine bz_iload (pc := 35) dX12_becomesGiven_35 rfl ?_
  refine bz_bipush (v := 7) (pc := 37) dX12_becomesGiven_37 (by decide) ?_
  refine bz_iadd (pc := 39) dX12_becomesGiven_39 ?_
  refine bz_aload_n (pc := 40) dX12_becomesGiven_40 rfl rfl ?_
  refine bz_rw_rR (pc := 41) dX12_becomesGiven_41 fl_X12_22 hP (fun r_8 hP => ?_)
  refine bz_iload_n (pc := 44) dX12_becomesGiven_44 rfl rfl ?_
  obtain ⟨a_9, rfl, hP⟩ := hP
  refine bz_rw_rA (pc := 45) dX12_becomesGiven_45 hP (fun x_10 hP => ?_)
  obtain ⟨a_11, rfl, hP⟩ := hP
  refine bz_rw_wA (pc := 46) dX12_becomesGiven_46 hP (fun h_12 hP => ?_)
  refine bz_aload_n (pc := 47) dX12_becomesGiven_47 rfl rfl ?_
  refine bz_rw_rR (pc := 48) dX12_becomesGiven_48 fl_X12_7 hP (fun r_13 hP => ?_)
  refine bz_iload (pc := 51) dX12_becomesGiven_51 rfl ?_
  refine bz_bipush (v := 8) (pc := 53) dX12_becomesGiven_53 (by decide) ?_
  refine bz_iadd (pc := 55) dX12_becomesGiven_55 ?_
  refine bz_aload_n (pc := 56) dX12_becomesGiven_56 rfl rfl ?_
  refine bz_rw_rR (pc := 57) dX12_becomesGiven_57 fl_X12_25 hP (fun r_14 hP => ?_)
  refine bz_iload_n (pc := 60) dX12_becomesGiven_60 rfl rfl ?_
  obtain ⟨a_15, rfl, hP⟩ := hP
  refine bz_rw_rA (pc := 61) dX12_becomesGiven_61 hP (fun x_16 hP => ?_)
  obtain ⟨a_17, rfl, hP⟩ := hP
  refine bz_rw_wA (pc := 62) dX12_becomesGiven_62 hP (fun h_18 hP => ?_)
  refine bz_aload_n (pc := 63) dX12_becomesGiven_63 rfl rfl ?_
  refine bz_rw_rR (pc := 64) dX12_becomesGiven_64 fl_X12_7 hP (fun r_19 hP => ?_)
  refine bz_iload (pc := 67) dX12_becomesGiven_67 rfl ?_
  refine bz_bipush (v := 9) (pc := 69) dX12_becomesGiven_69 (by decide) ?_
  refine bz_iadd (pc := 71) dX12_becomesGiven_71 ?_
  refine bz_iload (pc := 72) dX12_becomesGiven_72 rfl ?_
  obtain ⟨a_20, rfl, hP⟩ := hP
  refine bz_rw_wA (pc := 74) dX12_becomesGiven_74 hP (fun h_21 hP => ?_)
  refine bz_aload_n (pc := 75) dX12_becomesGiven_75 rfl rfl ?_
  refine bz_rw_rR (pc := 76) dX12_becomesGiven_76 fl_X12_7 hP (fun r_22 hP => ?_)
  refine bz_sipush (v := 600) (pc := 79) dX12_becomesGiven_79 (by decide) ?_
  refine bz_bipush (v := 8) (pc := 82) dX12_becomesGiven_82 (by decide) ?_
  refine bz_iload_n (pc := 84) dX12_becomesGiven_84 rfl rfl ?_
  refine bz_imul (pc := 85) dX12_becomesGiven_85 ?_
  refine bz_iadd (pc := 86) dX12_becomesGiven_86 ?_
  refine bz_iconst (v := 3) (pc := 87) dX12_becomesGiven_87 (by decide) ?_
  refine bz_iadd (pc := 88) dX12_becomesGiven_88 ?_
  refine bz_dup2 (pc := 89) dX12_becomesGiven_89 ?_
  obtain ⟨a_23, rfl, hP⟩ := hP
  refine bz_rw_rA (pc := 90) dX12_becomesGiven_90 hP (fun x_24 hP => ?_)
  refine bz_iconst (v := 1) (pc := 91) dX12_becomesGiven_91 (by decide) ?_
  refine bz_iadd (pc := 92) dX12_becomesGiven_92 ?_
  refine bz_rw_wA (pc := 93) dX12_becomesGiven_93 hP (fun h_25 hP => ?_)
  exact bz_retV (pc := 94) dX12_becomesGiven_94 rfl hP
theorem m_X12_becomesGiven {G : bz_G} {l : Launch} {d mc ms : Nat} {F : Option bz_V → bz_H → Prop} (a0 : Nat) (x1 : Int32) (x2 : Int32) (x3 : Int32) (x4 : Int32) (h : bz_H) (hP : bz_rR h a0 12 0 (fun r_1 => bz_nn r_1 (fun a_2 => bz_wA h a_2 ((312 + (12 * x2)) + 5) 1 (fun h_3 => bz_rR h_3 a0 12 0 (fun r_4 => bz_nn r_4 (fun a_5 => bz_wA h_3 a_5 ((312 + (12 * x2)) + 6) x1 (fun h_6 => bz_rR h_6 a0 12 0 (fun r_7 => bz_rR h_6 a0 12 9 (fun r_8 => bz_nn r_8 (fun a_9 => bz_rA h_6 a_9 x3 (fun x_10 => bz_nn r_7 (fun a_11 => bz_wA h_6 a_11 ((312 + (12 * x2)) + 7) x_10 (fun h_12 => bz_rR h_12 a0 12 0 (fun r_13 => bz_rR h_12 a0 12 10 (fun r_14 => bz_nn r_14 (fun a_15 => bz_rA h_12 a_15 x3 (fun x_16 => bz_nn r_13 (fun a_17 => bz_wA h_12 a_17 ((312 + (12 * x2)) + 8) x_16 (fun h_18 => bz_rR h_18 a0 12 0 (fun r_19 => bz_nn r_19 (fun a_20 => bz_wA h_18 a_20 ((312 + (12 * x2)) + 9) x4 (fun h_21 => bz_rR h_21 a0 12 0 (fun r_22 => bz_nn r_22 (fun a_23 => bz_rA h_21 a_23 ((600 + (8 * x1)) + 3) (fun x_24 => bz_wA h_21 a_23 ((600 + (8 * x1)) + 3) (x_24 + 1) (fun h_25 => F none h_25)))))))))))))))))))))))))) : bz_Call G l (d + 1) kX12_becomesGiven [.inr (some a0), .inl x1, .inl x2, .inl x3, .inl x4] h mc ms F :=
  bz_body (by decide) (by decide) (fun κ hl => g_X12_becomesGiven_0 hl a0 x1 x2 x3 x4 h hP)
set_option maxRecDepth 20000 in
set_option maxHeartbeats 4000000 in
theorem g_X12_begin_0 {G : bz_G} {κ : bz_K} {l : Launch} {d : Nat} {F : Option bz_V → bz_H → Prop} {bc bs : Nat} (hl : κ.2.1 = l) (a0 : Nat) (x1 : Int32) (x2 : Int32) (h : bz_H) (hP : bz_wI h a0 12 6 x1 (fun h_1 => bz_wI h_1 a0 12 7 x2 (fun h_2 => bz_b 1 (bz_wI h_2 a0 12 8 1 (fun h_3 => F none h_3))))) : bz_J G κ kX12_begin (d + 1) F bc bs 0 [some (.inr (some a0)), some (.inl x1), some (.inl x2)] [] h := by
  subst hl
  refine bz_aload_n (pc := 0) dX12_begin_0 rfl rfl ?_
  refine bz_iload_n (pc := 1) dX12_begin_1 rfl rfl ?_
  refine bz_rw_wI (pc := 2) dX12_begin_2 fl_X12_163 (fun q h9 => by cases h9; rfl) rfl hP (fun h_1 hP => ?_)
  refine bz_aload_n (pc := 5) dX12_begin_5 rfl rfl ?_
  refine bz_iload_n (pc := 6) dX12_begin_6 rfl rfl ?_
  refine bz_rw_wI (pc := 7) dX12_begin_7 fl_X12_167 (fun q h9 => by cases h9; rfl) rfl hP (fun h_2 hP => ?_)
  refine bz_aload_n (pc := 10) dX12_begin_10 rfl rfl ?_
  refine bz_iconst (v := 1) (pc := 11) dX12_begin_11 (by decide) ?_
  refine bz_rw_wZ (pc := 12) dX12_begin_12 fl_X12_160 (fun q h9 => by cases h9; rfl) rfl hP (fun h_3 hP => ?_)
  exact bz_retV (pc := 15) dX12_begin_15 rfl hP
theorem m_X12_begin {G : bz_G} {l : Launch} {d mc ms : Nat} {F : Option bz_V → bz_H → Prop} (a0 : Nat) (x1 : Int32) (x2 : Int32) (h : bz_H) (hP : bz_wI h a0 12 6 x1 (fun h_1 => bz_wI h_1 a0 12 7 x2 (fun h_2 => bz_b 1 (bz_wI h_2 a0 12 8 1 (fun h_3 => F none h_3))))) : bz_Call G l (d + 1) kX12_begin [.inr (some a0), .inl x1, .inl x2] h mc ms F :=
  bz_body (by decide) (by decide) (fun κ hl => g_X12_begin_0 hl a0 x1 x2 h hP)
set_option maxRecDepth 20000 in
set_option maxHeartbeats 4000000 in
theorem g_X12_beginsAt_0 {G : bz_G} {κ : bz_K} {l : Launch} {d : Nat} {F : Option bz_V → bz_H → Prop} {bc bs : Nat} (hl : κ.2.1 = l) (a0 : Nat) (x1 : Int32) (h : bz_H) (hP : bz_rc h a0 12 (bz_cI G l d kX12_ofRider [.inr (some a0), .inl x1, .inl 2] h 0 0 (fun x_1 h_2 => bz_rR h_2 a0 12 0 (fun r_3 => bz_nn r_3 (fun a_4 => bz_rA h_2 a_4 0 (fun x_5 => (x_1 ≤ x_5 → bz_rR h_2 a0 12 0 (fun r_6 => bz_nn r_6 (fun a_7 => bz_rA h_2 a_7 0 (fun x_8 => F (some (.inl x_8)) h_2)))) ∧ (¬ (x_1 ≤ x_5) → bz_rc h_2 a0 12 (bz_cI G l d kX12_ofRider [.inr (some a0), .inl x1, .inl 2] h_2 0 0 (fun x_9 h_10 => F (some (.inl x_9)) h_10))))))))) : bz_J G κ kX12_beginsAt (d + 1) F bc bs 0 [some (.inr (some a0)), some (.inl x1)] [] h := by
  subst hl
  refine bz_aload_n (pc := 0) dX12_beginsAt_0 rfl rfl ?_
  refine bz_iload_n (pc := 1) dX12_beginsAt_1 rfl rfl ?_
  refine bz_iconst (v := 2) (pc := 2) dX12_beginsAt_2 (by decide) ?_
  refine bz_kIV (as := [.inl x1, .inl 2]) (st := []) (ci := 12) (pc := 3) dX12_beginsAt_3 sc_X12_ofRider ml_X12_136 im_X12_ofRider se_X12_ofRider rfl rfl rfl (by decide) hP (fun x_1 h_2 hP => ?_)
  refine bz_aload_n (pc := 6) dX12_beginsAt_6 rfl rfl ?_
  refine bz_rw_rR (pc := 7) dX12_beginsAt_7 fl_X12_7 hP (fun r_3 hP => ?_)
  refine bz_iconst (v := 0) (pc := 10) dX12_beginsAt_10 (by decide) ?_
  obtain ⟨a_4, rfl, hP⟩ := hP
  refine bz_rw_rA (pc := 11) dX12_beginsAt_11 hP (fun x_5 hP => ?_)
  refine bz_icmp_le (tgt := 24) (pc := 12) dX12_beginsAt_12 (by decide) (fun c => ?_) (fun c => ?_)
  · have hP := hP.1 c
    refine bz_aload_n (pc := 24) dX12_beginsAt_24 rfl rfl ?_
    refine bz_rw_rR (pc := 25) dX12_beginsAt_25 fl_X12_7 hP (fun r_6 hP => ?_)
    refine bz_iconst (v := 0) (pc := 28) dX12_beginsAt_28 (by decide) ?_
    obtain ⟨a_7, rfl, hP⟩ := hP
    refine bz_rw_rA (pc := 29) dX12_beginsAt_29 hP (fun x_8 hP => ?_)
    exact bz_retI (pc := 30) dX12_beginsAt_30 rfl rfl hP
  · have hP := hP.2 c
    refine bz_aload_n (pc := 15) dX12_beginsAt_15 rfl rfl ?_
    refine bz_iload_n (pc := 16) dX12_beginsAt_16 rfl rfl ?_
    refine bz_iconst (v := 2) (pc := 17) dX12_beginsAt_17 (by decide) ?_
    refine bz_kIV (as := [.inl x1, .inl 2]) (st := []) (ci := 12) (pc := 18) dX12_beginsAt_18 sc_X12_ofRider ml_X12_136 im_X12_ofRider se_X12_ofRider rfl rfl rfl (by decide) hP (fun x_9 h_10 hP => ?_)
    refine bz_goto (tgt := 30) (pc := 21) dX12_beginsAt_21 (by decide) ?_
    exact bz_retI (pc := 30) dX12_beginsAt_30 rfl rfl hP
theorem m_X12_beginsAt {G : bz_G} {l : Launch} {d mc ms : Nat} {F : Option bz_V → bz_H → Prop} (a0 : Nat) (x1 : Int32) (h : bz_H) (hP : bz_rc h a0 12 (bz_cI G l d kX12_ofRider [.inr (some a0), .inl x1, .inl 2] h 0 0 (fun x_1 h_2 => bz_rR h_2 a0 12 0 (fun r_3 => bz_nn r_3 (fun a_4 => bz_rA h_2 a_4 0 (fun x_5 => (x_1 ≤ x_5 → bz_rR h_2 a0 12 0 (fun r_6 => bz_nn r_6 (fun a_7 => bz_rA h_2 a_7 0 (fun x_8 => F (some (.inl x_8)) h_2)))) ∧ (¬ (x_1 ≤ x_5) → bz_rc h_2 a0 12 (bz_cI G l d kX12_ofRider [.inr (some a0), .inl x1, .inl 2] h_2 0 0 (fun x_9 h_10 => F (some (.inl x_9)) h_10))))))))) : bz_Call G l (d + 1) kX12_beginsAt [.inr (some a0), .inl x1] h mc ms F :=
  bz_body (by decide) (by decide) (fun κ hl => g_X12_beginsAt_0 hl a0 x1 h hP)
set_option maxRecDepth 20000 in
set_option maxHeartbeats 4000000 in
theorem g_X12_bring_0 {G : bz_G} {κ : bz_K} {l : Launch} {d : Nat} {F : Option bz_V → bz_H → Prop} {bc bs : Nat} (hl : κ.2.1 = l) (a0 : Nat) (x1 : Int32) (x2 : Int32) (x3 : Int32) (h : bz_H) (hP : bz_rc h a0 12 (bz_cI G l d kX12_ofOrder [.inr (some a0), .inl x2, .inl 1] h 0 0 (fun x_1 h_2 => bz_rc h_2 a0 12 (bz_cV G l d kX12_ride [.inr (some a0), .inl x1, .inl x_1] h_2 0 0 (fun h_4 => bz_rR h_4 a0 12 10 (fun r_5 => bz_rI h_4 a0 12 7 (fun x_6 => bz_nn r_5 (fun a_7 => bz_wA h_4 a_7 x3 x_6 (fun h_8 => F none h_8))))))))) : bz_J G κ kX12_bring (d + 1) F bc bs 0 [some (.inr (some a0)), some (.inl x1), some (.inl x2), some (.inl x3)] [] h := by
  subst hl
  refine bz_aload_n (pc := 0) dX12_bring_0 rfl rfl ?_
  refine bz_iload_n (pc := 1) dX12_bring_1 rfl rfl ?_
  refine bz_aload_n (pc := 2) dX12_bring_2 rfl rfl ?_
  refine bz_iload_n (pc := 3) dX12_bring_3 rfl rfl ?_
  refine bz_iconst (v := 1) (pc := 4) dX12_bring_4 (by decide) ?_
  refine bz_kIV (as := [.inl x2, .inl 1]) (st := [.inl x1, .inr (some a0)]) (ci := 12) (pc := 5) dX12_bring_5 sc_X12_ofOrder ml_X12_99 im_X12_ofOrder se_X12_ofOrder rfl rfl rfl (by decide) hP (fun x_1 h_2 hP => ?_)
  refine bz_kVV (as := [.inl x1, .inl x_1]) (st := []) (ci := 12) (pc := 8) dX12_bring_8 sc_X12_ride ml_X12_173 im_X12_ride se_X12_ride rfl rfl rfl (by decide) hP (fun h_4 hP => ?_)
  refine bz_aload_n (pc := 11) dX12_bring_11 rfl rfl ?_
  refine bz_rw_rR (pc := 12) dX12_bring_12 fl_X12_25 hP (fun r_5 hP => ?_)
  refine bz_iload_n (pc := 15) dX12_bring_15 rfl rfl ?_
  refine bz_aload_n (pc := 16) dX12_bring_16 rfl rfl ?_
  refine bz_rw_rI (pc := 17) dX12_bring_17 fl_X12_167 hP (fun x_6 hP => ?_)
  obtain ⟨a_7, rfl, hP⟩ := hP
  refine bz_rw_wA (pc := 20) dX12_bring_20 hP (fun h_8 hP => ?_)
  exact bz_retV (pc := 21) dX12_bring_21 rfl hP
theorem m_X12_bring {G : bz_G} {l : Launch} {d mc ms : Nat} {F : Option bz_V → bz_H → Prop} (a0 : Nat) (x1 : Int32) (x2 : Int32) (x3 : Int32) (h : bz_H) (hP : bz_rc h a0 12 (bz_cI G l d kX12_ofOrder [.inr (some a0), .inl x2, .inl 1] h 0 0 (fun x_1 h_2 => bz_rc h_2 a0 12 (bz_cV G l d kX12_ride [.inr (some a0), .inl x1, .inl x_1] h_2 0 0 (fun h_4 => bz_rR h_4 a0 12 10 (fun r_5 => bz_rI h_4 a0 12 7 (fun x_6 => bz_nn r_5 (fun a_7 => bz_wA h_4 a_7 x3 x_6 (fun h_8 => F none h_8))))))))) : bz_Call G l (d + 1) kX12_bring [.inr (some a0), .inl x1, .inl x2, .inl x3] h mc ms F :=
  bz_body (by decide) (by decide) (fun κ hl => g_X12_bring_0 hl a0 x1 x2 x3 h hP)
set_option maxRecDepth 20000 in
set_option maxHeartbeats 4000000 in
theorem g_X12_callOff_0 {G : bz_G} {κ : bz_K} {l : Launch} {d : Nat} {F : Option bz_V → bz_H → Prop} {bc bs : Nat} (hl : κ.2.1 = l) (a0 : Nat) (x1 : Int32) (h : bz_H) (hP : bz_rc h a0 12 (bz_cI G l d kX12_isOrder [.inr (some a0), .inl x1] h 0 0 (fun x_1 h_2 => (¬ x_1 = 0 → bz_rc h_2 a0 12 (bz_cI G l d kX12_isWaiting [.inr (some a0), .inl x1] h_2 0 0 (fun x_3 h_4 => (¬ x_3 = 0 → bz_rR h_4 a0 12 0 (fun r_5 => bz_nn r_5 (fun a_6 => bz_wA h_4 a_6 ((312 + (12 * x1)) + 5) 2 (fun h_7 => F (some (.inl 1)) h_7)))) ∧ (x_3 = 0 → bz_rc h_4 a0 12 (bz_cI G l d kX12_finding [.inr (some a0), .inl 4] h_4 0 0 (fun x_8 h_9 => F (some (.inl x_8)) h_9)))))) ∧ (x_1 = 0 → bz_rc h_2 a0 12 (bz_cI G l d kX12_finding [.inr (some a0), .inl 0] h_2 0 0 (fun x_10 h_11 => F (some (.inl x_10)) h_11)))))) : bz_J G κ kX12_callOff (d + 1) F bc bs 0 [some (.inr (some a0)), some (.inl x1)] [] h := by
  subst hl
  refine bz_aload_n (pc := 0) dX12_callOff_0 rfl rfl ?_
  refine bz_iload_n (pc := 1) dX12_callOff_1 rfl rfl ?_
  refine bz_kIV (as := [.inl x1]) (st := []) (ci := 12) (pc := 2) dX12_callOff_2 sc_X12_isOrder ml_X12_117 im_X12_isOrder se_X12_isOrder rfl rfl rfl (by decide) hP (fun x_1 h_2 hP => ?_)
  refine bz_if_ne (tgt := 14) (pc := 5) dX12_callOff_5 (by decide) (fun c => ?_) (fun c => ?_)
  · have hP := hP.1 c
    refine bz_aload_n (pc := 14) dX12_callOff_14 rfl rfl ?_
    refine bz_iload_n (pc := 15) dX12_callOff_15 rfl rfl ?_
    refine bz_kIV (as := [.inl x1]) (st := []) (ci := 12) (pc := 16) dX12_callOff_16 sc_X12_isWaiting ml_X12_129 im_X12_isWaiting se_X12_isWaiting rfl rfl rfl (by decide) hP (fun x_3 h_4 hP => ?_)
    refine bz_if_ne (tgt := 28) (pc := 19) dX12_callOff_19 (by decide) (fun c => ?_) (fun c => ?_)
    · have hP := hP.1 c
      refine bz_aload_n (pc := 28) dX12_callOff_28 rfl rfl ?_
      refine bz_rw_rR (pc := 29) dX12_callOff_29 fl_X12_7 hP (fun r_5 hP => ?_)
      refine bz_sipush (v := 312) (pc := 32) dX12_callOff_32 (by decide) ?_
      refine bz_bipush (v := 12) (pc := 35) dX12_callOff_35 (by decide) ?_
      refine bz_iload_n (pc := 37) dX12_callOff_37 rfl rfl ?_
      refine bz_imul (pc := 38) dX12_callOff_38 ?_
      refine bz_iadd (pc := 39) dX12_callOff_39 ?_
      refine bz_iconst (v := 5) (pc := 40) dX12_callOff_40 (by decide) ?_
      refine bz_iadd (pc := 41) dX12_callOff_41 ?_
      refine bz_iconst (v := 2) (pc := 42) dX12_callOff_42 (by decide) ?_
      obtain ⟨a_6, rfl, hP⟩ := hP
      refine bz_rw_wA (pc := 43) dX12_callOff_43 hP (fun h_7 hP => ?_)
      refine bz_iconst (v := 1) (pc := 44) dX12_callOff_44 (by decide) ?_
      exact bz_retI (pc := 45) dX12_callOff_45 rfl rfl hP
    · have hP := hP.2 c
      refine bz_aload_n (pc := 22) dX12_callOff_22 rfl rfl ?_
      refine bz_iconst (v := 4) (pc := 23) dX12_callOff_23 (by decide) ?_
      refine bz_kIV (as := [.inl 4]) (st := []) (ci := 12) (pc := 24) dX12_callOff_24 sc_X12_finding ml_X12_73 im_X12_finding se_X12_finding rfl rfl rfl (by decide) hP (fun x_8 h_9 hP => ?_)
      exact bz_retI (pc := 27) dX12_callOff_27 rfl rfl hP
  · have hP := hP.2 c
    refine bz_aload_n (pc := 8) dX12_callOff_8 rfl rfl ?_
    refine bz_iconst (v := 0) (pc := 9) dX12_callOff_9 (by decide) ?_
    refine bz_kIV (as := [.inl 0]) (st := []) (ci := 12) (pc := 10) dX12_callOff_10 sc_X12_finding ml_X12_73 im_X12_finding se_X12_finding rfl rfl rfl (by decide) hP (fun x_10 h_11 hP => ?_)
    exact bz_retI (pc := 13) dX12_callOff_13 rfl rfl hP
theorem m_X12_callOff {G : bz_G} {l : Launch} {d mc ms : Nat} {F : Option bz_V → bz_H → Prop} (a0 : Nat) (x1 : Int32) (h : bz_H) (hP : bz_rc h a0 12 (bz_cI G l d kX12_isOrder [.inr (some a0), .inl x1] h 0 0 (fun x_1 h_2 => (¬ x_1 = 0 → bz_rc h_2 a0 12 (bz_cI G l d kX12_isWaiting [.inr (some a0), .inl x1] h_2 0 0 (fun x_3 h_4 => (¬ x_3 = 0 → bz_rR h_4 a0 12 0 (fun r_5 => bz_nn r_5 (fun a_6 => bz_wA h_4 a_6 ((312 + (12 * x1)) + 5) 2 (fun h_7 => F (some (.inl 1)) h_7)))) ∧ (x_3 = 0 → bz_rc h_4 a0 12 (bz_cI G l d kX12_finding [.inr (some a0), .inl 4] h_4 0 0 (fun x_8 h_9 => F (some (.inl x_8)) h_9)))))) ∧ (x_1 = 0 → bz_rc h_2 a0 12 (bz_cI G l d kX12_finding [.inr (some a0), .inl 0] h_2 0 0 (fun x_10 h_11 => F (some (.inl x_10)) h_11)))))) : bz_Call G l (d + 1) kX12_callOff [.inr (some a0), .inl x1] h mc ms F :=
  bz_body (by decide) (by decide) (fun κ hl => g_X12_callOff_0 hl a0 x1 h hP)
set_option maxRecDepth 20000 in
set_option maxHeartbeats 4000000 in
theorem g_X12_copy_0 {G : bz_G} {κ : bz_K} {l : Launch} {d : Nat} {F : Option bz_V → bz_H → Prop} {bc bs : Nat} (hl : κ.2.1 = l) (a0 : Nat) (x1 : Int32) (x2 : Int32) (x3 : Int32) (x4 : Int32) (x5 : Int32) (h : bz_H) (hP : bz_cI G l d kX12_isSheet [.inl x1] h 0 0 (fun x_1 h_2 => (x_1 = 0 → bz_rc h_2 a0 12 (bz_cI G l d kX12_finding [.inr (some a0), .inl 0] h_2 0 0 (fun x_3 h_4 => F (some (.inl x_3)) h_4))) ∧ (¬ (x_1 = 0) → bz_cI G l d kX12_isSheet [.inl x3] h_2 0 0 (fun x_5 h_6 => (¬ x_5 = 0 → bz_rR h_6 a0 12 30 (fun r_7 => bz_nn r_7 (fun a_8 => bz_rA h_6 a_8 x1 (fun x_9 => (x_9 = 0 → bz_rc h_6 a0 12 (bz_cI G l d kX12_finding [.inr (some a0), .inl 5] h_6 0 0 (fun x_10 h_11 => F (some (.inl x_10)) h_11))) ∧ (¬ (x_9 = 0) → bz_rR h_6 a0 12 30 (fun r_12 => bz_nn r_12 (fun a_13 => bz_rA h_6 a_13 x3 (fun x_14 => (¬ x_14 = 0 → bz_rR h_6 a0 12 30 (fun r_15 => bz_nn r_15 (fun a_16 => bz_rA h_6 a_16 x1 (fun x_17 => bz_rR h_6 a0 12 30 (fun r_18 => bz_nn r_18 (fun a_19 => bz_rA h_6 a_19 x3 (fun x_20 => (x_17 = x_20 → (x2 < 0 → bz_rc h_6 a0 12 (bz_cI G l d kX12_finding [.inr (some a0), .inl 0] h_6 0 0 (fun x_21 h_22 => F (some (.inl x_21)) h_22))) ∧ (¬ (x2 < 0) → (x4 < 0 → bz_rc h_6 a0 12 (bz_cI G l d kX12_finding [.inr (some a0), .inl 0] h_6 0 0 (fun x_23 h_24 => F (some (.inl x_23)) h_24))) ∧ (¬ (x4 < 0) → (x5 < 0 → bz_rc h_6 a0 12 (bz_cI G l d kX12_finding [.inr (some a0), .inl 0] h_6 0 0 (fun x_25 h_26 => F (some (.inl x_25)) h_26))) ∧ (¬ (x5 < 0) → bz_rR h_6 a0 12 31 (fun r_27 => bz_nn r_27 (fun a_28 => bz_rA h_6 a_28 x1 (fun x_29 => ((x_29 - x5) < x2 → bz_rc h_6 a0 12 (bz_cI G l d kX12_finding [.inr (some a0), .inl 0] h_6 0 0 (fun x_30 h_31 => F (some (.inl x_30)) h_31))) ∧ (¬ ((x_29 - x5) < x2) → bz_rR h_6 a0 12 31 (fun r_32 => bz_nn r_32 (fun a_33 => bz_rA h_6 a_33 x3 (fun x_34 => (x4 ≤ (x_34 - x5) → bz_J G κ kX12_copy (d + 1) F bc bs 115 [some (.inr (some a0)), some (.inl x1), some (.inl x2), some (.inl x3), some (.inl x4), some (.inl x5), some (.inl 0)] [] h_6) ∧ (¬ (x4 ≤ (x_34 - x5)) → bz_rc h_6 a0 12 (bz_cI G l d kX12_finding [.inr (some a0), .inl 0] h_6 0 0 (fun x_35 h_36 => F (some (.inl x_35)) h_36)))))))))))))) ∧ (¬ (x_17 = x_20) → bz_rc h_6 a0 12 (bz_cI G l d kX12_finding [.inr (some a0), .inl 2] h_6 0 0 (fun x_37 h_38 => F (some (.inl x_37)) h_38)))))))))) ∧ (x_14 = 0 → bz_rc h_6 a0 12 (bz_cI G l d kX12_finding [.inr (some a0), .inl 5] h_6 0 0 (fun x_39 h_40 => F (some (.inl x_39)) h_40))))))))))) ∧ (x_5 = 0 → bz_rc h_6 a0 12 (bz_cI G l d kX12_finding [.inr (some a0), .inl 0] h_6 0 0 (fun x_41 h_42 => F (some (.inl x_41)) h_42))))))) : bz_J G κ kX12_copy (d + 1) F bc bs 0 [some (.inr (some a0)), some (.inl x1), some (.inl x2), some (.inl x3), some (.inl x4), some (.inl x5), none] [] h := by
  subst hl
  refine bz_iload_n (pc := 0) dX12_copy_0 rfl rfl ?_
  refine bz_kIS (as := [.inl x1]) (st := []) (pc := 1) dX12_copy_1 sc_X12_isSheet ml_X12_341 ss_X12_isSheet rfl (by decide) hP (fun x_1 h_2 hP => ?_)
  refine bz_if_eq (tgt := 14) (pc := 4) dX12_copy_4 (by decide) (fun c => ?_) (fun c => ?_)
  · have hP := hP.1 c
    refine bz_aload_n (pc := 14) dX12_copy_14 rfl rfl ?_
    refine bz_iconst (v := 0) (pc := 15) dX12_copy_15 (by decide) ?_
    refine bz_kIV (as := [.inl 0]) (st := []) (ci := 12) (pc := 16) dX12_copy_16 sc_X12_finding ml_X12_73 im_X12_finding se_X12_finding rfl rfl rfl (by decide) hP (fun x_3 h_4 hP => ?_)
    exact bz_retI (pc := 19) dX12_copy_19 rfl rfl hP
  · have hP := hP.2 c
    refine bz_iload_n (pc := 7) dX12_copy_7 rfl rfl ?_
    refine bz_kIS (as := [.inl x3]) (st := []) (pc := 8) dX12_copy_8 sc_X12_isSheet ml_X12_341 ss_X12_isSheet rfl (by decide) hP (fun x_5 h_6 hP => ?_)
    refine bz_if_ne (tgt := 20) (pc := 11) dX12_copy_11 (by decide) (fun c => ?_) (fun c => ?_)
    · have hP := hP.1 c
      refine bz_aload_n (pc := 20) dX12_copy_20 rfl rfl ?_
      refine bz_rw_rR (pc := 21) dX12_copy_21 fl_X12_52 hP (fun r_7 hP => ?_)
      refine bz_iload_n (pc := 24) dX12_copy_24 rfl rfl ?_
      obtain ⟨a_8, rfl, hP⟩ := hP
      refine bz_rw_rA (pc := 25) dX12_copy_25 hP (fun x_9 hP => ?_)
      refine bz_if_eq (tgt := 38) (pc := 26) dX12_copy_26 (by decide) (fun c => ?_) (fun c => ?_)
      · have hP := hP.1 c
        refine bz_aload_n (pc := 38) dX12_copy_38 rfl rfl ?_
        refine bz_iconst (v := 5) (pc := 39) dX12_copy_39 (by decide) ?_
        refine bz_kIV (as := [.inl 5]) (st := []) (ci := 12) (pc := 40) dX12_copy_40 sc_X12_finding ml_X12_73 im_X12_finding se_X12_finding rfl rfl rfl (by decide) hP (fun x_10 h_11 hP => ?_)
        exact bz_retI (pc := 43) dX12_copy_43 rfl rfl hP
      · have hP := hP.2 c
        refine bz_aload_n (pc := 29) dX12_copy_29 rfl rfl ?_
        refine bz_rw_rR (pc := 30) dX12_copy_30 fl_X12_52 hP (fun r_12 hP => ?_)
        refine bz_iload_n (pc := 33) dX12_copy_33 rfl rfl ?_
        obtain ⟨a_13, rfl, hP⟩ := hP
        refine bz_rw_rA (pc := 34) dX12_copy_34 hP (fun x_14 hP => ?_)
        refine bz_if_ne (tgt := 44) (pc := 35) dX12_copy_35 (by decide) (fun c => ?_) (fun c => ?_)
        · have hP := hP.1 c
          refine bz_aload_n (pc := 44) dX12_copy_44 rfl rfl ?_
          refine bz_rw_rR (pc := 45) dX12_copy_45 fl_X12_52 hP (fun r_15 hP => ?_)
          refine bz_iload_n (pc := 48) dX12_copy_48 rfl rfl ?_
          obtain ⟨a_16, rfl, hP⟩ := hP
          refine bz_rw_rA (pc := 49) dX12_copy_49 hP (fun x_17 hP => ?_)
          refine bz_aload_n (pc := 50) dX12_copy_50 rfl rfl ?_
          refine bz_rw_rR (pc := 51) dX12_copy_51 fl_X12_52 hP (fun r_18 hP => ?_)
          refine bz_iload_n (pc := 54) dX12_copy_54 rfl rfl ?_
          obtain ⟨a_19, rfl, hP⟩ := hP
          refine bz_rw_rA (pc := 55) dX12_copy_55 hP (fun x_20 hP => ?_)
          refine bz_icmp_eq (tgt := 65) (pc := 56) dX12_copy_56 (by decide) (fun c => ?_) (fun c => ?_)
          · have hP := hP.1 c
            refine bz_iload_n (pc := 65) dX12_copy_65 rfl rfl ?_
            refine bz_if_lt (tgt := 106) (pc := 66) dX12_copy_66 (by decide) (fun c => ?_) (fun c => ?_)
            · have hP := hP.1 c
              refine bz_aload_n (pc := 106) dX12_copy_106 rfl rfl ?_
              refine bz_iconst (v := 0) (pc := 107) dX12_copy_107 (by decide) ?_
              refine bz_kIV (as := [.inl 0]) (st := []) (ci := 12) (pc := 108) dX12_copy_108 sc_X12_finding ml_X12_73 im_X12_finding se_X12_finding rfl rfl rfl (by decide) hP (fun x_21 h_22 hP => ?_)
              exact bz_retI (pc := 111) dX12_copy_111 rfl rfl hP
            · have hP := hP.2 c
              refine bz_iload (pc := 69) dX12_copy_69 rfl ?_
              refine bz_if_lt (tgt := 106) (pc := 71) dX12_copy_71 (by decide) (fun c => ?_) (fun c => ?_)
              · have hP := hP.1 c
                refine bz_aload_n (pc := 106) dX12_copy_106 rfl rfl ?_
                refine bz_iconst (v := 0) (pc := 107) dX12_copy_107 (by decide) ?_
                refine bz_kIV (as := [.inl 0]) (st := []) (ci := 12) (pc := 108) dX12_copy_108 sc_X12_finding ml_X12_73 im_X12_finding se_X12_finding rfl rfl rfl (by decide) hP (fun x_23 h_24 hP => ?_)
                exact bz_retI (pc := 111) dX12_copy_111 rfl rfl hP
              · have hP := hP.2 c
                refine bz_iload (pc := 74) dX12_copy_74 rfl ?_
                refine bz_if_lt (tgt := 106) (pc := 76) dX12_copy_76 (by decide) (fun c => ?_) (fun c => ?_)
                · have hP := hP.1 c
                  refine bz_aload_n (pc := 106) dX12_copy_106 rfl rfl ?_
                  refine bz_iconst (v := 0) (pc := 107) dX12_copy_107 (by decide) ?_
                  refine bz_kIV (as := [.inl 0]) (st := []) (ci := 12) (pc := 108) dX12_copy_108 sc_X12_finding ml_X12_73 im_X12_finding se_X12_finding rfl rfl rfl (by decide) hP (fun x_25 h_26 hP => ?_)
                  exact bz_retI (pc := 111) dX12_copy_111 rfl rfl hP
                · have hP := hP.2 c
                  refine bz_iload_n (pc := 79) dX12_copy_79 rfl rfl ?_
                  refine bz_aload_n (pc := 80) dX12_copy_80 rfl rfl ?_
                  refine bz_rw_rR (pc := 81) dX12_copy_81 fl_X12_55 hP (fun r_27 hP => ?_)
                  refine bz_iload_n (pc := 84) dX12_copy_84 rfl rfl ?_
                  obtain ⟨a_28, rfl, hP⟩ := hP
                  refine bz_rw_rA (pc := 85) dX12_copy_85 hP (fun x_29 hP => ?_)
                  refine bz_iload (pc := 86) dX12_copy_86 rfl ?_
                  refine bz_isub (pc := 88) dX12_copy_88 ?_
                  refine bz_icmp_gt (tgt := 106) (pc := 89) dX12_copy_89 (by decide) (fun c => ?_) (fun c => ?_)
                  · have hP := hP.1 c
                    refine bz_aload_n (pc := 106) dX12_copy_106 rfl rfl ?_
                    refine bz_iconst (v := 0) (pc := 107) dX12_copy_107 (by decide) ?_
                    refine bz_kIV (as := [.inl 0]) (st := []) (ci := 12) (pc := 108) dX12_copy_108 sc_X12_finding ml_X12_73 im_X12_finding se_X12_finding rfl rfl rfl (by decide) hP (fun x_30 h_31 hP => ?_)
                    exact bz_retI (pc := 111) dX12_copy_111 rfl rfl hP
                  · have hP := hP.2 c
                    refine bz_iload (pc := 92) dX12_copy_92 rfl ?_
                    refine bz_aload_n (pc := 94) dX12_copy_94 rfl rfl ?_
                    refine bz_rw_rR (pc := 95) dX12_copy_95 fl_X12_55 hP (fun r_32 hP => ?_)
                    refine bz_iload_n (pc := 98) dX12_copy_98 rfl rfl ?_
                    obtain ⟨a_33, rfl, hP⟩ := hP
                    refine bz_rw_rA (pc := 99) dX12_copy_99 hP (fun x_34 hP => ?_)
                    refine bz_iload (pc := 100) dX12_copy_100 rfl ?_
                    refine bz_isub (pc := 102) dX12_copy_102 ?_
                    refine bz_icmp_le (tgt := 112) (pc := 103) dX12_copy_103 (by decide) (fun c => ?_) (fun c => ?_)
                    · have hP := hP.1 c
                      refine bz_iconst (v := 0) (pc := 112) dX12_copy_112 (by decide) ?_
                      refine bz_s_istore (pc := 113) dX12_copy_113 (by decide) [some (.inr (some a0)), some (.inl x1), some (.inl x2), some (.inl x3), some (.inl x4), some (.inl x5), some (.inl 0)] rfl ?_
                      exact hP
                    · have hP := hP.2 c
                      refine bz_aload_n (pc := 106) dX12_copy_106 rfl rfl ?_
                      refine bz_iconst (v := 0) (pc := 107) dX12_copy_107 (by decide) ?_
                      refine bz_kIV (as := [.inl 0]) (st := []) (ci := 12) (pc := 108) dX12_copy_108 sc_X12_finding ml_X12_73 im_X12_finding se_X12_finding rfl rfl rfl (by decide) hP (fun x_35 h_36 hP => ?_)
                      exact bz_retI (pc := 111) dX12_copy_111 rfl rfl hP
          · have hP := hP.2 c
            refine bz_aload_n (pc := 59) dX12_copy_59 rfl rfl ?_
            refine bz_iconst (v := 2) (pc := 60) dX12_copy_60 (by decide) ?_
            refine bz_kIV (as := [.inl 2]) (st := []) (ci := 12) (pc := 61) dX12_copy_61 sc_X12_finding ml_X12_73 im_X12_finding se_X12_finding rfl rfl rfl (by decide) hP (fun x_37 h_38 hP => ?_)
            exact bz_retI (pc := 64) dX12_copy_64 rfl rfl hP
        · have hP := hP.2 c
          refine bz_aload_n (pc := 38) dX12_copy_38 rfl rfl ?_
          refine bz_iconst (v := 5) (pc := 39) dX12_copy_39 (by decide) ?_
          refine bz_kIV (as := [.inl 5]) (st := []) (ci := 12) (pc := 40) dX12_copy_40 sc_X12_finding ml_X12_73 im_X12_finding se_X12_finding rfl rfl rfl (by decide) hP (fun x_39 h_40 hP => ?_)
          exact bz_retI (pc := 43) dX12_copy_43 rfl rfl hP
    · have hP := hP.2 c
      refine bz_aload_n (pc := 14) dX12_copy_14 rfl rfl ?_
      refine bz_iconst (v := 0) (pc := 15) dX12_copy_15 (by decide) ?_
      refine bz_kIV (as := [.inl 0]) (st := []) (ci := 12) (pc := 16) dX12_copy_16 sc_X12_finding ml_X12_73 im_X12_finding se_X12_finding rfl rfl rfl (by decide) hP (fun x_41 h_42 hP => ?_)
      exact bz_retI (pc := 19) dX12_copy_19 rfl rfl hP
set_option maxRecDepth 20000 in
set_option maxHeartbeats 4000000 in
theorem g_X12_copy_115 {G : bz_G} {κ : bz_K} {l : Launch} {d : Nat} {F : Option bz_V → bz_H → Prop} {bc bs : Nat} (hl : κ.2.1 = l) (a0 : Nat) (x1 : Int32) (x2 : Int32) (x3 : Int32) (x4 : Int32) (x5 : Int32) (x6 : Int32) (h : bz_H) (hP : (x5 ≤ x6 → bz_J G κ kX12_copy (d + 1) F bc bs 152 [some (.inr (some a0)), some (.inl x1), some (.inl x2), some (.inl x3), some (.inl x4), some (.inl x5), some (.inl 0)] [] h) ∧ (¬ (x5 ≤ x6) → bz_rR h a0 12 33 (fun r_43 => bz_rR h a0 12 32 (fun r_44 => bz_nn r_44 (fun a_45 => bz_rA h a_45 (((60 * x1) + x2) + x6) (fun x_46 => bz_nn r_43 (fun a_47 => bz_wA h a_47 x6 x_46 (fun h_48 => bz_J G κ kX12_copy (d + 1) F bc bs 115 [some (.inr (some a0)), some (.inl x1), some (.inl x2), some (.inl x3), some (.inl x4), some (.inl x5), some (.inl (x6 + 1))] [] h_48)))))))) : bz_J G κ kX12_copy (d + 1) F bc bs 115 [some (.inr (some a0)), some (.inl x1), some (.inl x2), some (.inl x3), some (.inl x4), some (.inl x5), some (.inl x6)] [] h := by
  subst hl
  refine bz_iload (pc := 115) dX12_copy_115 rfl ?_
  refine bz_iload (pc := 117) dX12_copy_117 rfl ?_
  refine bz_icmp_ge (tgt := 149) (pc := 119) dX12_copy_119 (by decide) (fun c => ?_) (fun c => ?_)
  · have hP := hP.1 c
    refine bz_iconst (v := 0) (pc := 149) dX12_copy_149 (by decide) ?_
    refine bz_s_istore (pc := 150) dX12_copy_150 (by decide) [some (.inr (some a0)), some (.inl x1), some (.inl x2), some (.inl x3), some (.inl x4), some (.inl x5), some (.inl 0)] rfl ?_
    exact hP
  · have hP := hP.2 c
    refine bz_aload_n (pc := 122) dX12_copy_122 rfl rfl ?_
    refine bz_rw_rR (pc := 123) dX12_copy_123 fl_X12_61 hP (fun r_43 hP => ?_)
    refine bz_iload (pc := 126) dX12_copy_126 rfl ?_
    refine bz_aload_n (pc := 128) dX12_copy_128 rfl rfl ?_
    refine bz_rw_rR (pc := 129) dX12_copy_129 fl_X12_58 hP (fun r_44 hP => ?_)
    refine bz_bipush (v := 60) (pc := 132) dX12_copy_132 (by decide) ?_
    refine bz_iload_n (pc := 134) dX12_copy_134 rfl rfl ?_
    refine bz_imul (pc := 135) dX12_copy_135 ?_
    refine bz_iload_n (pc := 136) dX12_copy_136 rfl rfl ?_
    refine bz_iadd (pc := 137) dX12_copy_137 ?_
    refine bz_iload (pc := 138) dX12_copy_138 rfl ?_
    refine bz_iadd (pc := 140) dX12_copy_140 ?_
    obtain ⟨a_45, rfl, hP⟩ := hP
    refine bz_rw_rA (pc := 141) dX12_copy_141 hP (fun x_46 hP => ?_)
    obtain ⟨a_47, rfl, hP⟩ := hP
    refine bz_rw_wA (pc := 142) dX12_copy_142 hP (fun h_48 hP => ?_)
    refine bz_s_iinc (pc := 143) dX12_copy_143 (by decide) rfl rfl [some (.inr (some a0)), some (.inl x1), some (.inl x2), some (.inl x3), some (.inl x4), some (.inl x5), some (.inl (x6 + 1))] rfl ?_
    refine bz_goto (tgt := 115) (pc := 146) dX12_copy_146 (by decide) ?_
    exact hP
set_option maxRecDepth 20000 in
set_option maxHeartbeats 4000000 in
theorem g_X12_copy_152 {G : bz_G} {κ : bz_K} {l : Launch} {d : Nat} {F : Option bz_V → bz_H → Prop} {bc bs : Nat} (hl : κ.2.1 = l) (a0 : Nat) (x1 : Int32) (x2 : Int32) (x3 : Int32) (x4 : Int32) (x5 : Int32) (x6 : Int32) (h : bz_H) (hP : (x5 ≤ x6 → F (some (.inl x5)) h) ∧ (¬ (x5 ≤ x6) → bz_rR h a0 12 32 (fun r_49 => bz_rR h a0 12 33 (fun r_50 => bz_nn r_50 (fun a_51 => bz_rA h a_51 x6 (fun x_52 => bz_nn r_49 (fun a_53 => bz_wA h a_53 (((60 * x3) + x4) + x6) x_52 (fun h_54 => bz_J G κ kX12_copy (d + 1) F bc bs 152 [some (.inr (some a0)), some (.inl x1), some (.inl x2), some (.inl x3), some (.inl x4), some (.inl x5), some (.inl (x6 + 1))] [] h_54)))))))) : bz_J G κ kX12_copy (d + 1) F bc bs 152 [some (.inr (some a0)), some (.inl x1), some (.inl x2), some (.inl x3), some (.inl x4), some (.inl x5), some (.inl x6)] [] h := by
  subst hl
  refine bz_iload (pc := 152) dX12_copy_152 rfl ?_
  refine bz_iload (pc := 154) dX12_copy_154 rfl ?_
  refine bz_icmp_ge (tgt := 187) (pc := 156) dX12_copy_156 (by decide) (fun c => ?_) (fun c => ?_)
  · have hP := hP.1 c
    refine bz_iload (pc := 187) dX12_copy_187 rfl ?_
    exact bz_retI (pc := 189) dX12_copy_189 rfl rfl hP
  · have hP := hP.2 c
    refine bz_aload_n (pc := 159) dX12_copy_159 rfl rfl ?_
    refine bz_rw_rR (pc := 160) dX12_copy_160 fl_X12_58 hP (fun r_49 hP => ?_)
    refine bz_bipush (v := 60) (pc := 163) dX12_copy_163 (by decide) ?_
    refine bz_iload_n (pc := 165) dX12_copy_165 rfl rfl ?_
    refine bz_imul (pc := 166) dX12_copy_166 ?_
    refine bz_iload (pc := 167) dX12_copy_167 rfl ?_
    refine bz_iadd (pc := 169) dX12_copy_169 ?_
    refine bz_iload (pc := 170) dX12_copy_170 rfl ?_
    refine bz_iadd (pc := 172) dX12_copy_172 ?_
    refine bz_aload_n (pc := 173) dX12_copy_173 rfl rfl ?_
    refine bz_rw_rR (pc := 174) dX12_copy_174 fl_X12_61 hP (fun r_50 hP => ?_)
    refine bz_iload (pc := 177) dX12_copy_177 rfl ?_
    obtain ⟨a_51, rfl, hP⟩ := hP
    refine bz_rw_rA (pc := 179) dX12_copy_179 hP (fun x_52 hP => ?_)
    obtain ⟨a_53, rfl, hP⟩ := hP
    refine bz_rw_wA (pc := 180) dX12_copy_180 hP (fun h_54 hP => ?_)
    refine bz_s_iinc (pc := 181) dX12_copy_181 (by decide) rfl rfl [some (.inr (some a0)), some (.inl x1), some (.inl x2), some (.inl x3), some (.inl x4), some (.inl x5), some (.inl (x6 + 1))] rfl ?_
    refine bz_goto (tgt := 152) (pc := 184) dX12_copy_184 (by decide) ?_
    exact hP
theorem m_X12_copy {G : bz_G} {l : Launch} {d mc ms : Nat} {F : Option bz_V → bz_H → Prop} (a0 : Nat) (x1 : Int32) (x2 : Int32) (x3 : Int32) (x4 : Int32) (x5 : Int32) (h : bz_H) (hP : ∀ (κ : bz_K) (bc bs : Nat), κ.2.1 = l → bz_cI G l d kX12_isSheet [.inl x1] h 0 0 (fun x_1 h_2 => (x_1 = 0 → bz_rc h_2 a0 12 (bz_cI G l d kX12_finding [.inr (some a0), .inl 0] h_2 0 0 (fun x_3 h_4 => F (some (.inl x_3)) h_4))) ∧ (¬ (x_1 = 0) → bz_cI G l d kX12_isSheet [.inl x3] h_2 0 0 (fun x_5 h_6 => (¬ x_5 = 0 → bz_rR h_6 a0 12 30 (fun r_7 => bz_nn r_7 (fun a_8 => bz_rA h_6 a_8 x1 (fun x_9 => (x_9 = 0 → bz_rc h_6 a0 12 (bz_cI G l d kX12_finding [.inr (some a0), .inl 5] h_6 0 0 (fun x_10 h_11 => F (some (.inl x_10)) h_11))) ∧ (¬ (x_9 = 0) → bz_rR h_6 a0 12 30 (fun r_12 => bz_nn r_12 (fun a_13 => bz_rA h_6 a_13 x3 (fun x_14 => (¬ x_14 = 0 → bz_rR h_6 a0 12 30 (fun r_15 => bz_nn r_15 (fun a_16 => bz_rA h_6 a_16 x1 (fun x_17 => bz_rR h_6 a0 12 30 (fun r_18 => bz_nn r_18 (fun a_19 => bz_rA h_6 a_19 x3 (fun x_20 => (x_17 = x_20 → (x2 < 0 → bz_rc h_6 a0 12 (bz_cI G l d kX12_finding [.inr (some a0), .inl 0] h_6 0 0 (fun x_21 h_22 => F (some (.inl x_21)) h_22))) ∧ (¬ (x2 < 0) → (x4 < 0 → bz_rc h_6 a0 12 (bz_cI G l d kX12_finding [.inr (some a0), .inl 0] h_6 0 0 (fun x_23 h_24 => F (some (.inl x_23)) h_24))) ∧ (¬ (x4 < 0) → (x5 < 0 → bz_rc h_6 a0 12 (bz_cI G l d kX12_finding [.inr (some a0), .inl 0] h_6 0 0 (fun x_25 h_26 => F (some (.inl x_25)) h_26))) ∧ (¬ (x5 < 0) → bz_rR h_6 a0 12 31 (fun r_27 => bz_nn r_27 (fun a_28 => bz_rA h_6 a_28 x1 (fun x_29 => ((x_29 - x5) < x2 → bz_rc h_6 a0 12 (bz_cI G l d kX12_finding [.inr (some a0), .inl 0] h_6 0 0 (fun x_30 h_31 => F (some (.inl x_30)) h_31))) ∧ (¬ ((x_29 - x5) < x2) → bz_rR h_6 a0 12 31 (fun r_32 => bz_nn r_32 (fun a_33 => bz_rA h_6 a_33 x3 (fun x_34 => (x4 ≤ (x_34 - x5) → bz_J G κ kX12_copy (d + 1) F bc bs 115 [some (.inr (some a0)), some (.inl x1), some (.inl x2), some (.inl x3), some (.inl x4), some (.inl x5), some (.inl 0)] [] h_6) ∧ (¬ (x4 ≤ (x_34 - x5)) → bz_rc h_6 a0 12 (bz_cI G l d kX12_finding [.inr (some a0), .inl 0] h_6 0 0 (fun x_35 h_36 => F (some (.inl x_35)) h_36)))))))))))))) ∧ (¬ (x_17 = x_20) → bz_rc h_6 a0 12 (bz_cI G l d kX12_finding [.inr (some a0), .inl 2] h_6 0 0 (fun x_37 h_38 => F (some (.inl x_37)) h_38)))))))))) ∧ (x_14 = 0 → bz_rc h_6 a0 12 (bz_cI G l d kX12_finding [.inr (some a0), .inl 5] h_6 0 0 (fun x_39 h_40 => F (some (.inl x_39)) h_40))))))))))) ∧ (x_5 = 0 → bz_rc h_6 a0 12 (bz_cI G l d kX12_finding [.inr (some a0), .inl 0] h_6 0 0 (fun x_41 h_42 => F (some (.inl x_41)) h_42))))))) : bz_Call G l (d + 1) kX12_copy [.inr (some a0), .inl x1, .inl x2, .inl x3, .inl x4, .inl x5] h mc ms F :=
  bz_body (by decide) (by decide) (fun κ hl => g_X12_copy_0 hl a0 x1 x2 x3 x4 x5 h (hP κ mc ms hl))
set_option maxRecDepth 20000 in
set_option maxHeartbeats 4000000 in
theorem g_X12_count_0 {G : bz_G} {κ : bz_K} {l : Launch} {d : Nat} {F : Option bz_V → bz_H → Prop} {bc bs : Nat} (hl : κ.2.1 = l) (a0 : Nat) (x1 : Int32) (h : bz_H) (hP : (x1 = 0 → bz_rR h a0 12 0 (fun r_1 => bz_nn r_1 (fun a_2 => bz_rA h a_2 0 (fun x_3 => F (some (.inl x_3)) h)))) ∧ (¬ x1 = 0 → (x1 = 1 → bz_rR h a0 12 0 (fun r_4 => bz_nn r_4 (fun a_5 => bz_rA h a_5 1 (fun x_6 => F (some (.inl x_6)) h)))) ∧ (¬ x1 = 1 → (x1 = 2 → bz_rR h a0 12 0 (fun r_7 => bz_nn r_7 (fun a_8 => bz_rA h a_8 2 (fun x_9 => F (some (.inl x_9)) h)))) ∧ (¬ x1 = 2 → (x1 = 3 → bz_J G κ kX12_count (d + 1) F bc bs 69 [some (.inr (some a0)), some (.inl x1), some (.inl 0), some (.inl 0)] [] h) ∧ (¬ x1 = 3 → (x1 = 4 → bz_rR h a0 12 0 (fun r_10 => bz_nn r_10 (fun a_11 => bz_rA h a_11 3 (fun x_12 => F (some (.inl x_12)) h)))) ∧ (¬ x1 = 4 → (x1 = 5 → bz_rR h a0 12 0 (fun r_13 => bz_nn r_13 (fun a_14 => bz_rA h a_14 4 (fun x_15 => F (some (.inl x_15)) h)))) ∧ (¬ x1 = 5 → (x1 = 6 → bz_rI h a0 12 14 (fun x_16 => F (some (.inl x_16)) h)) ∧ (¬ x1 = 6 → bz_rc h a0 12 (bz_cI G l d kX12_finding [.inr (some a0), .inl 0] h 0 0 (fun x_17 h_18 => F (some (.inl x_17)) h_18)))))))))) : bz_J G κ kX12_count (d + 1) F bc bs 0 [some (.inr (some a0)), some (.inl x1), none, none] [] h := by
  subst hl
  refine bz_iload_n (pc := 0) dX12_count_0 rfl rfl ?_
  refine bz_table (pc := 1) [(0, 43), (1, 50), (2, 57), (3, 64), (4, 102), (5, 109), (6, 116)] dX12_count_1 (by decide) (by decide) (by decide) (by decide) (by decide) ?_
  refine ⟨fun c => ?_, fun c => ?_⟩
  · have hP := hP.1 c
    show bz_J G κ kX12_count (d + 1) F bc bs 44 [some (.inr (some a0)), some (.inl x1), none, none] [] h
    refine bz_aload_n (pc := 44) dX12_count_44 rfl rfl ?_
    refine bz_rw_rR (pc := 45) dX12_count_45 fl_X12_7 hP (fun r_1 hP => ?_)
    refine bz_iconst (v := 0) (pc := 48) dX12_count_48 (by decide) ?_
    obtain ⟨a_2, rfl, hP⟩ := hP
    refine bz_rw_rA (pc := 49) dX12_count_49 hP (fun x_3 hP => ?_)
    exact bz_retI (pc := 50) dX12_count_50 rfl rfl hP
  · have hP := hP.2 c
    refine ⟨fun c => ?_, fun c => ?_⟩
    · have hP := hP.1 c
      show bz_J G κ kX12_count (d + 1) F bc bs 51 [some (.inr (some a0)), some (.inl x1), none, none] [] h
      refine bz_aload_n (pc := 51) dX12_count_51 rfl rfl ?_
      refine bz_rw_rR (pc := 52) dX12_count_52 fl_X12_7 hP (fun r_4 hP => ?_)
      refine bz_iconst (v := 1) (pc := 55) dX12_count_55 (by decide) ?_
      obtain ⟨a_5, rfl, hP⟩ := hP
      refine bz_rw_rA (pc := 56) dX12_count_56 hP (fun x_6 hP => ?_)
      exact bz_retI (pc := 57) dX12_count_57 rfl rfl hP
    · have hP := hP.2 c
      refine ⟨fun c => ?_, fun c => ?_⟩
      · have hP := hP.1 c
        show bz_J G κ kX12_count (d + 1) F bc bs 58 [some (.inr (some a0)), some (.inl x1), none, none] [] h
        refine bz_aload_n (pc := 58) dX12_count_58 rfl rfl ?_
        refine bz_rw_rR (pc := 59) dX12_count_59 fl_X12_7 hP (fun r_7 hP => ?_)
        refine bz_iconst (v := 2) (pc := 62) dX12_count_62 (by decide) ?_
        obtain ⟨a_8, rfl, hP⟩ := hP
        refine bz_rw_rA (pc := 63) dX12_count_63 hP (fun x_9 hP => ?_)
        exact bz_retI (pc := 64) dX12_count_64 rfl rfl hP
      · have hP := hP.2 c
        refine ⟨fun c => ?_, fun c => ?_⟩
        · have hP := hP.1 c
          show bz_J G κ kX12_count (d + 1) F bc bs 65 [some (.inr (some a0)), some (.inl x1), none, none] [] h
          refine bz_iconst (v := 0) (pc := 65) dX12_count_65 (by decide) ?_
          refine bz_s_istore_n (pc := 66) dX12_count_66 rfl (by decide) [some (.inr (some a0)), some (.inl x1), some (.inl 0), none] rfl ?_
          refine bz_iconst (v := 0) (pc := 67) dX12_count_67 (by decide) ?_
          refine bz_s_istore_n (pc := 68) dX12_count_68 rfl (by decide) [some (.inr (some a0)), some (.inl x1), some (.inl 0), some (.inl 0)] rfl ?_
          exact hP
        · have hP := hP.2 c
          refine ⟨fun c => ?_, fun c => ?_⟩
          · have hP := hP.1 c
            show bz_J G κ kX12_count (d + 1) F bc bs 103 [some (.inr (some a0)), some (.inl x1), none, none] [] h
            refine bz_aload_n (pc := 103) dX12_count_103 rfl rfl ?_
            refine bz_rw_rR (pc := 104) dX12_count_104 fl_X12_7 hP (fun r_10 hP => ?_)
            refine bz_iconst (v := 3) (pc := 107) dX12_count_107 (by decide) ?_
            obtain ⟨a_11, rfl, hP⟩ := hP
            refine bz_rw_rA (pc := 108) dX12_count_108 hP (fun x_12 hP => ?_)
            exact bz_retI (pc := 109) dX12_count_109 rfl rfl hP
          · have hP := hP.2 c
            refine ⟨fun c => ?_, fun c => ?_⟩
            · have hP := hP.1 c
              show bz_J G κ kX12_count (d + 1) F bc bs 110 [some (.inr (some a0)), some (.inl x1), none, none] [] h
              refine bz_aload_n (pc := 110) dX12_count_110 rfl rfl ?_
              refine bz_rw_rR (pc := 111) dX12_count_111 fl_X12_7 hP (fun r_13 hP => ?_)
              refine bz_iconst (v := 4) (pc := 114) dX12_count_114 (by decide) ?_
              obtain ⟨a_14, rfl, hP⟩ := hP
              refine bz_rw_rA (pc := 115) dX12_count_115 hP (fun x_15 hP => ?_)
              exact bz_retI (pc := 116) dX12_count_116 rfl rfl hP
            · have hP := hP.2 c
              refine ⟨fun c => ?_, fun c => ?_⟩
              · have hP := hP.1 c
                show bz_J G κ kX12_count (d + 1) F bc bs 117 [some (.inr (some a0)), some (.inl x1), none, none] [] h
                refine bz_aload_n (pc := 117) dX12_count_117 rfl rfl ?_
                refine bz_rw_rI (pc := 118) dX12_count_118 fl_X12_235 hP (fun x_16 hP => ?_)
                exact bz_retI (pc := 121) dX12_count_121 rfl rfl hP
              · have hP := hP.2 c
                show bz_J G κ kX12_count (d + 1) F bc bs 122 [some (.inr (some a0)), some (.inl x1), none, none] [] h
                refine bz_aload_n (pc := 122) dX12_count_122 rfl rfl ?_
                refine bz_iconst (v := 0) (pc := 123) dX12_count_123 (by decide) ?_
                refine bz_kIV (as := [.inl 0]) (st := []) (ci := 12) (pc := 124) dX12_count_124 sc_X12_finding ml_X12_73 im_X12_finding se_X12_finding rfl rfl rfl (by decide) hP (fun x_17 h_18 hP => ?_)
                exact bz_retI (pc := 127) dX12_count_127 rfl rfl hP
set_option maxRecDepth 20000 in
set_option maxHeartbeats 4000000 in
theorem g_X12_count_69 {G : bz_G} {κ : bz_K} {l : Launch} {d : Nat} {F : Option bz_V → bz_H → Prop} {bc bs : Nat} (hl : κ.2.1 = l) (a0 : Nat) (x1 : Int32) (x2 : Int32) (x3 : Int32) (h : bz_H) (hP : bz_rR h a0 12 0 (fun r_19 => bz_nn r_19 (fun a_20 => bz_rA h a_20 2 (fun x_21 => (x_21 ≤ x3 → F (some (.inl x2)) h) ∧ (¬ (x_21 ≤ x3) → bz_rc h a0 12 (bz_cI G l d kX12_isWaiting [.inr (some a0), .inl x3] h 0 0 (fun x_22 h_23 => bz_J G κ kX12_count (d + 1) F bc bs 69 [some (.inr (some a0)), some (.inl x1), some (.inl (x2 + (if x_22 = 0 then 0 else 1))), some (.inl (x3 + 1))] [] h_23))))))) : bz_J G κ kX12_count (d + 1) F bc bs 69 [some (.inr (some a0)), some (.inl x1), some (.inl x2), some (.inl x3)] [] h := by
  subst hl
  refine bz_iload_n (pc := 69) dX12_count_69 rfl rfl ?_
  refine bz_aload_n (pc := 70) dX12_count_70 rfl rfl ?_
  refine bz_rw_rR (pc := 71) dX12_count_71 fl_X12_7 hP (fun r_19 hP => ?_)
  refine bz_iconst (v := 2) (pc := 74) dX12_count_74 (by decide) ?_
  obtain ⟨a_20, rfl, hP⟩ := hP
  refine bz_rw_rA (pc := 75) dX12_count_75 hP (fun x_21 hP => ?_)
  refine bz_icmp_ge (tgt := 101) (pc := 76) dX12_count_76 (by decide) (fun c => ?_) (fun c => ?_)
  · have hP := hP.1 c
    refine bz_iload_n (pc := 101) dX12_count_101 rfl rfl ?_
    exact bz_retI (pc := 102) dX12_count_102 rfl rfl hP
  · have hP := hP.2 c
    refine bz_iload_n (pc := 79) dX12_count_79 rfl rfl ?_
    refine bz_aload_n (pc := 80) dX12_count_80 rfl rfl ?_
    refine bz_iload_n (pc := 81) dX12_count_81 rfl rfl ?_
    refine bz_kIV (as := [.inl x3]) (st := [.inl x2]) (ci := 12) (pc := 82) dX12_count_82 sc_X12_isWaiting ml_X12_129 im_X12_isWaiting se_X12_isWaiting rfl rfl rfl (by decide) hP (fun x_22 h_23 hP => ?_)
    have hJ : bz_J G κ kX12_count (d + 1) F bc bs 93 [some (.inr (some a0)), some (.inl x1), some (.inl x2), some (.inl x3)] [.inl (if x_22 = 0 then 0 else 1), .inl x2] h_23 := by
      refine bz_iadd (pc := 93) dX12_count_93 ?_
      refine bz_s_istore_n (pc := 94) dX12_count_94 rfl (by decide) [some (.inr (some a0)), some (.inl x1), some (.inl (x2 + (if x_22 = 0 then 0 else 1))), some (.inl x3)] rfl ?_
      refine bz_s_iinc (pc := 95) dX12_count_95 (by decide) rfl rfl [some (.inr (some a0)), some (.inl x1), some (.inl (x2 + (if x_22 = 0 then 0 else 1))), some (.inl (x3 + 1))] rfl ?_
      refine bz_goto (tgt := 69) (pc := 98) dX12_count_98 (by decide) ?_
      exact hP
    refine bz_if_eq (tgt := 92) (pc := 85) dX12_count_85 (by decide) (fun c => ?_) (fun c => ?_)
    · have e9 : ((if x_22 = 0 then 0 else 1) : Int32) = (0) := if_pos c
      rw [e9] at hJ
      refine bz_iconst (v := 0) (pc := 92) dX12_count_92 (by decide) ?_
      exact hJ
    · have e9 : ((if x_22 = 0 then 0 else 1) : Int32) = (1) := if_neg c
      rw [e9] at hJ
      refine bz_iconst (v := 1) (pc := 88) dX12_count_88 (by decide) ?_
      refine bz_goto (tgt := 93) (pc := 89) dX12_count_89 (by decide) ?_
      exact hJ
theorem m_X12_count {G : bz_G} {l : Launch} {d mc ms : Nat} {F : Option bz_V → bz_H → Prop} (a0 : Nat) (x1 : Int32) (h : bz_H) (hP : ∀ (κ : bz_K) (bc bs : Nat), κ.2.1 = l → (x1 = 0 → bz_rR h a0 12 0 (fun r_1 => bz_nn r_1 (fun a_2 => bz_rA h a_2 0 (fun x_3 => F (some (.inl x_3)) h)))) ∧ (¬ x1 = 0 → (x1 = 1 → bz_rR h a0 12 0 (fun r_4 => bz_nn r_4 (fun a_5 => bz_rA h a_5 1 (fun x_6 => F (some (.inl x_6)) h)))) ∧ (¬ x1 = 1 → (x1 = 2 → bz_rR h a0 12 0 (fun r_7 => bz_nn r_7 (fun a_8 => bz_rA h a_8 2 (fun x_9 => F (some (.inl x_9)) h)))) ∧ (¬ x1 = 2 → (x1 = 3 → bz_J G κ kX12_count (d + 1) F bc bs 69 [some (.inr (some a0)), some (.inl x1), some (.inl 0), some (.inl 0)] [] h) ∧ (¬ x1 = 3 → (x1 = 4 → bz_rR h a0 12 0 (fun r_10 => bz_nn r_10 (fun a_11 => bz_rA h a_11 3 (fun x_12 => F (some (.inl x_12)) h)))) ∧ (¬ x1 = 4 → (x1 = 5 → bz_rR h a0 12 0 (fun r_13 => bz_nn r_13 (fun a_14 => bz_rA h a_14 4 (fun x_15 => F (some (.inl x_15)) h)))) ∧ (¬ x1 = 5 → (x1 = 6 → bz_rI h a0 12 14 (fun x_16 => F (some (.inl x_16)) h)) ∧ (¬ x1 = 6 → bz_rc h a0 12 (bz_cI G l d kX12_finding [.inr (some a0), .inl 0] h 0 0 (fun x_17 h_18 => F (some (.inl x_17)) h_18)))))))))) : bz_Call G l (d + 1) kX12_count [.inr (some a0), .inl x1] h mc ms F :=
  bz_body (by decide) (by decide) (fun κ hl => g_X12_count_0 hl a0 x1 h (hP κ mc ms hl))
set_option maxRecDepth 20000 in
set_option maxHeartbeats 4000000 in
theorem g_X12_counting_0 {G : bz_G} {κ : bz_K} {l : Launch} {d : Nat} {F : Option bz_V → bz_H → Prop} {bc bs : Nat} (hl : κ.2.1 = l) (a0 : Nat) (x1 : Int32) (h : bz_H) (hP : bz_J G κ kX12_counting (d + 1) F bc bs 4 [some (.inr (some a0)), some (.inl x1), some (.inl 0), some (.inl 0), none] [] h) : bz_J G κ kX12_counting (d + 1) F bc bs 0 [some (.inr (some a0)), some (.inl x1), none, none, none] [] h := by
  subst hl
  refine bz_iconst (v := 0) (pc := 0) dX12_counting_0 (by decide) ?_
  refine bz_s_istore_n (pc := 1) dX12_counting_1 rfl (by decide) [some (.inr (some a0)), some (.inl x1), some (.inl 0), none, none] rfl ?_
  refine bz_iconst (v := 0) (pc := 2) dX12_counting_2 (by decide) ?_
  refine bz_s_istore_n (pc := 3) dX12_counting_3 rfl (by decide) [some (.inr (some a0)), some (.inl x1), some (.inl 0), some (.inl 0), none] rfl ?_
  exact hP
set_option maxRecDepth 20000 in
set_option maxHeartbeats 4000000 in
theorem g_X12_counting_4 {G : bz_G} {κ : bz_K} {l : Launch} {d : Nat} {F : Option bz_V → bz_H → Prop} {bc bs : Nat} (hl : κ.2.1 = l) (a0 : Nat) (x1 : Int32) (x2 : Int32) (x3 : Int32) (u4 : Option bz_V) (h : bz_H) (hP : bz_rR h a0 12 0 (fun r_1 => bz_nn r_1 (fun a_2 => bz_rA h a_2 10 (fun x_3 => (x_3 ≤ x3 → bz_rc h a0 12 (bz_cI G l d kX12_engaged [.inr (some a0), .inl x1] h 0 0 (fun x_4 h_5 => F (some (.inl ((x_4 - x2) + (x2 / 2)))) h_5))) ∧ (¬ (x_3 ≤ x3) → bz_rR h a0 12 0 (fun r_6 => bz_nn r_6 (fun a_7 => bz_rA h a_7 ((894 + (3 * x3)) + 1) (fun x_8 => bz_J G κ kX12_counting (d + 1) F bc bs 31 [some (.inr (some a0)), some (.inl x1), some (.inl x2), some (.inl x3), some (.inl x_8)] [] h)))))))) : bz_J G κ kX12_counting (d + 1) F bc bs 4 [some (.inr (some a0)), some (.inl x1), some (.inl x2), some (.inl x3), u4] [] h := by
  subst hl
  refine bz_iload_n (pc := 4) dX12_counting_4 rfl rfl ?_
  refine bz_aload_n (pc := 5) dX12_counting_5 rfl rfl ?_
  refine bz_rw_rR (pc := 6) dX12_counting_6 fl_X12_7 hP (fun r_1 hP => ?_)
  refine bz_bipush (v := 10) (pc := 9) dX12_counting_9 (by decide) ?_
  obtain ⟨a_2, rfl, hP⟩ := hP
  refine bz_rw_rA (pc := 11) dX12_counting_11 hP (fun x_3 hP => ?_)
  refine bz_icmp_ge (tgt := 96) (pc := 12) dX12_counting_12 (by decide) (fun c => ?_) (fun c => ?_)
  · have hP := hP.1 c
    refine bz_aload_n (pc := 96) dX12_counting_96 rfl rfl ?_
    refine bz_iload_n (pc := 97) dX12_counting_97 rfl rfl ?_
    refine bz_kIV (as := [.inl x1]) (st := []) (ci := 12) (pc := 98) dX12_counting_98 sc_X12_engaged ml_X12_142 im_X12_engaged se_X12_engaged rfl rfl rfl (by decide) hP (fun x_4 h_5 hP => ?_)
    refine bz_iload_n (pc := 101) dX12_counting_101 rfl rfl ?_
    refine bz_isub (pc := 102) dX12_counting_102 ?_
    refine bz_iload_n (pc := 103) dX12_counting_103 rfl rfl ?_
    refine bz_iconst (v := 2) (pc := 104) dX12_counting_104 (by decide) ?_
    refine bz_idiv (pc := 105) dX12_counting_105 (by decide) ?_
    refine bz_iadd (pc := 106) dX12_counting_106 ?_
    exact bz_retI (pc := 107) dX12_counting_107 rfl rfl hP
  · have hP := hP.2 c
    refine bz_aload_n (pc := 15) dX12_counting_15 rfl rfl ?_
    refine bz_rw_rR (pc := 16) dX12_counting_16 fl_X12_7 hP (fun r_6 hP => ?_)
    refine bz_sipush (v := 894) (pc := 19) dX12_counting_19 (by decide) ?_
    refine bz_iconst (v := 3) (pc := 22) dX12_counting_22 (by decide) ?_
    refine bz_iload_n (pc := 23) dX12_counting_23 rfl rfl ?_
    refine bz_imul (pc := 24) dX12_counting_24 ?_
    refine bz_iadd (pc := 25) dX12_counting_25 ?_
    refine bz_iconst (v := 1) (pc := 26) dX12_counting_26 (by decide) ?_
    refine bz_iadd (pc := 27) dX12_counting_27 ?_
    obtain ⟨a_7, rfl, hP⟩ := hP
    refine bz_rw_rA (pc := 28) dX12_counting_28 hP (fun x_8 hP => ?_)
    refine bz_s_istore (pc := 29) dX12_counting_29 (by decide) [some (.inr (some a0)), some (.inl x1), some (.inl x2), some (.inl x3), some (.inl x_8)] rfl ?_
    exact hP
set_option maxRecDepth 20000 in
set_option maxHeartbeats 4000000 in
theorem g_X12_counting_31 {G : bz_G} {κ : bz_K} {l : Launch} {d : Nat} {F : Option bz_V → bz_H → Prop} {bc bs : Nat} (hl : κ.2.1 = l) (a0 : Nat) (x1 : Int32) (x2 : Int32) (x3 : Int32) (x4 : Int32) (h : bz_H) (hP : bz_rR h a0 12 0 (fun r_9 => bz_nn r_9 (fun a_10 => bz_rA h a_10 ((894 + (3 * x3)) + 2) (fun x_11 => (x_11 ≤ x4 → bz_J G κ kX12_counting (d + 1) F bc bs 4 [some (.inr (some a0)), some (.inl x1), some (.inl x2), some (.inl (x3 + 1)), some (.inl x4)] [] h) ∧ (¬ (x_11 ≤ x4) → bz_rR h a0 12 0 (fun r_12 => bz_nn r_12 (fun a_13 => bz_rA h a_13 (894 + (3 * x3)) (fun x_14 => (¬ x_14 = x1 → bz_J G κ kX12_counting (d + 1) F bc bs 4 [some (.inr (some a0)), some (.inl x1), some (.inl x2), some (.inl (x3 + 1)), some (.inl x4)] [] h) ∧ (x_14 = x1 → bz_rc h a0 12 (bz_cI G l d kX12_isElsewhere [.inr (some a0), .inl x1, .inl x4] h 0 0 (fun x_15 h_16 => bz_J G κ kX12_counting (d + 1) F bc bs 31 [some (.inr (some a0)), some (.inl x1), some (.inl (x2 + (if x_15 = 0 then 0 else 1))), some (.inl x3), some (.inl (x4 + 1))] [] h_16))))))))))) : bz_J G κ kX12_counting (d + 1) F bc bs 31 [some (.inr (some a0)), some (.inl x1), some (.inl x2), some (.inl x3), some (.inl x4)] [] h := by
  subst hl
  refine bz_iload (pc := 31) dX12_counting_31 rfl ?_
  refine bz_aload_n (pc := 33) dX12_counting_33 rfl rfl ?_
  refine bz_rw_rR (pc := 34) dX12_counting_34 fl_X12_7 hP (fun r_9 hP => ?_)
  refine bz_sipush (v := 894) (pc := 37) dX12_counting_37 (by decide) ?_
  refine bz_iconst (v := 3) (pc := 40) dX12_counting_40 (by decide) ?_
  refine bz_iload_n (pc := 41) dX12_counting_41 rfl rfl ?_
  refine bz_imul (pc := 42) dX12_counting_42 ?_
  refine bz_iadd (pc := 43) dX12_counting_43 ?_
  refine bz_iconst (v := 2) (pc := 44) dX12_counting_44 (by decide) ?_
  refine bz_iadd (pc := 45) dX12_counting_45 ?_
  obtain ⟨a_10, rfl, hP⟩ := hP
  refine bz_rw_rA (pc := 46) dX12_counting_46 hP (fun x_11 hP => ?_)
  refine bz_icmp_ge (tgt := 90) (pc := 47) dX12_counting_47 (by decide) (fun c => ?_) (fun c => ?_)
  · have hP := hP.1 c
    refine bz_s_iinc (pc := 90) dX12_counting_90 (by decide) rfl rfl [some (.inr (some a0)), some (.inl x1), some (.inl x2), some (.inl (x3 + 1)), some (.inl x4)] rfl ?_
    refine bz_goto (tgt := 4) (pc := 93) dX12_counting_93 (by decide) ?_
    exact hP
  · have hP := hP.2 c
    refine bz_aload_n (pc := 50) dX12_counting_50 rfl rfl ?_
    refine bz_rw_rR (pc := 51) dX12_counting_51 fl_X12_7 hP (fun r_12 hP => ?_)
    refine bz_sipush (v := 894) (pc := 54) dX12_counting_54 (by decide) ?_
    refine bz_iconst (v := 3) (pc := 57) dX12_counting_57 (by decide) ?_
    refine bz_iload_n (pc := 58) dX12_counting_58 rfl rfl ?_
    refine bz_imul (pc := 59) dX12_counting_59 ?_
    refine bz_iadd (pc := 60) dX12_counting_60 ?_
    obtain ⟨a_13, rfl, hP⟩ := hP
    refine bz_rw_rA (pc := 61) dX12_counting_61 hP (fun x_14 hP => ?_)
    refine bz_iload_n (pc := 62) dX12_counting_62 rfl rfl ?_
    refine bz_icmp_ne (tgt := 90) (pc := 63) dX12_counting_63 (by decide) (fun c => ?_) (fun c => ?_)
    · have hP := hP.1 c
      refine bz_s_iinc (pc := 90) dX12_counting_90 (by decide) rfl rfl [some (.inr (some a0)), some (.inl x1), some (.inl x2), some (.inl (x3 + 1)), some (.inl x4)] rfl ?_
      refine bz_goto (tgt := 4) (pc := 93) dX12_counting_93 (by decide) ?_
      exact hP
    · have hP := hP.2 c
      refine bz_iload_n (pc := 66) dX12_counting_66 rfl rfl ?_
      refine bz_aload_n (pc := 67) dX12_counting_67 rfl rfl ?_
      refine bz_iload_n (pc := 68) dX12_counting_68 rfl rfl ?_
      refine bz_iload (pc := 69) dX12_counting_69 rfl ?_
      refine bz_kIV (as := [.inl x1, .inl x4]) (st := [.inl x2]) (ci := 12) (pc := 71) dX12_counting_71 sc_X12_isElsewhere ml_X12_308 im_X12_isElsewhere se_X12_isElsewhere rfl rfl rfl (by decide) hP (fun x_15 h_16 hP => ?_)
      have hJ : bz_J G κ kX12_counting (d + 1) F bc bs 82 [some (.inr (some a0)), some (.inl x1), some (.inl x2), some (.inl x3), some (.inl x4)] [.inl (if x_15 = 0 then 0 else 1), .inl x2] h_16 := by
        refine bz_iadd (pc := 82) dX12_counting_82 ?_
        refine bz_s_istore_n (pc := 83) dX12_counting_83 rfl (by decide) [some (.inr (some a0)), some (.inl x1), some (.inl (x2 + (if x_15 = 0 then 0 else 1))), some (.inl x3), some (.inl x4)] rfl ?_
        refine bz_s_iinc (pc := 84) dX12_counting_84 (by decide) rfl rfl [some (.inr (some a0)), some (.inl x1), some (.inl (x2 + (if x_15 = 0 then 0 else 1))), some (.inl x3), some (.inl (x4 + 1))] rfl ?_
        refine bz_goto (tgt := 31) (pc := 87) dX12_counting_87 (by decide) ?_
        exact hP
      refine bz_if_eq (tgt := 81) (pc := 74) dX12_counting_74 (by decide) (fun c => ?_) (fun c => ?_)
      · have e9 : ((if x_15 = 0 then 0 else 1) : Int32) = (0) := if_pos c
        rw [e9] at hJ
        refine bz_iconst (v := 0) (pc := 81) dX12_counting_81 (by decide) ?_
        exact hJ
      · have e9 : ((if x_15 = 0 then 0 else 1) : Int32) = (1) := if_neg c
        rw [e9] at hJ
        refine bz_iconst (v := 1) (pc := 77) dX12_counting_77 (by decide) ?_
        refine bz_goto (tgt := 82) (pc := 78) dX12_counting_78 (by decide) ?_
        exact hJ
theorem m_X12_counting {G : bz_G} {l : Launch} {d mc ms : Nat} {F : Option bz_V → bz_H → Prop} (a0 : Nat) (x1 : Int32) (h : bz_H) (hP : ∀ (κ : bz_K) (bc bs : Nat), κ.2.1 = l → bz_J G κ kX12_counting (d + 1) F bc bs 4 [some (.inr (some a0)), some (.inl x1), some (.inl 0), some (.inl 0), none] [] h) : bz_Call G l (d + 1) kX12_counting [.inr (some a0), .inl x1] h mc ms F :=
  bz_body (by decide) (by decide) (fun κ hl => g_X12_counting_0 hl a0 x1 h (hP κ mc ms hl))
set_option maxRecDepth 20000 in
set_option maxHeartbeats 4000000 in
theorem g_X12_crossing_0 {G : bz_G} {κ : bz_K} {l : Launch} {d : Nat} {F : Option bz_V → bz_H → Prop} {bc bs : Nat} (hl : κ.2.1 = l) (a0 : Nat) (x1 : Int32) (x2 : Int32) (x3 : Int32) (h : bz_H) (hP : bz_cI G l d kX12_isCrossing [.inl x1] h 0 0 (fun x_1 h_2 => (x_1 = 0 → bz_rc h_2 a0 12 (bz_cI G l d kX12_finding [.inr (some a0), .inl 0] h_2 0 0 (fun x_3 h_4 => F (some (.inl x_3)) h_4))) ∧ (¬ (x_1 = 0) → bz_cI G l d kX12_in [.inl x2, .inl 0, .inl 1] h_2 0 0 (fun x_5 h_6 => (x_5 = 0 → bz_rc h_6 a0 12 (bz_cI G l d kX12_finding [.inr (some a0), .inl 0] h_6 0 0 (fun x_7 h_8 => F (some (.inl x_7)) h_8))) ∧ (¬ (x_5 = 0) → bz_cI G l d kX12_in [.inl x3, .inl 0, .inl (if x2 = 0 then 9 else 3)] h_6 0 0 (fun x_9 h_10 => (¬ x_9 = 0 → bz_b 0 (bz_wI h_10 a0 12 5 0 (fun h_11 => bz_rc h_11 a0 12 (bz_cI G l d kX12_become [.inr (some a0), .inl ((12 + (16 * x2)) + x1), .inl x3] h_11 0 0 (fun x_12 h_13 => F (some (.inl x_12)) h_13))))) ∧ (x_9 = 0 → bz_rc h_10 a0 12 (bz_cI G l d kX12_finding [.inr (some a0), .inl 0] h_10 0 0 (fun x_14 h_15 => F (some (.inl x_14)) h_15))))))))) : bz_J G κ kX12_crossing (d + 1) F bc bs 0 [some (.inr (some a0)), some (.inl x1), some (.inl x2), some (.inl x3)] [] h := by
  subst hl
  refine bz_iload_n (pc := 0) dX12_crossing_0 rfl rfl ?_
  refine bz_kIS (as := [.inl x1]) (st := []) (pc := 1) dX12_crossing_1 sc_X12_isCrossing ml_X12_69 ss_X12_isCrossing rfl (by decide) hP (fun x_1 h_2 hP => ?_)
  refine bz_if_eq (tgt := 34) (pc := 4) dX12_crossing_4 (by decide) (fun c => ?_) (fun c => ?_)
  · have hP := hP.1 c
    refine bz_aload_n (pc := 34) dX12_crossing_34 rfl rfl ?_
    refine bz_iconst (v := 0) (pc := 35) dX12_crossing_35 (by decide) ?_
    refine bz_kIV (as := [.inl 0]) (st := []) (ci := 12) (pc := 36) dX12_crossing_36 sc_X12_finding ml_X12_73 im_X12_finding se_X12_finding rfl rfl rfl (by decide) hP (fun x_3 h_4 hP => ?_)
    exact bz_retI (pc := 39) dX12_crossing_39 rfl rfl hP
  · have hP := hP.2 c
    refine bz_iload_n (pc := 7) dX12_crossing_7 rfl rfl ?_
    refine bz_iconst (v := 0) (pc := 8) dX12_crossing_8 (by decide) ?_
    refine bz_iconst (v := 1) (pc := 9) dX12_crossing_9 (by decide) ?_
    refine bz_kIS (as := [.inl x2, .inl 0, .inl 1]) (st := []) (pc := 10) dX12_crossing_10 sc_X12_in ml_X12_65 ss_X12_in rfl (by decide) hP (fun x_5 h_6 hP => ?_)
    refine bz_if_eq (tgt := 34) (pc := 13) dX12_crossing_13 (by decide) (fun c => ?_) (fun c => ?_)
    · have hP := hP.1 c
      refine bz_aload_n (pc := 34) dX12_crossing_34 rfl rfl ?_
      refine bz_iconst (v := 0) (pc := 35) dX12_crossing_35 (by decide) ?_
      refine bz_kIV (as := [.inl 0]) (st := []) (ci := 12) (pc := 36) dX12_crossing_36 sc_X12_finding ml_X12_73 im_X12_finding se_X12_finding rfl rfl rfl (by decide) hP (fun x_7 h_8 hP => ?_)
      exact bz_retI (pc := 39) dX12_crossing_39 rfl rfl hP
    · have hP := hP.2 c
      refine bz_iload_n (pc := 16) dX12_crossing_16 rfl rfl ?_
      refine bz_iconst (v := 0) (pc := 17) dX12_crossing_17 (by decide) ?_
      refine bz_iload_n (pc := 18) dX12_crossing_18 rfl rfl ?_
      have hJ : bz_J G κ kX12_crossing (d + 1) F bc bs 28 [some (.inr (some a0)), some (.inl x1), some (.inl x2), some (.inl x3)] [.inl (if x2 = 0 then 9 else 3), .inl 0, .inl x3] h_6 := by
        refine bz_kIS (as := [.inl x3, .inl 0, .inl (if x2 = 0 then 9 else 3)]) (st := []) (pc := 28) dX12_crossing_28 sc_X12_in ml_X12_65 ss_X12_in rfl (by decide) hP (fun x_9 h_10 hP => ?_)
        refine bz_if_ne (tgt := 40) (pc := 31) dX12_crossing_31 (by decide) (fun c => ?_) (fun c => ?_)
        · have hP := hP.1 c
          refine bz_aload_n (pc := 40) dX12_crossing_40 rfl rfl ?_
          refine bz_iconst (v := 0) (pc := 41) dX12_crossing_41 (by decide) ?_
          refine bz_rw_wZ (pc := 42) dX12_crossing_42 fl_X12_77 (fun q h9 => by cases h9; rfl) rfl hP (fun h_11 hP => ?_)
          refine bz_aload_n (pc := 45) dX12_crossing_45 rfl rfl ?_
          refine bz_bipush (v := 12) (pc := 46) dX12_crossing_46 (by decide) ?_
          refine bz_bipush (v := 16) (pc := 48) dX12_crossing_48 (by decide) ?_
          refine bz_iload_n (pc := 50) dX12_crossing_50 rfl rfl ?_
          refine bz_imul (pc := 51) dX12_crossing_51 ?_
          refine bz_iadd (pc := 52) dX12_crossing_52 ?_
          refine bz_iload_n (pc := 53) dX12_crossing_53 rfl rfl ?_
          refine bz_iadd (pc := 54) dX12_crossing_54 ?_
          refine bz_iload_n (pc := 55) dX12_crossing_55 rfl rfl ?_
          refine bz_kIV (as := [.inl ((12 + (16 * x2)) + x1), .inl x3]) (st := []) (ci := 12) (pc := 56) dX12_crossing_56 sc_X12_become ml_X12_81 im_X12_become se_X12_become rfl rfl rfl (by decide) hP (fun x_12 h_13 hP => ?_)
          exact bz_retI (pc := 59) dX12_crossing_59 rfl rfl hP
        · have hP := hP.2 c
          refine bz_aload_n (pc := 34) dX12_crossing_34 rfl rfl ?_
          refine bz_iconst (v := 0) (pc := 35) dX12_crossing_35 (by decide) ?_
          refine bz_kIV (as := [.inl 0]) (st := []) (ci := 12) (pc := 36) dX12_crossing_36 sc_X12_finding ml_X12_73 im_X12_finding se_X12_finding rfl rfl rfl (by decide) hP (fun x_14 h_15 hP => ?_)
          exact bz_retI (pc := 39) dX12_crossing_39 rfl rfl hP
      refine bz_if_ne (tgt := 27) (pc := 19) dX12_crossing_19 (by decide) (fun c => ?_) (fun c => ?_)
      · have e9 : ((if x2 = 0 then 9 else 3) : Int32) = (3) := if_neg c
        rw [e9] at hJ
        refine bz_iconst (v := 3) (pc := 27) dX12_crossing_27 (by decide) ?_
        exact hJ
      · have e9 : ((if x2 = 0 then 9 else 3) : Int32) = (9) := if_pos c
        rw [e9] at hJ
        refine bz_bipush (v := 9) (pc := 22) dX12_crossing_22 (by decide) ?_
        refine bz_goto (tgt := 28) (pc := 24) dX12_crossing_24 (by decide) ?_
        exact hJ
theorem m_X12_crossing {G : bz_G} {l : Launch} {d mc ms : Nat} {F : Option bz_V → bz_H → Prop} (a0 : Nat) (x1 : Int32) (x2 : Int32) (x3 : Int32) (h : bz_H) (hP : bz_cI G l d kX12_isCrossing [.inl x1] h 0 0 (fun x_1 h_2 => (x_1 = 0 → bz_rc h_2 a0 12 (bz_cI G l d kX12_finding [.inr (some a0), .inl 0] h_2 0 0 (fun x_3 h_4 => F (some (.inl x_3)) h_4))) ∧ (¬ (x_1 = 0) → bz_cI G l d kX12_in [.inl x2, .inl 0, .inl 1] h_2 0 0 (fun x_5 h_6 => (x_5 = 0 → bz_rc h_6 a0 12 (bz_cI G l d kX12_finding [.inr (some a0), .inl 0] h_6 0 0 (fun x_7 h_8 => F (some (.inl x_7)) h_8))) ∧ (¬ (x_5 = 0) → bz_cI G l d kX12_in [.inl x3, .inl 0, .inl (if x2 = 0 then 9 else 3)] h_6 0 0 (fun x_9 h_10 => (¬ x_9 = 0 → bz_b 0 (bz_wI h_10 a0 12 5 0 (fun h_11 => bz_rc h_11 a0 12 (bz_cI G l d kX12_become [.inr (some a0), .inl ((12 + (16 * x2)) + x1), .inl x3] h_11 0 0 (fun x_12 h_13 => F (some (.inl x_12)) h_13))))) ∧ (x_9 = 0 → bz_rc h_10 a0 12 (bz_cI G l d kX12_finding [.inr (some a0), .inl 0] h_10 0 0 (fun x_14 h_15 => F (some (.inl x_14)) h_15))))))))) : bz_Call G l (d + 1) kX12_crossing [.inr (some a0), .inl x1, .inl x2, .inl x3] h mc ms F :=
  bz_body (by decide) (by decide) (fun κ hl => g_X12_crossing_0 hl a0 x1 x2 x3 h hP)
set_option maxRecDepth 20000 in
set_option maxHeartbeats 4000000 in
theorem g_X12_doubles_0 {G : bz_G} {κ : bz_K} {l : Launch} {d : Nat} {F : Option bz_V → bz_H → Prop} {bc bs : Nat} (hl : κ.2.1 = l) (a0 : Nat) (x1 : Int32) (x2 : Int32) (h : bz_H) (hP : bz_rc h a0 12 (bz_cI G l d kX12_isRider [.inr (some a0), .inl x1] h 0 0 (fun x_1 h_2 => (x_1 = 0 → bz_rc h_2 a0 12 (bz_cI G l d kX12_finding [.inr (some a0), .inl 0] h_2 0 0 (fun x_3 h_4 => F (some (.inl x_3)) h_4))) ∧ (¬ (x_1 = 0) → bz_cI G l d kX12_in [.inl x2, .inl 0, .inl 2] h_2 0 0 (fun x_5 h_6 => (¬ x_5 = 0 → bz_J G κ kX12_doubles (d + 1) F bc bs 34 [some (.inr (some a0)), some (.inl x1), some (.inl x2), some (.inl 0), some (.inl (-1)), some (.inl (-1)), some (.inl 0), none] [] h_6) ∧ (x_5 = 0 → bz_rc h_6 a0 12 (bz_cI G l d kX12_finding [.inr (some a0), .inl 0] h_6 0 0 (fun x_7 h_8 => F (some (.inl x_7)) h_8)))))))) : bz_J G κ kX12_doubles (d + 1) F bc bs 0 [some (.inr (some a0)), some (.inl x1), some (.inl x2), none, none, none, none, none] [] h := by
  subst hl
  refine bz_aload_n (pc := 0) dX12_doubles_0 rfl rfl ?_
  refine bz_iload_n (pc := 1) dX12_doubles_1 rfl rfl ?_
  refine bz_kIV (as := [.inl x1]) (st := []) (ci := 12) (pc := 2) dX12_doubles_2 sc_X12_isRider ml_X12_139 im_X12_isRider se_X12_isRider rfl rfl rfl (by decide) hP (fun x_1 h_2 hP => ?_)
  refine bz_if_eq (tgt := 17) (pc := 5) dX12_doubles_5 (by decide) (fun c => ?_) (fun c => ?_)
  · have hP := hP.1 c
    refine bz_aload_n (pc := 17) dX12_doubles_17 rfl rfl ?_
    refine bz_iconst (v := 0) (pc := 18) dX12_doubles_18 (by decide) ?_
    refine bz_kIV (as := [.inl 0]) (st := []) (ci := 12) (pc := 19) dX12_doubles_19 sc_X12_finding ml_X12_73 im_X12_finding se_X12_finding rfl rfl rfl (by decide) hP (fun x_3 h_4 hP => ?_)
    exact bz_retI (pc := 22) dX12_doubles_22 rfl rfl hP
  · have hP := hP.2 c
    refine bz_iload_n (pc := 8) dX12_doubles_8 rfl rfl ?_
    refine bz_iconst (v := 0) (pc := 9) dX12_doubles_9 (by decide) ?_
    refine bz_iconst (v := 2) (pc := 10) dX12_doubles_10 (by decide) ?_
    refine bz_kIS (as := [.inl x2, .inl 0, .inl 2]) (st := []) (pc := 11) dX12_doubles_11 sc_X12_in ml_X12_65 ss_X12_in rfl (by decide) hP (fun x_5 h_6 hP => ?_)
    refine bz_if_ne (tgt := 23) (pc := 14) dX12_doubles_14 (by decide) (fun c => ?_) (fun c => ?_)
    · have hP := hP.1 c
      refine bz_iconst (v := 0) (pc := 23) dX12_doubles_23 (by decide) ?_
      refine bz_s_istore_n (pc := 24) dX12_doubles_24 rfl (by decide) [some (.inr (some a0)), some (.inl x1), some (.inl x2), some (.inl 0), none, none, none, none] rfl ?_
      refine bz_iconst (v := (-1)) (pc := 25) dX12_doubles_25 (by decide) ?_
      refine bz_s_istore (pc := 26) dX12_doubles_26 (by decide) [some (.inr (some a0)), some (.inl x1), some (.inl x2), some (.inl 0), some (.inl (-1)), none, none, none] rfl ?_
      refine bz_iconst (v := (-1)) (pc := 28) dX12_doubles_28 (by decide) ?_
      refine bz_s_istore (pc := 29) dX12_doubles_29 (by decide) [some (.inr (some a0)), some (.inl x1), some (.inl x2), some (.inl 0), some (.inl (-1)), some (.inl (-1)), none, none] rfl ?_
      refine bz_iconst (v := 0) (pc := 31) dX12_doubles_31 (by decide) ?_
      refine bz_s_istore (pc := 32) dX12_doubles_32 (by decide) [some (.inr (some a0)), some (.inl x1), some (.inl x2), some (.inl 0), some (.inl (-1)), some (.inl (-1)), some (.inl 0), none] rfl ?_
      exact hP
    · have hP := hP.2 c
      refine bz_aload_n (pc := 17) dX12_doubles_17 rfl rfl ?_
      refine bz_iconst (v := 0) (pc := 18) dX12_doubles_18 (by decide) ?_
      refine bz_kIV (as := [.inl 0]) (st := []) (ci := 12) (pc := 19) dX12_doubles_19 sc_X12_finding ml_X12_73 im_X12_finding se_X12_finding rfl rfl rfl (by decide) hP (fun x_7 h_8 hP => ?_)
      exact bz_retI (pc := 22) dX12_doubles_22 rfl rfl hP
set_option maxRecDepth 20000 in
set_option maxHeartbeats 4000000 in
theorem g_X12_doubles_34 {G : bz_G} {κ : bz_K} {l : Launch} {d : Nat} {F : Option bz_V → bz_H → Prop} {bc bs : Nat} (hl : κ.2.1 = l) (a0 : Nat) (x1 : Int32) (x2 : Int32) (x3 : Int32) (x4 : Int32) (x5 : Int32) (x6 : Int32) (u7 : Option bz_V) (h : bz_H) (hP : bz_rR h a0 12 0 (fun r_9 => bz_nn r_9 (fun a_10 => bz_rA h a_10 9 (fun x_11 => (x_11 ≤ x6 → (¬ x2 = 0 → (¬ x3 = 0 → F (some (.inl (if x2 = 1 then x4 else x5))) h) ∧ (x3 = 0 → bz_rc h a0 12 (bz_cI G l d kX12_finding [.inr (some a0), .inl 3] h 0 0 (fun x_12 h_13 => F (some (.inl x_12)) h_13)))) ∧ (x2 = 0 → F (some (.inl x3)) h)) ∧ (¬ (x_11 ≤ x6) → bz_J G κ kX12_doubles (d + 1) F bc bs 52 [some (.inr (some a0)), some (.inl x1), some (.inl x2), some (.inl x3), some (.inl x4), some (.inl x5), some (.inl x6), some (.inl (x6 + 1))] [] h))))) : bz_J G κ kX12_doubles (d + 1) F bc bs 34 [some (.inr (some a0)), some (.inl x1), some (.inl x2), some (.inl x3), some (.inl x4), some (.inl x5), some (.inl x6), u7] [] h := by
  subst hl
  refine bz_iload (pc := 34) dX12_doubles_34 rfl ?_
  refine bz_aload_n (pc := 36) dX12_doubles_36 rfl rfl ?_
  refine bz_rw_rR (pc := 37) dX12_doubles_37 fl_X12_7 hP (fun r_9 hP => ?_)
  refine bz_bipush (v := 9) (pc := 40) dX12_doubles_40 (by decide) ?_
  obtain ⟨a_10, rfl, hP⟩ := hP
  refine bz_rw_rA (pc := 42) dX12_doubles_42 hP (fun x_11 hP => ?_)
  refine bz_icmp_ge (tgt := 153) (pc := 43) dX12_doubles_43 (by decide) (fun c => ?_) (fun c => ?_)
  · have hP := hP.1 c
    refine bz_iload_n (pc := 153) dX12_doubles_153 rfl rfl ?_
    refine bz_if_ne (tgt := 161) (pc := 154) dX12_doubles_154 (by decide) (fun c => ?_) (fun c => ?_)
    · have hP := hP.1 c
      refine bz_iload_n (pc := 161) dX12_doubles_161 rfl rfl ?_
      refine bz_if_ne (tgt := 173) (pc := 162) dX12_doubles_162 (by decide) (fun c => ?_) (fun c => ?_)
      · have hP := hP.1 c
        refine bz_iload_n (pc := 173) dX12_doubles_173 rfl rfl ?_
        refine bz_iconst (v := 1) (pc := 174) dX12_doubles_174 (by decide) ?_
        have hJ : bz_J G κ kX12_doubles (d + 1) F bc bs 185 [some (.inr (some a0)), some (.inl x1), some (.inl x2), some (.inl x3), some (.inl x4), some (.inl x5), some (.inl x6), u7] [.inl (if x2 = 1 then x4 else x5)] h := by
          exact bz_retI (pc := 185) dX12_doubles_185 rfl rfl hP
        refine bz_icmp_ne (tgt := 183) (pc := 175) dX12_doubles_175 (by decide) (fun c => ?_) (fun c => ?_)
        · have e9 : ((if x2 = 1 then x4 else x5) : Int32) = (x5) := if_neg c
          rw [e9] at hJ
          refine bz_iload (pc := 183) dX12_doubles_183 rfl ?_
          exact hJ
        · have e9 : ((if x2 = 1 then x4 else x5) : Int32) = (x4) := if_pos c
          rw [e9] at hJ
          refine bz_iload (pc := 178) dX12_doubles_178 rfl ?_
          refine bz_goto (tgt := 185) (pc := 180) dX12_doubles_180 (by decide) ?_
          exact hJ
      · have hP := hP.2 c
        refine bz_aload_n (pc := 165) dX12_doubles_165 rfl rfl ?_
        refine bz_iconst (v := 3) (pc := 166) dX12_doubles_166 (by decide) ?_
        refine bz_kIV (as := [.inl 3]) (st := []) (ci := 12) (pc := 167) dX12_doubles_167 sc_X12_finding ml_X12_73 im_X12_finding se_X12_finding rfl rfl rfl (by decide) hP (fun x_12 h_13 hP => ?_)
        refine bz_goto (tgt := 185) (pc := 170) dX12_doubles_170 (by decide) ?_
        exact bz_retI (pc := 185) dX12_doubles_185 rfl rfl hP
    · have hP := hP.2 c
      refine bz_iload_n (pc := 157) dX12_doubles_157 rfl rfl ?_
      refine bz_goto (tgt := 185) (pc := 158) dX12_doubles_158 (by decide) ?_
      exact bz_retI (pc := 185) dX12_doubles_185 rfl rfl hP
  · have hP := hP.2 c
    refine bz_iload (pc := 46) dX12_doubles_46 rfl ?_
    refine bz_iconst (v := 1) (pc := 48) dX12_doubles_48 (by decide) ?_
    refine bz_iadd (pc := 49) dX12_doubles_49 ?_
    refine bz_s_istore (pc := 50) dX12_doubles_50 (by decide) [some (.inr (some a0)), some (.inl x1), some (.inl x2), some (.inl x3), some (.inl x4), some (.inl x5), some (.inl x6), some (.inl (x6 + 1))] rfl ?_
    exact hP
set_option maxRecDepth 20000 in
set_option maxHeartbeats 4000000 in
theorem g_X12_doubles_52 {G : bz_G} {κ : bz_K} {l : Launch} {d : Nat} {F : Option bz_V → bz_H → Prop} {bc bs : Nat} (hl : κ.2.1 = l) (a0 : Nat) (x1 : Int32) (x2 : Int32) (x3 : Int32) (x4 : Int32) (x5 : Int32) (x6 : Int32) (x7 : Int32) (h : bz_H) (hP : bz_rR h a0 12 0 (fun r_14 => bz_nn r_14 (fun a_15 => bz_rA h a_15 9 (fun x_16 => (x_16 ≤ x7 → bz_J G κ kX12_doubles (d + 1) F bc bs 34 [some (.inr (some a0)), some (.inl x1), some (.inl x2), some (.inl x3), some (.inl x4), some (.inl x5), some (.inl (x6 + 1)), some (.inl x7)] [] h) ∧ (¬ (x_16 ≤ x7) → bz_rR h a0 12 0 (fun r_17 => bz_nn r_17 (fun a_18 => bz_rA h a_18 (834 + (3 * x6)) (fun x_19 => (¬ x_19 = x1 → bz_J G κ kX12_doubles (d + 1) F bc bs 52 [some (.inr (some a0)), some (.inl x1), some (.inl x2), some (.inl x3), some (.inl x4), some (.inl x5), some (.inl x6), some (.inl (x7 + 1))] [] h) ∧ (x_19 = x1 → bz_rR h a0 12 0 (fun r_20 => bz_nn r_20 (fun a_21 => bz_rA h a_21 (834 + (3 * x7)) (fun x_22 => (¬ x_22 = x1 → bz_J G κ kX12_doubles (d + 1) F bc bs 52 [some (.inr (some a0)), some (.inl x1), some (.inl x2), some (.inl x3), some (.inl x4), some (.inl x5), some (.inl x6), some (.inl (x7 + 1))] [] h) ∧ (x_22 = x1 → bz_rc h a0 12 (bz_cI G l d kX12_isDouble [.inr (some a0), .inl x6, .inl x7] h 0 0 (fun x_23 h_24 => (¬ x_23 = 0 → bz_J G κ kX12_doubles (d + 1) F bc bs 52 [some (.inr (some a0)), some (.inl x1), some (.inl x2), some (.inl (x3 + 1)), some (.inl (if x3 = 0 then x6 else x4)), some (.inl (if x3 = 0 then x7 else x5)), some (.inl x6), some (.inl (x7 + 1))] [] h_24) ∧ (x_23 = 0 → bz_J G κ kX12_doubles (d + 1) F bc bs 52 [some (.inr (some a0)), some (.inl x1), some (.inl x2), some (.inl x3), some (.inl x4), some (.inl x5), some (.inl x6), some (.inl (x7 + 1))] [] h_24)))))))))))))))) : bz_J G κ kX12_doubles (d + 1) F bc bs 52 [some (.inr (some a0)), some (.inl x1), some (.inl x2), some (.inl x3), some (.inl x4), some (.inl x5), some (.inl x6), some (.inl x7)] [] h := by
  subst hl
  refine bz_iload (pc := 52) dX12_doubles_52 rfl ?_
  refine bz_aload_n (pc := 54) dX12_doubles_54 rfl rfl ?_
  refine bz_rw_rR (pc := 55) dX12_doubles_55 fl_X12_7 hP (fun r_14 hP => ?_)
  refine bz_bipush (v := 9) (pc := 58) dX12_doubles_58 (by decide) ?_
  obtain ⟨a_15, rfl, hP⟩ := hP
  refine bz_rw_rA (pc := 60) dX12_doubles_60 hP (fun x_16 hP => ?_)
  refine bz_icmp_ge (tgt := 147) (pc := 61) dX12_doubles_61 (by decide) (fun c => ?_) (fun c => ?_)
  · have hP := hP.1 c
    refine bz_s_iinc (pc := 147) dX12_doubles_147 (by decide) rfl rfl [some (.inr (some a0)), some (.inl x1), some (.inl x2), some (.inl x3), some (.inl x4), some (.inl x5), some (.inl (x6 + 1)), some (.inl x7)] rfl ?_
    refine bz_goto (tgt := 34) (pc := 150) dX12_doubles_150 (by decide) ?_
    exact hP
  · have hP := hP.2 c
    refine bz_aload_n (pc := 64) dX12_doubles_64 rfl rfl ?_
    refine bz_rw_rR (pc := 65) dX12_doubles_65 fl_X12_7 hP (fun r_17 hP => ?_)
    refine bz_sipush (v := 834) (pc := 68) dX12_doubles_68 (by decide) ?_
    refine bz_iconst (v := 3) (pc := 71) dX12_doubles_71 (by decide) ?_
    refine bz_iload (pc := 72) dX12_doubles_72 rfl ?_
    refine bz_imul (pc := 74) dX12_doubles_74 ?_
    refine bz_iadd (pc := 75) dX12_doubles_75 ?_
    obtain ⟨a_18, rfl, hP⟩ := hP
    refine bz_rw_rA (pc := 76) dX12_doubles_76 hP (fun x_19 hP => ?_)
    refine bz_iload_n (pc := 77) dX12_doubles_77 rfl rfl ?_
    refine bz_icmp_ne (tgt := 141) (pc := 78) dX12_doubles_78 (by decide) (fun c => ?_) (fun c => ?_)
    · have hP := hP.1 c
      refine bz_s_iinc (pc := 141) dX12_doubles_141 (by decide) rfl rfl [some (.inr (some a0)), some (.inl x1), some (.inl x2), some (.inl x3), some (.inl x4), some (.inl x5), some (.inl x6), some (.inl (x7 + 1))] rfl ?_
      refine bz_goto (tgt := 52) (pc := 144) dX12_doubles_144 (by decide) ?_
      exact hP
    · have hP := hP.2 c
      refine bz_aload_n (pc := 81) dX12_doubles_81 rfl rfl ?_
      refine bz_rw_rR (pc := 82) dX12_doubles_82 fl_X12_7 hP (fun r_20 hP => ?_)
      refine bz_sipush (v := 834) (pc := 85) dX12_doubles_85 (by decide) ?_
      refine bz_iconst (v := 3) (pc := 88) dX12_doubles_88 (by decide) ?_
      refine bz_iload (pc := 89) dX12_doubles_89 rfl ?_
      refine bz_imul (pc := 91) dX12_doubles_91 ?_
      refine bz_iadd (pc := 92) dX12_doubles_92 ?_
      obtain ⟨a_21, rfl, hP⟩ := hP
      refine bz_rw_rA (pc := 93) dX12_doubles_93 hP (fun x_22 hP => ?_)
      refine bz_iload_n (pc := 94) dX12_doubles_94 rfl rfl ?_
      refine bz_icmp_ne (tgt := 141) (pc := 95) dX12_doubles_95 (by decide) (fun c => ?_) (fun c => ?_)
      · have hP := hP.1 c
        refine bz_s_iinc (pc := 141) dX12_doubles_141 (by decide) rfl rfl [some (.inr (some a0)), some (.inl x1), some (.inl x2), some (.inl x3), some (.inl x4), some (.inl x5), some (.inl x6), some (.inl (x7 + 1))] rfl ?_
        refine bz_goto (tgt := 52) (pc := 144) dX12_doubles_144 (by decide) ?_
        exact hP
      · have hP := hP.2 c
        refine bz_aload_n (pc := 98) dX12_doubles_98 rfl rfl ?_
        refine bz_iload (pc := 99) dX12_doubles_99 rfl ?_
        refine bz_iload (pc := 101) dX12_doubles_101 rfl ?_
        refine bz_kIV (as := [.inl x6, .inl x7]) (st := []) (ci := 12) (pc := 103) dX12_doubles_103 sc_X12_isDouble ml_X12_314 im_X12_isDouble se_X12_isDouble rfl rfl rfl (by decide) hP (fun x_23 h_24 hP => ?_)
        refine bz_if_ne (tgt := 112) (pc := 106) dX12_doubles_106 (by decide) (fun c => ?_) (fun c => ?_)
        · have hP := hP.1 c
          refine bz_iload_n (pc := 112) dX12_doubles_112 rfl rfl ?_
          have hJ : bz_J G κ kX12_doubles (d + 1) F bc bs 123 [some (.inr (some a0)), some (.inl x1), some (.inl x2), some (.inl x3), some (.inl x4), some (.inl x5), some (.inl x6), some (.inl x7)] [.inl (if x3 = 0 then x6 else x4)] h_24 := by
            refine bz_s_istore (pc := 123) dX12_doubles_123 (by decide) [some (.inr (some a0)), some (.inl x1), some (.inl x2), some (.inl x3), some (.inl (if x3 = 0 then x6 else x4)), some (.inl x5), some (.inl x6), some (.inl x7)] rfl ?_
            refine bz_iload_n (pc := 125) dX12_doubles_125 rfl rfl ?_
            have hJ : bz_J G κ kX12_doubles (d + 1) F bc bs 136 [some (.inr (some a0)), some (.inl x1), some (.inl x2), some (.inl x3), some (.inl (if x3 = 0 then x6 else x4)), some (.inl x5), some (.inl x6), some (.inl x7)] [.inl (if x3 = 0 then x7 else x5)] h_24 := by
              refine bz_s_istore (pc := 136) dX12_doubles_136 (by decide) [some (.inr (some a0)), some (.inl x1), some (.inl x2), some (.inl x3), some (.inl (if x3 = 0 then x6 else x4)), some (.inl (if x3 = 0 then x7 else x5)), some (.inl x6), some (.inl x7)] rfl ?_
              refine bz_s_iinc (pc := 138) dX12_doubles_138 (by decide) rfl rfl [some (.inr (some a0)), some (.inl x1), some (.inl x2), some (.inl (x3 + 1)), some (.inl (if x3 = 0 then x6 else x4)), some (.inl (if x3 = 0 then x7 else x5)), some (.inl x6), some (.inl x7)] rfl ?_
              refine bz_s_iinc (pc := 141) dX12_doubles_141 (by decide) rfl rfl [some (.inr (some a0)), some (.inl x1), some (.inl x2), some (.inl (x3 + 1)), some (.inl (if x3 = 0 then x6 else x4)), some (.inl (if x3 = 0 then x7 else x5)), some (.inl x6), some (.inl (x7 + 1))] rfl ?_
              refine bz_goto (tgt := 52) (pc := 144) dX12_doubles_144 (by decide) ?_
              exact hP
            refine bz_if_ne (tgt := 134) (pc := 126) dX12_doubles_126 (by decide) (fun c => ?_) (fun c => ?_)
            · have e9 : ((if x3 = 0 then x7 else x5) : Int32) = (x5) := if_neg c
              rw [e9] at hJ
              refine bz_iload (pc := 134) dX12_doubles_134 rfl ?_
              exact hJ
            · have e9 : ((if x3 = 0 then x7 else x5) : Int32) = (x7) := if_pos c
              rw [e9] at hJ
              refine bz_iload (pc := 129) dX12_doubles_129 rfl ?_
              refine bz_goto (tgt := 136) (pc := 131) dX12_doubles_131 (by decide) ?_
              exact hJ
          refine bz_if_ne (tgt := 121) (pc := 113) dX12_doubles_113 (by decide) (fun c => ?_) (fun c => ?_)
          · have e9 : ((if x3 = 0 then x6 else x4) : Int32) = (x4) := if_neg c
            rw [e9] at hJ
            refine bz_iload (pc := 121) dX12_doubles_121 rfl ?_
            exact hJ
          · have e9 : ((if x3 = 0 then x6 else x4) : Int32) = (x6) := if_pos c
            rw [e9] at hJ
            refine bz_iload (pc := 116) dX12_doubles_116 rfl ?_
            refine bz_goto (tgt := 123) (pc := 118) dX12_doubles_118 (by decide) ?_
            exact hJ
        · have hP := hP.2 c
          refine bz_goto (tgt := 141) (pc := 109) dX12_doubles_109 (by decide) ?_
          refine bz_s_iinc (pc := 141) dX12_doubles_141 (by decide) rfl rfl [some (.inr (some a0)), some (.inl x1), some (.inl x2), some (.inl x3), some (.inl x4), some (.inl x5), some (.inl x6), some (.inl (x7 + 1))] rfl ?_
          refine bz_goto (tgt := 52) (pc := 144) dX12_doubles_144 (by decide) ?_
          exact hP
theorem m_X12_doubles {G : bz_G} {l : Launch} {d mc ms : Nat} {F : Option bz_V → bz_H → Prop} (a0 : Nat) (x1 : Int32) (x2 : Int32) (h : bz_H) (hP : ∀ (κ : bz_K) (bc bs : Nat), κ.2.1 = l → bz_rc h a0 12 (bz_cI G l d kX12_isRider [.inr (some a0), .inl x1] h 0 0 (fun x_1 h_2 => (x_1 = 0 → bz_rc h_2 a0 12 (bz_cI G l d kX12_finding [.inr (some a0), .inl 0] h_2 0 0 (fun x_3 h_4 => F (some (.inl x_3)) h_4))) ∧ (¬ (x_1 = 0) → bz_cI G l d kX12_in [.inl x2, .inl 0, .inl 2] h_2 0 0 (fun x_5 h_6 => (¬ x_5 = 0 → bz_J G κ kX12_doubles (d + 1) F bc bs 34 [some (.inr (some a0)), some (.inl x1), some (.inl x2), some (.inl 0), some (.inl (-1)), some (.inl (-1)), some (.inl 0), none] [] h_6) ∧ (x_5 = 0 → bz_rc h_6 a0 12 (bz_cI G l d kX12_finding [.inr (some a0), .inl 0] h_6 0 0 (fun x_7 h_8 => F (some (.inl x_7)) h_8)))))))) : bz_Call G l (d + 1) kX12_doubles [.inr (some a0), .inl x1, .inl x2] h mc ms F :=
  bz_body (by decide) (by decide) (fun κ hl => g_X12_doubles_0 hl a0 x1 x2 h (hP κ mc ms hl))
set_option maxRecDepth 20000 in
set_option maxHeartbeats 4000000 in
theorem g_X12_ends_0 {G : bz_G} {κ : bz_K} {l : Launch} {d : Nat} {F : Option bz_V → bz_H → Prop} {bc bs : Nat} (hl : κ.2.1 = l) (a0 : Nat) (x1 : Int32) (h : bz_H) (hP : bz_rR h a0 12 0 (fun r_1 => bz_rR h a0 12 0 (fun r_2 => bz_nn r_2 (fun a_3 => bz_rA h a_3 10 (fun x_4 => bz_nn r_1 (fun a_5 => bz_wA h a_5 (894 + (3 * x_4)) x1 (fun h_6 => bz_rR h_6 a0 12 0 (fun r_7 => bz_rR h_6 a0 12 0 (fun r_8 => bz_nn r_8 (fun a_9 => bz_rA h_6 a_9 10 (fun x_10 => bz_rc h_6 a0 12 (bz_cI G l d kX12_beginsAt [.inr (some a0), .inl x1] h_6 0 0 (fun x_11 h_12 => bz_nn r_7 (fun a_13 => bz_wA h_12 a_13 ((894 + (3 * x_10)) + 1) x_11 (fun h_14 => bz_rR h_14 a0 12 0 (fun r_15 => bz_rR h_14 a0 12 0 (fun r_16 => bz_nn r_16 (fun a_17 => bz_rA h_14 a_17 10 (fun x_18 => bz_rI h_14 a0 12 7 (fun x_19 => bz_nn r_15 (fun a_20 => bz_wA h_14 a_20 ((894 + (3 * x_18)) + 2) x_19 (fun h_21 => bz_rR h_21 a0 12 0 (fun r_22 => bz_nn r_22 (fun a_23 => bz_rA h_21 a_23 10 (fun x_24 => bz_wA h_21 a_23 10 (x_24 + 1) (fun h_25 => bz_rR h_25 a0 12 0 (fun r_26 => bz_rI h_25 a0 12 6 (fun x_27 => bz_nn r_26 (fun a_28 => bz_wA h_25 a_28 ((600 + (8 * x1)) + 1) x_27 (fun h_29 => bz_rR h_29 a0 12 0 (fun r_30 => bz_rI h_29 a0 12 7 (fun x_31 => bz_nn r_30 (fun a_32 => bz_wA h_29 a_32 ((600 + (8 * x1)) + 2) x_31 (fun h_33 => F none h_33)))))))))))))))))))))))))))))))))) : bz_J G κ kX12_ends (d + 1) F bc bs 0 [some (.inr (some a0)), some (.inl x1)] [] h := by
  subst hl
  refine bz_aload_n (pc := 0) dX12_ends_0 rfl rfl ?_
  refine bz_rw_rR (pc := 1) dX12_ends_1 fl_X12_7 hP (fun r_1 hP => ?_)
  refine bz_sipush (v := 894) (pc := 4) dX12_ends_4 (by decide) ?_
  refine bz_iconst (v := 3) (pc := 7) dX12_ends_7 (by decide) ?_
  refine bz_aload_n (pc := 8) dX12_ends_8 rfl rfl ?_
  refine bz_rw_rR (pc := 9) dX12_ends_9 fl_X12_7 hP (fun r_2 hP => ?_)
  refine bz_bipush (v := 10) (pc := 12) dX12_ends_12 (by decide) ?_
  obtain ⟨a_3, rfl, hP⟩ := hP
  refine bz_rw_rA (pc := 14) dX12_ends_14 hP (fun x_4 hP => ?_)
  refine bz_imul (pc := 15) dX12_ends_15 ?_
  refine bz_iadd (pc := 16) dX12_ends_16 ?_
  refine bz_iload_n (pc := 17) dX12_ends_17 rfl rfl ?_
  obtain ⟨a_5, rfl, hP⟩ := hP
  refine bz_rw_wA (pc := 18) dX12_ends_18 hP (fun h_6 hP => ?_)
  refine bz_aload_n (pc := 19) dX12_ends_19 rfl rfl ?_
  refine bz_rw_rR (pc := 20) dX12_ends_20 fl_X12_7 hP (fun r_7 hP => ?_)
  refine bz_sipush (v := 894) (pc := 23) dX12_ends_23 (by decide) ?_
  refine bz_iconst (v := 3) (pc := 26) dX12_ends_26 (by decide) ?_
  refine bz_aload_n (pc := 27) dX12_ends_27 rfl rfl ?_
  refine bz_rw_rR (pc := 28) dX12_ends_28 fl_X12_7 hP (fun r_8 hP => ?_)
  refine bz_bipush (v := 10) (pc := 31) dX12_ends_31 (by decide) ?_
  obtain ⟨a_9, rfl, hP⟩ := hP
  refine bz_rw_rA (pc := 33) dX12_ends_33 hP (fun x_10 hP => ?_)
  refine bz_imul (pc := 34) dX12_ends_34 ?_
  refine bz_iadd (pc := 35) dX12_ends_35 ?_
  refine bz_iconst (v := 1) (pc := 36) dX12_ends_36 (by decide) ?_
  refine bz_iadd (pc := 37) dX12_ends_37 ?_
  refine bz_aload_n (pc := 38) dX12_ends_38 rfl rfl ?_
  refine bz_iload_n (pc := 39) dX12_ends_39 rfl rfl ?_
  refine bz_kIV (as := [.inl x1]) (st := [.inl ((894 + (3 * x_10)) + 1), .inr r_7]) (ci := 12) (pc := 40) dX12_ends_40 sc_X12_beginsAt ml_X12_187 im_X12_beginsAt se_X12_beginsAt rfl rfl rfl (by decide) hP (fun x_11 h_12 hP => ?_)
  obtain ⟨a_13, rfl, hP⟩ := hP
  refine bz_rw_wA (pc := 43) dX12_ends_43 hP (fun h_14 hP => ?_)
  refine bz_aload_n (pc := 44) dX12_ends_44 rfl rfl ?_
  refine bz_rw_rR (pc := 45) dX12_ends_45 fl_X12_7 hP (fun r_15 hP => ?_)
  refine bz_sipush (v := 894) (pc := 48) dX12_ends_48 (by decide) ?_
  refine bz_iconst (v := 3) (pc := 51) dX12_ends_51 (by decide) ?_
  refine bz_aload_n (pc := 52) dX12_ends_52 rfl rfl ?_
  refine bz_rw_rR (pc := 53) dX12_ends_53 fl_X12_7 hP (fun r_16 hP => ?_)
  refine bz_bipush (v := 10) (pc := 56) dX12_ends_56 (by decide) ?_
  obtain ⟨a_17, rfl, hP⟩ := hP
  refine bz_rw_rA (pc := 58) dX12_ends_58 hP (fun x_18 hP => ?_)
  refine bz_imul (pc := 59) dX12_ends_59 ?_
  refine bz_iadd (pc := 60) dX12_ends_60 ?_
  refine bz_iconst (v := 2) (pc := 61) dX12_ends_61 (by decide) ?_
  refine bz_iadd (pc := 62) dX12_ends_62 ?_
  refine bz_aload_n (pc := 63) dX12_ends_63 rfl rfl ?_
  refine bz_rw_rI (pc := 64) dX12_ends_64 fl_X12_167 hP (fun x_19 hP => ?_)
  obtain ⟨a_20, rfl, hP⟩ := hP
  refine bz_rw_wA (pc := 67) dX12_ends_67 hP (fun h_21 hP => ?_)
  refine bz_aload_n (pc := 68) dX12_ends_68 rfl rfl ?_
  refine bz_rw_rR (pc := 69) dX12_ends_69 fl_X12_7 hP (fun r_22 hP => ?_)
  refine bz_bipush (v := 10) (pc := 72) dX12_ends_72 (by decide) ?_
  refine bz_dup2 (pc := 74) dX12_ends_74 ?_
  obtain ⟨a_23, rfl, hP⟩ := hP
  refine bz_rw_rA (pc := 75) dX12_ends_75 hP (fun x_24 hP => ?_)
  refine bz_iconst (v := 1) (pc := 76) dX12_ends_76 (by decide) ?_
  refine bz_iadd (pc := 77) dX12_ends_77 ?_
  refine bz_rw_wA (pc := 78) dX12_ends_78 hP (fun h_25 hP => ?_)
  refine bz_aload_n (pc := 79) dX12_ends_79 rfl rfl ?_
  refine bz_rw_rR (pc := 80) dX12_ends_80 fl_X12_7 hP (fun r_26 hP => ?_)
  refine bz_sipush (v := 600) (pc := 83) dX12_ends_83 (by decide) ?_
  refine bz_bipush (v := 8) (pc := 86) dX12_ends_86 (by decide) ?_
  refine bz_iload_n (pc := 88) dX12_ends_88 rfl rfl ?_
  refine bz_imul (pc := 89) dX12_ends_89 ?_
  refine bz_iadd (pc := 90) dX12_ends_90 ?_
  refine bz_iconst (v := 1) (pc := 91) dX12_ends_91 (by decide) ?_
  refine bz_iadd (pc := 92) dX12_ends_92 ?_
  refine bz_aload_n (pc := 93) dX12_ends_93 rfl rfl ?_
  refine bz_rw_rI (pc := 94) dX12_ends_94 fl_X12_163 hP (fun x_27 hP => ?_)
  obtain ⟨a_28, rfl, hP⟩ := hP
  refine bz_rw_wA (pc := 97) dX12_ends_97 hP (fun h_29 hP => ?_)
  refine bz_aload_n (pc := 98) dX12_ends_98 rfl rfl ?_
  refine bz_rw_rR (pc := 99) dX12_ends_99 fl_X12_7 hP (fun r_30 hP => ?_)
  refine bz_sipush (v := 600) (pc := 102) dX12_ends_102 (by decide) ?_
  refine bz_bipush (v := 8) (pc := 105) dX12_ends_105 (by decide) ?_
  refine bz_iload_n (pc := 107) dX12_ends_107 rfl rfl ?_
  refine bz_imul (pc := 108) dX12_ends_108 ?_
  refine bz_iadd (pc := 109) dX12_ends_109 ?_
  refine bz_iconst (v := 2) (pc := 110) dX12_ends_110 (by decide) ?_
  refine bz_iadd (pc := 111) dX12_ends_111 ?_
  refine bz_aload_n (pc := 112) dX12_ends_112 rfl rfl ?_
  refine bz_rw_rI (pc := 113) dX12_ends_113 fl_X12_167 hP (fun x_31 hP => ?_)
  obtain ⟨a_32, rfl, hP⟩ := hP
  refine bz_rw_wA (pc := 116) dX12_ends_116 hP (fun h_33 hP => ?_)
  exact bz_retV (pc := 117) dX12_ends_117 rfl hP
theorem m_X12_ends {G : bz_G} {l : Launch} {d mc ms : Nat} {F : Option bz_V → bz_H → Prop} (a0 : Nat) (x1 : Int32) (h : bz_H) (hP : bz_rR h a0 12 0 (fun r_1 => bz_rR h a0 12 0 (fun r_2 => bz_nn r_2 (fun a_3 => bz_rA h a_3 10 (fun x_4 => bz_nn r_1 (fun a_5 => bz_wA h a_5 (894 + (3 * x_4)) x1 (fun h_6 => bz_rR h_6 a0 12 0 (fun r_7 => bz_rR h_6 a0 12 0 (fun r_8 => bz_nn r_8 (fun a_9 => bz_rA h_6 a_9 10 (fun x_10 => bz_rc h_6 a0 12 (bz_cI G l d kX12_beginsAt [.inr (some a0), .inl x1] h_6 0 0 (fun x_11 h_12 => bz_nn r_7 (fun a_13 => bz_wA h_12 a_13 ((894 + (3 * x_10)) + 1) x_11 (fun h_14 => bz_rR h_14 a0 12 0 (fun r_15 => bz_rR h_14 a0 12 0 (fun r_16 => bz_nn r_16 (fun a_17 => bz_rA h_14 a_17 10 (fun x_18 => bz_rI h_14 a0 12 7 (fun x_19 => bz_nn r_15 (fun a_20 => bz_wA h_14 a_20 ((894 + (3 * x_18)) + 2) x_19 (fun h_21 => bz_rR h_21 a0 12 0 (fun r_22 => bz_nn r_22 (fun a_23 => bz_rA h_21 a_23 10 (fun x_24 => bz_wA h_21 a_23 10 (x_24 + 1) (fun h_25 => bz_rR h_25 a0 12 0 (fun r_26 => bz_rI h_25 a0 12 6 (fun x_27 => bz_nn r_26 (fun a_28 => bz_wA h_25 a_28 ((600 + (8 * x1)) + 1) x_27 (fun h_29 => bz_rR h_29 a0 12 0 (fun r_30 => bz_rI h_29 a0 12 7 (fun x_31 => bz_nn r_30 (fun a_32 => bz_wA h_29 a_32 ((600 + (8 * x1)) + 2) x_31 (fun h_33 => F none h_33)))))))))))))))))))))))))))))))))) : bz_Call G l (d + 1) kX12_ends [.inr (some a0), .inl x1] h mc ms F :=
  bz_body (by decide) (by decide) (fun κ hl => g_X12_ends_0 hl a0 x1 h hP)
set_option maxRecDepth 20000 in
set_option maxHeartbeats 4000000 in
theorem g_X12_engaged_0 {G : bz_G} {κ : bz_K} {l : Launch} {d : Nat} {F : Option bz_V → bz_H → Prop} {bc bs : Nat} (hl : κ.2.1 = l) (a0 : Nat) (x1 : Int32) (h : bz_H) (hP : bz_J G κ kX12_engaged (d + 1) F bc bs 4 [some (.inr (some a0)), some (.inl x1), some (.inl 0), some (.inl 0)] [] h) : bz_J G κ kX12_engaged (d + 1) F bc bs 0 [some (.inr (some a0)), some (.inl x1), none, none] [] h := by
  subst hl
  refine bz_iconst (v := 0) (pc := 0) dX12_engaged_0 (by decide) ?_
  refine bz_s_istore_n (pc := 1) dX12_engaged_1 rfl (by decide) [some (.inr (some a0)), some (.inl x1), some (.inl 0), none] rfl ?_
  refine bz_iconst (v := 0) (pc := 2) dX12_engaged_2 (by decide) ?_
  refine bz_s_istore_n (pc := 3) dX12_engaged_3 rfl (by decide) [some (.inr (some a0)), some (.inl x1), some (.inl 0), some (.inl 0)] rfl ?_
  exact hP
set_option maxRecDepth 20000 in
set_option maxHeartbeats 4000000 in
theorem g_X12_engaged_4 {G : bz_G} {κ : bz_K} {l : Launch} {d : Nat} {F : Option bz_V → bz_H → Prop} {bc bs : Nat} (hl : κ.2.1 = l) (a0 : Nat) (x1 : Int32) (x2 : Int32) (x3 : Int32) (h : bz_H) (hP : bz_rR h a0 12 0 (fun r_1 => bz_nn r_1 (fun a_2 => bz_rA h a_2 10 (fun x_3 => (x_3 ≤ x3 → F (some (.inl x2)) h) ∧ (¬ (x_3 ≤ x3) → bz_rR h a0 12 0 (fun r_4 => bz_nn r_4 (fun a_5 => bz_rA h a_5 (894 + (3 * x3)) (fun x_6 => (¬ x_6 = x1 → bz_J G κ kX12_engaged (d + 1) F bc bs 4 [some (.inr (some a0)), some (.inl x1), some (.inl (x2 + 0)), some (.inl (x3 + 1))] [] h) ∧ (x_6 = x1 → bz_rR h a0 12 0 (fun r_7 => bz_nn r_7 (fun a_8 => bz_rA h a_8 ((894 + (3 * x3)) + 2) (fun x_9 => bz_rR h a0 12 0 (fun r_10 => bz_nn r_10 (fun a_11 => bz_rA h a_11 ((894 + (3 * x3)) + 1) (fun x_12 => bz_J G κ kX12_engaged (d + 1) F bc bs 4 [some (.inr (some a0)), some (.inl x1), some (.inl (x2 + (x_9 - x_12))), some (.inl (x3 + 1))] [] h))))))))))))))) : bz_J G κ kX12_engaged (d + 1) F bc bs 4 [some (.inr (some a0)), some (.inl x1), some (.inl x2), some (.inl x3)] [] h := by
  subst hl
  refine bz_iload_n (pc := 4) dX12_engaged_4 rfl rfl ?_
  refine bz_aload_n (pc := 5) dX12_engaged_5 rfl rfl ?_
  refine bz_rw_rR (pc := 6) dX12_engaged_6 fl_X12_7 hP (fun r_1 hP => ?_)
  refine bz_bipush (v := 10) (pc := 9) dX12_engaged_9 (by decide) ?_
  obtain ⟨a_2, rfl, hP⟩ := hP
  refine bz_rw_rA (pc := 11) dX12_engaged_11 hP (fun x_3 hP => ?_)
  refine bz_icmp_ge (tgt := 73) (pc := 12) dX12_engaged_12 (by decide) (fun c => ?_) (fun c => ?_)
  · have hP := hP.1 c
    refine bz_iload_n (pc := 73) dX12_engaged_73 rfl rfl ?_
    exact bz_retI (pc := 74) dX12_engaged_74 rfl rfl hP
  · have hP := hP.2 c
    refine bz_iload_n (pc := 15) dX12_engaged_15 rfl rfl ?_
    refine bz_aload_n (pc := 16) dX12_engaged_16 rfl rfl ?_
    refine bz_rw_rR (pc := 17) dX12_engaged_17 fl_X12_7 hP (fun r_4 hP => ?_)
    refine bz_sipush (v := 894) (pc := 20) dX12_engaged_20 (by decide) ?_
    refine bz_iconst (v := 3) (pc := 23) dX12_engaged_23 (by decide) ?_
    refine bz_iload_n (pc := 24) dX12_engaged_24 rfl rfl ?_
    refine bz_imul (pc := 25) dX12_engaged_25 ?_
    refine bz_iadd (pc := 26) dX12_engaged_26 ?_
    obtain ⟨a_5, rfl, hP⟩ := hP
    refine bz_rw_rA (pc := 27) dX12_engaged_27 hP (fun x_6 hP => ?_)
    refine bz_iload_n (pc := 28) dX12_engaged_28 rfl rfl ?_
    refine bz_icmp_ne (tgt := 64) (pc := 29) dX12_engaged_29 (by decide) (fun c => ?_) (fun c => ?_)
    · have hP := hP.1 c
      refine bz_iconst (v := 0) (pc := 64) dX12_engaged_64 (by decide) ?_
      refine bz_iadd (pc := 65) dX12_engaged_65 ?_
      refine bz_s_istore_n (pc := 66) dX12_engaged_66 rfl (by decide) [some (.inr (some a0)), some (.inl x1), some (.inl (x2 + 0)), some (.inl x3)] rfl ?_
      refine bz_s_iinc (pc := 67) dX12_engaged_67 (by decide) rfl rfl [some (.inr (some a0)), some (.inl x1), some (.inl (x2 + 0)), some (.inl (x3 + 1))] rfl ?_
      refine bz_goto (tgt := 4) (pc := 70) dX12_engaged_70 (by decide) ?_
      exact hP
    · have hP := hP.2 c
      refine bz_aload_n (pc := 32) dX12_engaged_32 rfl rfl ?_
      refine bz_rw_rR (pc := 33) dX12_engaged_33 fl_X12_7 hP (fun r_7 hP => ?_)
      refine bz_sipush (v := 894) (pc := 36) dX12_engaged_36 (by decide) ?_
      refine bz_iconst (v := 3) (pc := 39) dX12_engaged_39 (by decide) ?_
      refine bz_iload_n (pc := 40) dX12_engaged_40 rfl rfl ?_
      refine bz_imul (pc := 41) dX12_engaged_41 ?_
      refine bz_iadd (pc := 42) dX12_engaged_42 ?_
      refine bz_iconst (v := 2) (pc := 43) dX12_engaged_43 (by decide) ?_
      refine bz_iadd (pc := 44) dX12_engaged_44 ?_
      obtain ⟨a_8, rfl, hP⟩ := hP
      refine bz_rw_rA (pc := 45) dX12_engaged_45 hP (fun x_9 hP => ?_)
      refine bz_aload_n (pc := 46) dX12_engaged_46 rfl rfl ?_
      refine bz_rw_rR (pc := 47) dX12_engaged_47 fl_X12_7 hP (fun r_10 hP => ?_)
      refine bz_sipush (v := 894) (pc := 50) dX12_engaged_50 (by decide) ?_
      refine bz_iconst (v := 3) (pc := 53) dX12_engaged_53 (by decide) ?_
      refine bz_iload_n (pc := 54) dX12_engaged_54 rfl rfl ?_
      refine bz_imul (pc := 55) dX12_engaged_55 ?_
      refine bz_iadd (pc := 56) dX12_engaged_56 ?_
      refine bz_iconst (v := 1) (pc := 57) dX12_engaged_57 (by decide) ?_
      refine bz_iadd (pc := 58) dX12_engaged_58 ?_
      obtain ⟨a_11, rfl, hP⟩ := hP
      refine bz_rw_rA (pc := 59) dX12_engaged_59 hP (fun x_12 hP => ?_)
      refine bz_isub (pc := 60) dX12_engaged_60 ?_
      refine bz_goto (tgt := 65) (pc := 61) dX12_engaged_61 (by decide) ?_
      refine bz_iadd (pc := 65) dX12_engaged_65 ?_
      refine bz_s_istore_n (pc := 66) dX12_engaged_66 rfl (by decide) [some (.inr (some a0)), some (.inl x1), some (.inl (x2 + (x_9 - x_12))), some (.inl x3)] rfl ?_
      refine bz_s_iinc (pc := 67) dX12_engaged_67 (by decide) rfl rfl [some (.inr (some a0)), some (.inl x1), some (.inl (x2 + (x_9 - x_12))), some (.inl (x3 + 1))] rfl ?_
      refine bz_goto (tgt := 4) (pc := 70) dX12_engaged_70 (by decide) ?_
      exact hP
theorem m_X12_engaged {G : bz_G} {l : Launch} {d mc ms : Nat} {F : Option bz_V → bz_H → Prop} (a0 : Nat) (x1 : Int32) (h : bz_H) (hP : ∀ (κ : bz_K) (bc bs : Nat), κ.2.1 = l → bz_J G κ kX12_engaged (d + 1) F bc bs 4 [some (.inr (some a0)), some (.inl x1), some (.inl 0), some (.inl 0)] [] h) : bz_Call G l (d + 1) kX12_engaged [.inr (some a0), .inl x1] h mc ms F :=
  bz_body (by decide) (by decide) (fun κ hl => g_X12_engaged_0 hl a0 x1 h (hP κ mc ms hl))
set_option maxRecDepth 20000 in
set_option maxHeartbeats 4000000 in
theorem g_X12_feed_0 {G : bz_G} {κ : bz_K} {l : Launch} {d : Nat} {F : Option bz_V → bz_H → Prop} {bc bs : Nat} (hl : κ.2.1 = l) (a0 : Nat) (x1 : Int32) (x2 : Int32) (h : bz_H) (hP : bz_cI G l d kX12_in [.inl x2, .inl 1, .inl 4] h 0 0 (fun x_1 h_2 => (¬ x_1 = 0 → bz_rI h_2 a0 12 14 (fun x_3 => ((x_3 + x2) ≤ 80 → bz_J G κ kX12_feed (d + 1) F bc bs 36 [some (.inr (some a0)), some (.inl x1), some (.inl x2), some (.inl (x2 - 1))] [] h_2) ∧ (¬ ((x_3 + x2) ≤ 80) → bz_rc h_2 a0 12 (bz_cI G l d kX12_finding [.inr (some a0), .inl 1] h_2 0 0 (fun x_4 h_5 => F (some (.inl x_4)) h_5))))) ∧ (x_1 = 0 → bz_rc h_2 a0 12 (bz_cI G l d kX12_finding [.inr (some a0), .inl 0] h_2 0 0 (fun x_6 h_7 => F (some (.inl x_6)) h_7))))) : bz_J G κ kX12_feed (d + 1) F bc bs 0 [some (.inr (some a0)), some (.inl x1), some (.inl x2), none] [] h := by
  subst hl
  refine bz_iload_n (pc := 0) dX12_feed_0 rfl rfl ?_
  refine bz_iconst (v := 1) (pc := 1) dX12_feed_1 (by decide) ?_
  refine bz_iconst (v := 4) (pc := 2) dX12_feed_2 (by decide) ?_
  refine bz_kIS (as := [.inl x2, .inl 1, .inl 4]) (st := []) (pc := 3) dX12_feed_3 sc_X12_in ml_X12_65 ss_X12_in rfl (by decide) hP (fun x_1 h_2 hP => ?_)
  refine bz_if_ne (tgt := 15) (pc := 6) dX12_feed_6 (by decide) (fun c => ?_) (fun c => ?_)
  · have hP := hP.1 c
    refine bz_aload_n (pc := 15) dX12_feed_15 rfl rfl ?_
    refine bz_rw_rI (pc := 16) dX12_feed_16 fl_X12_235 hP (fun x_3 hP => ?_)
    refine bz_iload_n (pc := 19) dX12_feed_19 rfl rfl ?_
    refine bz_iadd (pc := 20) dX12_feed_20 ?_
    refine bz_bipush (v := 80) (pc := 21) dX12_feed_21 (by decide) ?_
    refine bz_icmp_le (tgt := 32) (pc := 23) dX12_feed_23 (by decide) (fun c => ?_) (fun c => ?_)
    · have hP := hP.1 c
      refine bz_iload_n (pc := 32) dX12_feed_32 rfl rfl ?_
      refine bz_iconst (v := 1) (pc := 33) dX12_feed_33 (by decide) ?_
      refine bz_isub (pc := 34) dX12_feed_34 ?_
      refine bz_s_istore_n (pc := 35) dX12_feed_35 rfl (by decide) [some (.inr (some a0)), some (.inl x1), some (.inl x2), some (.inl (x2 - 1))] rfl ?_
      exact hP
    · have hP := hP.2 c
      refine bz_aload_n (pc := 26) dX12_feed_26 rfl rfl ?_
      refine bz_iconst (v := 1) (pc := 27) dX12_feed_27 (by decide) ?_
      refine bz_kIV (as := [.inl 1]) (st := []) (ci := 12) (pc := 28) dX12_feed_28 sc_X12_finding ml_X12_73 im_X12_finding se_X12_finding rfl rfl rfl (by decide) hP (fun x_4 h_5 hP => ?_)
      exact bz_retI (pc := 31) dX12_feed_31 rfl rfl hP
  · have hP := hP.2 c
    refine bz_aload_n (pc := 9) dX12_feed_9 rfl rfl ?_
    refine bz_iconst (v := 0) (pc := 10) dX12_feed_10 (by decide) ?_
    refine bz_kIV (as := [.inl 0]) (st := []) (ci := 12) (pc := 11) dX12_feed_11 sc_X12_finding ml_X12_73 im_X12_finding se_X12_finding rfl rfl rfl (by decide) hP (fun x_6 h_7 hP => ?_)
    exact bz_retI (pc := 14) dX12_feed_14 rfl rfl hP
set_option maxRecDepth 20000 in
set_option maxHeartbeats 4000000 in
theorem g_X12_feed_36 {G : bz_G} {κ : bz_K} {l : Launch} {d : Nat} {F : Option bz_V → bz_H → Prop} {bc bs : Nat} (hl : κ.2.1 = l) (a0 : Nat) (x1 : Int32) (x2 : Int32) (x3 : Int32) (h : bz_H) (hP : (x3 < 0 → bz_rI h a0 12 14 (fun x_8 => F (some (.inl x_8)) h)) ∧ (¬ (x3 < 0) → bz_rR h a0 12 13 (fun r_9 => bz_rI h a0 12 14 (fun x_10 => bz_nn r_9 (fun a_11 => bz_wA h a_11 x_10 ((x1 >>> ((8 * x3) &&& 31)) &&& 255) (fun h_12 => bz_rI h_12 a0 12 14 (fun x_13 => bz_wI h_12 a0 12 14 (x_13 + 1) (fun h_14 => bz_J G κ kX12_feed (d + 1) F bc bs 36 [some (.inr (some a0)), some (.inl x1), some (.inl x2), some (.inl (x3 + (-1)))] [] h_14)))))))) : bz_J G κ kX12_feed (d + 1) F bc bs 36 [some (.inr (some a0)), some (.inl x1), some (.inl x2), some (.inl x3)] [] h := by
  subst hl
  refine bz_iload_n (pc := 36) dX12_feed_36 rfl rfl ?_
  refine bz_if_lt (tgt := 75) (pc := 37) dX12_feed_37 (by decide) (fun c => ?_) (fun c => ?_)
  · have hP := hP.1 c
    refine bz_aload_n (pc := 75) dX12_feed_75 rfl rfl ?_
    refine bz_rw_rI (pc := 76) dX12_feed_76 fl_X12_235 hP (fun x_8 hP => ?_)
    exact bz_retI (pc := 79) dX12_feed_79 rfl rfl hP
  · have hP := hP.2 c
    refine bz_aload_n (pc := 40) dX12_feed_40 rfl rfl ?_
    refine bz_rw_rR (pc := 41) dX12_feed_41 fl_X12_28 hP (fun r_9 hP => ?_)
    refine bz_aload_n (pc := 44) dX12_feed_44 rfl rfl ?_
    refine bz_rw_rI (pc := 45) dX12_feed_45 fl_X12_235 hP (fun x_10 hP => ?_)
    refine bz_iload_n (pc := 48) dX12_feed_48 rfl rfl ?_
    refine bz_bipush (v := 8) (pc := 49) dX12_feed_49 (by decide) ?_
    refine bz_iload_n (pc := 51) dX12_feed_51 rfl rfl ?_
    refine bz_imul (pc := 52) dX12_feed_52 ?_
    refine bz_ishr (pc := 53) dX12_feed_53 ?_
    refine bz_sipush (v := 255) (pc := 54) dX12_feed_54 (by decide) ?_
    refine bz_iand (pc := 57) dX12_feed_57 ?_
    obtain ⟨a_11, rfl, hP⟩ := hP
    refine bz_rw_wA (pc := 58) dX12_feed_58 hP (fun h_12 hP => ?_)
    refine bz_aload_n (pc := 59) dX12_feed_59 rfl rfl ?_
    refine bz_dup (pc := 60) dX12_feed_60 ?_
    refine bz_rw_rI (pc := 61) dX12_feed_61 fl_X12_235 hP (fun x_13 hP => ?_)
    refine bz_iconst (v := 1) (pc := 64) dX12_feed_64 (by decide) ?_
    refine bz_iadd (pc := 65) dX12_feed_65 ?_
    refine bz_rw_wI (pc := 66) dX12_feed_66 fl_X12_235 (fun q h9 => by cases h9; rfl) rfl hP (fun h_14 hP => ?_)
    refine bz_s_iinc (pc := 69) dX12_feed_69 (by decide) rfl rfl [some (.inr (some a0)), some (.inl x1), some (.inl x2), some (.inl (x3 + (-1)))] rfl ?_
    refine bz_goto (tgt := 36) (pc := 72) dX12_feed_72 (by decide) ?_
    exact hP
theorem m_X12_feed {G : bz_G} {l : Launch} {d mc ms : Nat} {F : Option bz_V → bz_H → Prop} (a0 : Nat) (x1 : Int32) (x2 : Int32) (h : bz_H) (hP : ∀ (κ : bz_K) (bc bs : Nat), κ.2.1 = l → bz_cI G l d kX12_in [.inl x2, .inl 1, .inl 4] h 0 0 (fun x_1 h_2 => (¬ x_1 = 0 → bz_rI h_2 a0 12 14 (fun x_3 => ((x_3 + x2) ≤ 80 → bz_J G κ kX12_feed (d + 1) F bc bs 36 [some (.inr (some a0)), some (.inl x1), some (.inl x2), some (.inl (x2 - 1))] [] h_2) ∧ (¬ ((x_3 + x2) ≤ 80) → bz_rc h_2 a0 12 (bz_cI G l d kX12_finding [.inr (some a0), .inl 1] h_2 0 0 (fun x_4 h_5 => F (some (.inl x_4)) h_5))))) ∧ (x_1 = 0 → bz_rc h_2 a0 12 (bz_cI G l d kX12_finding [.inr (some a0), .inl 0] h_2 0 0 (fun x_6 h_7 => F (some (.inl x_6)) h_7))))) : bz_Call G l (d + 1) kX12_feed [.inr (some a0), .inl x1, .inl x2] h mc ms F :=
  bz_body (by decide) (by decide) (fun κ hl => g_X12_feed_0 hl a0 x1 x2 h (hP κ mc ms hl))
set_option maxRecDepth 20000 in
set_option maxHeartbeats 4000000 in
theorem g_X12_findWays_0 {G : bz_G} {κ : bz_K} {l : Launch} {d : Nat} {F : Option bz_V → bz_H → Prop} {bc bs : Nat} (hl : κ.2.1 = l) (a0 : Nat) (h : bz_H) (hP : bz_J G κ kX12_findWays (d + 1) F bc bs 2 [some (.inr (some a0)), some (.inl 0), none, none, none] [] h) : bz_J G κ kX12_findWays (d + 1) F bc bs 0 [some (.inr (some a0)), none, none, none, none] [] h := by
  subst hl
  refine bz_iconst (v := 0) (pc := 0) dX12_findWays_0 (by decide) ?_
  refine bz_s_istore_n (pc := 1) dX12_findWays_1 rfl (by decide) [some (.inr (some a0)), some (.inl 0), none, none, none] rfl ?_
  exact hP
set_option maxRecDepth 20000 in
set_option maxHeartbeats 4000000 in
theorem g_X12_findWays_2 {G : bz_G} {κ : bz_K} {l : Launch} {d : Nat} {F : Option bz_V → bz_H → Prop} {bc bs : Nat} (hl : κ.2.1 = l) (a0 : Nat) (x1 : Int32) (u2 : Option bz_V) (u3 : Option bz_V) (u4 : Option bz_V) (h : bz_H) (hP : (16 ≤ x1 → bz_J G κ kX12_findWays (d + 1) F bc bs 108 [some (.inr (some a0)), some (.inl 0), u2, u3, u4] [] h) ∧ (¬ (16 ≤ x1) → bz_J G κ kX12_findWays (d + 1) F bc bs 10 [some (.inr (some a0)), some (.inl x1), some (.inl 0), u3, u4] [] h)) : bz_J G κ kX12_findWays (d + 1) F bc bs 2 [some (.inr (some a0)), some (.inl x1), u2, u3, u4] [] h := by
  subst hl
  refine bz_iload_n (pc := 2) dX12_findWays_2 rfl rfl ?_
  refine bz_bipush (v := 16) (pc := 3) dX12_findWays_3 (by decide) ?_
  refine bz_icmp_ge (tgt := 106) (pc := 5) dX12_findWays_5 (by decide) (fun c => ?_) (fun c => ?_)
  · have hP := hP.1 c
    refine bz_iconst (v := 0) (pc := 106) dX12_findWays_106 (by decide) ?_
    refine bz_s_istore_n (pc := 107) dX12_findWays_107 rfl (by decide) [some (.inr (some a0)), some (.inl 0), u2, u3, u4] rfl ?_
    exact hP
  · have hP := hP.2 c
    refine bz_iconst (v := 0) (pc := 8) dX12_findWays_8 (by decide) ?_
    refine bz_s_istore_n (pc := 9) dX12_findWays_9 rfl (by decide) [some (.inr (some a0)), some (.inl x1), some (.inl 0), u3, u4] rfl ?_
    exact hP
set_option maxRecDepth 20000 in
set_option maxHeartbeats 4000000 in
theorem g_X12_findWays_10 {G : bz_G} {κ : bz_K} {l : Launch} {d : Nat} {F : Option bz_V → bz_H → Prop} {bc bs : Nat} (hl : κ.2.1 = l) (a0 : Nat) (x1 : Int32) (x2 : Int32) (u3 : Option bz_V) (u4 : Option bz_V) (h : bz_H) (hP : (16 ≤ x2 → bz_J G κ kX12_findWays (d + 1) F bc bs 2 [some (.inr (some a0)), some (.inl (x1 + 1)), some (.inl x2), u3, u4] [] h) ∧ (¬ (16 ≤ x2) → bz_rR h a0 12 0 (fun r_1 => bz_nn r_1 (fun a_2 => bz_rA h a_2 (12 + x2) (fun x_3 => bz_rR h a0 12 0 (fun r_4 => bz_nn r_4 (fun a_5 => bz_rA h a_5 (12 + x1) (fun x_6 => bz_rR h a0 12 0 (fun r_7 => bz_nn r_7 (fun a_8 => bz_rA h a_8 ((44 + (16 * x1)) + x2) (fun x_9 => bz_rR h a0 12 4 (fun r_10 => (¬ x1 = x2 → (¬ x_9 = 0 → bz_nn r_10 (fun a_11 => bz_wA h a_11 ((16 * x1) + x2) (x_9 + (if (x_3 - x_6) ≤ 0 then 0 else x_3 - x_6)) (fun h_12 => bz_J G κ kX12_findWays (d + 1) F bc bs 10 [some (.inr (some a0)), some (.inl x1), some (.inl (x2 + 1)), some (.inl (x_3 - x_6)), some (.inl x_9)] [] h_12))) ∧ (x_9 = 0 → bz_nn r_10 (fun a_13 => bz_wA h a_13 ((16 * x1) + x2) 1000000 (fun h_14 => bz_J G κ kX12_findWays (d + 1) F bc bs 10 [some (.inr (some a0)), some (.inl x1), some (.inl (x2 + 1)), some (.inl (x_3 - x_6)), some (.inl x_9)] [] h_14)))) ∧ (x1 = x2 → bz_nn r_10 (fun a_15 => bz_wA h a_15 ((16 * x1) + x2) 0 (fun h_16 => bz_J G κ kX12_findWays (d + 1) F bc bs 10 [some (.inr (some a0)), some (.inl x1), some (.inl (x2 + 1)), some (.inl (x_3 - x_6)), some (.inl x_9)] [] h_16))))))))))))))) : bz_J G κ kX12_findWays (d + 1) F bc bs 10 [some (.inr (some a0)), some (.inl x1), some (.inl x2), u3, u4] [] h := by
  subst hl
  refine bz_iload_n (pc := 10) dX12_findWays_10 rfl rfl ?_
  refine bz_bipush (v := 16) (pc := 11) dX12_findWays_11 (by decide) ?_
  refine bz_icmp_ge (tgt := 100) (pc := 13) dX12_findWays_13 (by decide) (fun c => ?_) (fun c => ?_)
  · have hP := hP.1 c
    refine bz_s_iinc (pc := 100) dX12_findWays_100 (by decide) rfl rfl [some (.inr (some a0)), some (.inl (x1 + 1)), some (.inl x2), u3, u4] rfl ?_
    refine bz_goto (tgt := 2) (pc := 103) dX12_findWays_103 (by decide) ?_
    exact hP
  · have hP := hP.2 c
    refine bz_aload_n (pc := 16) dX12_findWays_16 rfl rfl ?_
    refine bz_rw_rR (pc := 17) dX12_findWays_17 fl_X12_7 hP (fun r_1 hP => ?_)
    refine bz_bipush (v := 12) (pc := 20) dX12_findWays_20 (by decide) ?_
    refine bz_iload_n (pc := 22) dX12_findWays_22 rfl rfl ?_
    refine bz_iadd (pc := 23) dX12_findWays_23 ?_
    obtain ⟨a_2, rfl, hP⟩ := hP
    refine bz_rw_rA (pc := 24) dX12_findWays_24 hP (fun x_3 hP => ?_)
    refine bz_aload_n (pc := 25) dX12_findWays_25 rfl rfl ?_
    refine bz_rw_rR (pc := 26) dX12_findWays_26 fl_X12_7 hP (fun r_4 hP => ?_)
    refine bz_bipush (v := 12) (pc := 29) dX12_findWays_29 (by decide) ?_
    refine bz_iload_n (pc := 31) dX12_findWays_31 rfl rfl ?_
    refine bz_iadd (pc := 32) dX12_findWays_32 ?_
    obtain ⟨a_5, rfl, hP⟩ := hP
    refine bz_rw_rA (pc := 33) dX12_findWays_33 hP (fun x_6 hP => ?_)
    refine bz_isub (pc := 34) dX12_findWays_34 ?_
    refine bz_s_istore_n (pc := 35) dX12_findWays_35 rfl (by decide) [some (.inr (some a0)), some (.inl x1), some (.inl x2), some (.inl (x_3 - x_6)), u4] rfl ?_
    refine bz_aload_n (pc := 36) dX12_findWays_36 rfl rfl ?_
    refine bz_rw_rR (pc := 37) dX12_findWays_37 fl_X12_7 hP (fun r_7 hP => ?_)
    refine bz_bipush (v := 44) (pc := 40) dX12_findWays_40 (by decide) ?_
    refine bz_bipush (v := 16) (pc := 42) dX12_findWays_42 (by decide) ?_
    refine bz_iload_n (pc := 44) dX12_findWays_44 rfl rfl ?_
    refine bz_imul (pc := 45) dX12_findWays_45 ?_
    refine bz_iadd (pc := 46) dX12_findWays_46 ?_
    refine bz_iload_n (pc := 47) dX12_findWays_47 rfl rfl ?_
    refine bz_iadd (pc := 48) dX12_findWays_48 ?_
    obtain ⟨a_8, rfl, hP⟩ := hP
    refine bz_rw_rA (pc := 49) dX12_findWays_49 hP (fun x_9 hP => ?_)
    refine bz_s_istore (pc := 50) dX12_findWays_50 (by decide) [some (.inr (some a0)), some (.inl x1), some (.inl x2), some (.inl (x_3 - x_6)), some (.inl x_9)] rfl ?_
    refine bz_aload_n (pc := 52) dX12_findWays_52 rfl rfl ?_
    refine bz_rw_rR (pc := 53) dX12_findWays_53 fl_X12_19 hP (fun r_10 hP => ?_)
    refine bz_bipush (v := 16) (pc := 56) dX12_findWays_56 (by decide) ?_
    refine bz_iload_n (pc := 58) dX12_findWays_58 rfl rfl ?_
    refine bz_imul (pc := 59) dX12_findWays_59 ?_
    refine bz_iload_n (pc := 60) dX12_findWays_60 rfl rfl ?_
    refine bz_iadd (pc := 61) dX12_findWays_61 ?_
    refine bz_iload_n (pc := 62) dX12_findWays_62 rfl rfl ?_
    refine bz_iload_n (pc := 63) dX12_findWays_63 rfl rfl ?_
    refine bz_icmp_ne (tgt := 71) (pc := 64) dX12_findWays_64 (by decide) (fun c => ?_) (fun c => ?_)
    · have hP := hP.1 c
      refine bz_iload (pc := 71) dX12_findWays_71 rfl ?_
      refine bz_if_ne (tgt := 81) (pc := 73) dX12_findWays_73 (by decide) (fun c => ?_) (fun c => ?_)
      · have hP := hP.1 c
        refine bz_iload (pc := 81) dX12_findWays_81 rfl ?_
        refine bz_iload_n (pc := 83) dX12_findWays_83 rfl rfl ?_
        have hJ : bz_J G κ kX12_findWays (d + 1) F bc bs 92 [some (.inr (some a0)), some (.inl x1), some (.inl x2), some (.inl (x_3 - x_6)), some (.inl x_9)] [.inl (if (x_3 - x_6) ≤ 0 then 0 else x_3 - x_6), .inl x_9, .inl ((16 * x1) + x2), .inr r_10] h := by
          refine bz_iadd (pc := 92) dX12_findWays_92 ?_
          obtain ⟨a_11, rfl, hP⟩ := hP
          refine bz_rw_wA (pc := 93) dX12_findWays_93 hP (fun h_12 hP => ?_)
          refine bz_s_iinc (pc := 94) dX12_findWays_94 (by decide) rfl rfl [some (.inr (some a0)), some (.inl x1), some (.inl (x2 + 1)), some (.inl (x_3 - x_6)), some (.inl x_9)] rfl ?_
          refine bz_goto (tgt := 10) (pc := 97) dX12_findWays_97 (by decide) ?_
          exact hP
        refine bz_if_le (tgt := 91) (pc := 84) dX12_findWays_84 (by decide) (fun c => ?_) (fun c => ?_)
        · have e9 : ((if (x_3 - x_6) ≤ 0 then 0 else x_3 - x_6) : Int32) = (0) := if_pos c
          rw [e9] at hJ
          refine bz_iconst (v := 0) (pc := 91) dX12_findWays_91 (by decide) ?_
          exact hJ
        · have e9 : ((if (x_3 - x_6) ≤ 0 then 0 else x_3 - x_6) : Int32) = (x_3 - x_6) := if_neg c
          rw [e9] at hJ
          refine bz_iload_n (pc := 87) dX12_findWays_87 rfl rfl ?_
          refine bz_goto (tgt := 92) (pc := 88) dX12_findWays_88 (by decide) ?_
          exact hJ
      · have hP := hP.2 c
        refine bz_ldc (pc := 76) dX12_findWays_76 ct_X12_92 ?_
        refine bz_goto (tgt := 93) (pc := 78) dX12_findWays_78 (by decide) ?_
        obtain ⟨a_13, rfl, hP⟩ := hP
        refine bz_rw_wA (pc := 93) dX12_findWays_93 hP (fun h_14 hP => ?_)
        refine bz_s_iinc (pc := 94) dX12_findWays_94 (by decide) rfl rfl [some (.inr (some a0)), some (.inl x1), some (.inl (x2 + 1)), some (.inl (x_3 - x_6)), some (.inl x_9)] rfl ?_
        refine bz_goto (tgt := 10) (pc := 97) dX12_findWays_97 (by decide) ?_
        exact hP
    · have hP := hP.2 c
      refine bz_iconst (v := 0) (pc := 67) dX12_findWays_67 (by decide) ?_
      refine bz_goto (tgt := 93) (pc := 68) dX12_findWays_68 (by decide) ?_
      obtain ⟨a_15, rfl, hP⟩ := hP
      refine bz_rw_wA (pc := 93) dX12_findWays_93 hP (fun h_16 hP => ?_)
      refine bz_s_iinc (pc := 94) dX12_findWays_94 (by decide) rfl rfl [some (.inr (some a0)), some (.inl x1), some (.inl (x2 + 1)), some (.inl (x_3 - x_6)), some (.inl x_9)] rfl ?_
      refine bz_goto (tgt := 10) (pc := 97) dX12_findWays_97 (by decide) ?_
      exact hP
set_option maxRecDepth 20000 in
set_option maxHeartbeats 4000000 in
theorem g_X12_findWays_108 {G : bz_G} {κ : bz_K} {l : Launch} {d : Nat} {F : Option bz_V → bz_H → Prop} {bc bs : Nat} (hl : κ.2.1 = l) (a0 : Nat) (x1 : Int32) (u2 : Option bz_V) (u3 : Option bz_V) (u4 : Option bz_V) (h : bz_H) (hP : (16 ≤ x1 → bz_b 1 (bz_wI h a0 12 5 1 (fun h_17 => F none h_17))) ∧ (¬ (16 ≤ x1) → bz_J G κ kX12_findWays (d + 1) F bc bs 116 [some (.inr (some a0)), some (.inl x1), some (.inl 0), u3, u4] [] h)) : bz_J G κ kX12_findWays (d + 1) F bc bs 108 [some (.inr (some a0)), some (.inl x1), u2, u3, u4] [] h := by
  subst hl
  refine bz_iload_n (pc := 108) dX12_findWays_108 rfl rfl ?_
  refine bz_bipush (v := 16) (pc := 109) dX12_findWays_109 (by decide) ?_
  refine bz_icmp_ge (tgt := 216) (pc := 111) dX12_findWays_111 (by decide) (fun c => ?_) (fun c => ?_)
  · have hP := hP.1 c
    refine bz_aload_n (pc := 216) dX12_findWays_216 rfl rfl ?_
    refine bz_iconst (v := 1) (pc := 217) dX12_findWays_217 (by decide) ?_
    refine bz_rw_wZ (pc := 218) dX12_findWays_218 fl_X12_77 (fun q h9 => by cases h9; rfl) rfl hP (fun h_17 hP => ?_)
    exact bz_retV (pc := 221) dX12_findWays_221 rfl hP
  · have hP := hP.2 c
    refine bz_iconst (v := 0) (pc := 114) dX12_findWays_114 (by decide) ?_
    refine bz_s_istore_n (pc := 115) dX12_findWays_115 rfl (by decide) [some (.inr (some a0)), some (.inl x1), some (.inl 0), u3, u4] rfl ?_
    exact hP
set_option maxRecDepth 20000 in
set_option maxHeartbeats 4000000 in
theorem g_X12_findWays_116 {G : bz_G} {κ : bz_K} {l : Launch} {d : Nat} {F : Option bz_V → bz_H → Prop} {bc bs : Nat} (hl : κ.2.1 = l) (a0 : Nat) (x1 : Int32) (x2 : Int32) (u3 : Option bz_V) (u4 : Option bz_V) (h : bz_H) (hP : (16 ≤ x2 → bz_J G κ kX12_findWays (d + 1) F bc bs 108 [some (.inr (some a0)), some (.inl (x1 + 1)), some (.inl x2), u3, u4] [] h) ∧ (¬ (16 ≤ x2) → bz_J G κ kX12_findWays (d + 1) F bc bs 124 [some (.inr (some a0)), some (.inl x1), some (.inl x2), some (.inl 0), u4] [] h)) : bz_J G κ kX12_findWays (d + 1) F bc bs 116 [some (.inr (some a0)), some (.inl x1), some (.inl x2), u3, u4] [] h := by
  subst hl
  refine bz_iload_n (pc := 116) dX12_findWays_116 rfl rfl ?_
  refine bz_bipush (v := 16) (pc := 117) dX12_findWays_117 (by decide) ?_
  refine bz_icmp_ge (tgt := 210) (pc := 119) dX12_findWays_119 (by decide) (fun c => ?_) (fun c => ?_)
  · have hP := hP.1 c
    refine bz_s_iinc (pc := 210) dX12_findWays_210 (by decide) rfl rfl [some (.inr (some a0)), some (.inl (x1 + 1)), some (.inl x2), u3, u4] rfl ?_
    refine bz_goto (tgt := 108) (pc := 213) dX12_findWays_213 (by decide) ?_
    exact hP
  · have hP := hP.2 c
    refine bz_iconst (v := 0) (pc := 122) dX12_findWays_122 (by decide) ?_
    refine bz_s_istore_n (pc := 123) dX12_findWays_123 rfl (by decide) [some (.inr (some a0)), some (.inl x1), some (.inl x2), some (.inl 0), u4] rfl ?_
    exact hP
set_option maxRecDepth 20000 in
set_option maxHeartbeats 4000000 in
theorem g_X12_findWays_124 {G : bz_G} {κ : bz_K} {l : Launch} {d : Nat} {F : Option bz_V → bz_H → Prop} {bc bs : Nat} (hl : κ.2.1 = l) (a0 : Nat) (x1 : Int32) (x2 : Int32) (x3 : Int32) (u4 : Option bz_V) (h : bz_H) (hP : (16 ≤ x3 → bz_J G κ kX12_findWays (d + 1) F bc bs 116 [some (.inr (some a0)), some (.inl x1), some (.inl (x2 + 1)), some (.inl x3), u4] [] h) ∧ (¬ (16 ≤ x3) → bz_rR h a0 12 4 (fun r_18 => bz_nn r_18 (fun a_19 => bz_rA h a_19 ((16 * x2) + x1) (fun x_20 => bz_rR h a0 12 4 (fun r_21 => bz_nn r_21 (fun a_22 => bz_rA h a_22 ((16 * x1) + x3) (fun x_23 => bz_rR h a0 12 4 (fun r_24 => bz_rR h a0 12 4 (fun r_25 => bz_nn r_25 (fun a_26 => bz_rA h a_26 ((16 * x2) + x3) (fun x_27 => (x_27 ≤ (x_20 + x_23) → bz_rR h a0 12 4 (fun r_28 => bz_nn r_28 (fun a_29 => bz_rA h a_29 ((16 * x2) + x3) (fun x_30 => bz_nn r_24 (fun a_31 => bz_wA h a_31 ((16 * x2) + x3) x_30 (fun h_32 => bz_J G κ kX12_findWays (d + 1) F bc bs 124 [some (.inr (some a0)), some (.inl x1), some (.inl x2), some (.inl (x3 + 1)), some (.inl (x_20 + x_23))] [] h_32)))))) ∧ (¬ (x_27 ≤ (x_20 + x_23)) → bz_nn r_24 (fun a_33 => bz_wA h a_33 ((16 * x2) + x3) (x_20 + x_23) (fun h_34 => bz_J G κ kX12_findWays (d + 1) F bc bs 124 [some (.inr (some a0)), some (.inl x1), some (.inl x2), some (.inl (x3 + 1)), some (.inl (x_20 + x_23))] [] h_34))))))))))))))) : bz_J G κ kX12_findWays (d + 1) F bc bs 124 [some (.inr (some a0)), some (.inl x1), some (.inl x2), some (.inl x3), u4] [] h := by
  subst hl
  refine bz_iload_n (pc := 124) dX12_findWays_124 rfl rfl ?_
  refine bz_bipush (v := 16) (pc := 125) dX12_findWays_125 (by decide) ?_
  refine bz_icmp_ge (tgt := 204) (pc := 127) dX12_findWays_127 (by decide) (fun c => ?_) (fun c => ?_)
  · have hP := hP.1 c
    refine bz_s_iinc (pc := 204) dX12_findWays_204 (by decide) rfl rfl [some (.inr (some a0)), some (.inl x1), some (.inl (x2 + 1)), some (.inl x3), u4] rfl ?_
    refine bz_goto (tgt := 116) (pc := 207) dX12_findWays_207 (by decide) ?_
    exact hP
  · have hP := hP.2 c
    refine bz_aload_n (pc := 130) dX12_findWays_130 rfl rfl ?_
    refine bz_rw_rR (pc := 131) dX12_findWays_131 fl_X12_19 hP (fun r_18 hP => ?_)
    refine bz_bipush (v := 16) (pc := 134) dX12_findWays_134 (by decide) ?_
    refine bz_iload_n (pc := 136) dX12_findWays_136 rfl rfl ?_
    refine bz_imul (pc := 137) dX12_findWays_137 ?_
    refine bz_iload_n (pc := 138) dX12_findWays_138 rfl rfl ?_
    refine bz_iadd (pc := 139) dX12_findWays_139 ?_
    obtain ⟨a_19, rfl, hP⟩ := hP
    refine bz_rw_rA (pc := 140) dX12_findWays_140 hP (fun x_20 hP => ?_)
    refine bz_aload_n (pc := 141) dX12_findWays_141 rfl rfl ?_
    refine bz_rw_rR (pc := 142) dX12_findWays_142 fl_X12_19 hP (fun r_21 hP => ?_)
    refine bz_bipush (v := 16) (pc := 145) dX12_findWays_145 (by decide) ?_
    refine bz_iload_n (pc := 147) dX12_findWays_147 rfl rfl ?_
    refine bz_imul (pc := 148) dX12_findWays_148 ?_
    refine bz_iload_n (pc := 149) dX12_findWays_149 rfl rfl ?_
    refine bz_iadd (pc := 150) dX12_findWays_150 ?_
    obtain ⟨a_22, rfl, hP⟩ := hP
    refine bz_rw_rA (pc := 151) dX12_findWays_151 hP (fun x_23 hP => ?_)
    refine bz_iadd (pc := 152) dX12_findWays_152 ?_
    refine bz_s_istore (pc := 153) dX12_findWays_153 (by decide) [some (.inr (some a0)), some (.inl x1), some (.inl x2), some (.inl x3), some (.inl (x_20 + x_23))] rfl ?_
    refine bz_aload_n (pc := 155) dX12_findWays_155 rfl rfl ?_
    refine bz_rw_rR (pc := 156) dX12_findWays_156 fl_X12_19 hP (fun r_24 hP => ?_)
    refine bz_bipush (v := 16) (pc := 159) dX12_findWays_159 (by decide) ?_
    refine bz_iload_n (pc := 161) dX12_findWays_161 rfl rfl ?_
    refine bz_imul (pc := 162) dX12_findWays_162 ?_
    refine bz_iload_n (pc := 163) dX12_findWays_163 rfl rfl ?_
    refine bz_iadd (pc := 164) dX12_findWays_164 ?_
    refine bz_iload (pc := 165) dX12_findWays_165 rfl ?_
    refine bz_aload_n (pc := 167) dX12_findWays_167 rfl rfl ?_
    refine bz_rw_rR (pc := 168) dX12_findWays_168 fl_X12_19 hP (fun r_25 hP => ?_)
    refine bz_bipush (v := 16) (pc := 171) dX12_findWays_171 (by decide) ?_
    refine bz_iload_n (pc := 173) dX12_findWays_173 rfl rfl ?_
    refine bz_imul (pc := 174) dX12_findWays_174 ?_
    refine bz_iload_n (pc := 175) dX12_findWays_175 rfl rfl ?_
    refine bz_iadd (pc := 176) dX12_findWays_176 ?_
    obtain ⟨a_26, rfl, hP⟩ := hP
    refine bz_rw_rA (pc := 177) dX12_findWays_177 hP (fun x_27 hP => ?_)
    refine bz_icmp_ge (tgt := 186) (pc := 178) dX12_findWays_178 (by decide) (fun c => ?_) (fun c => ?_)
    · have hP := hP.1 c
      refine bz_aload_n (pc := 186) dX12_findWays_186 rfl rfl ?_
      refine bz_rw_rR (pc := 187) dX12_findWays_187 fl_X12_19 hP (fun r_28 hP => ?_)
      refine bz_bipush (v := 16) (pc := 190) dX12_findWays_190 (by decide) ?_
      refine bz_iload_n (pc := 192) dX12_findWays_192 rfl rfl ?_
      refine bz_imul (pc := 193) dX12_findWays_193 ?_
      refine bz_iload_n (pc := 194) dX12_findWays_194 rfl rfl ?_
      refine bz_iadd (pc := 195) dX12_findWays_195 ?_
      obtain ⟨a_29, rfl, hP⟩ := hP
      refine bz_rw_rA (pc := 196) dX12_findWays_196 hP (fun x_30 hP => ?_)
      obtain ⟨a_31, rfl, hP⟩ := hP
      refine bz_rw_wA (pc := 197) dX12_findWays_197 hP (fun h_32 hP => ?_)
      refine bz_s_iinc (pc := 198) dX12_findWays_198 (by decide) rfl rfl [some (.inr (some a0)), some (.inl x1), some (.inl x2), some (.inl (x3 + 1)), some (.inl (x_20 + x_23))] rfl ?_
      refine bz_goto (tgt := 124) (pc := 201) dX12_findWays_201 (by decide) ?_
      exact hP
    · have hP := hP.2 c
      refine bz_iload (pc := 181) dX12_findWays_181 rfl ?_
      refine bz_goto (tgt := 197) (pc := 183) dX12_findWays_183 (by decide) ?_
      obtain ⟨a_33, rfl, hP⟩ := hP
      refine bz_rw_wA (pc := 197) dX12_findWays_197 hP (fun h_34 hP => ?_)
      refine bz_s_iinc (pc := 198) dX12_findWays_198 (by decide) rfl rfl [some (.inr (some a0)), some (.inl x1), some (.inl x2), some (.inl (x3 + 1)), some (.inl (x_20 + x_23))] rfl ?_
      refine bz_goto (tgt := 124) (pc := 201) dX12_findWays_201 (by decide) ?_
      exact hP
theorem m_X12_findWays {G : bz_G} {l : Launch} {d mc ms : Nat} {F : Option bz_V → bz_H → Prop} (a0 : Nat) (h : bz_H) (hP : ∀ (κ : bz_K) (bc bs : Nat), κ.2.1 = l → bz_J G κ kX12_findWays (d + 1) F bc bs 2 [some (.inr (some a0)), some (.inl 0), none, none, none] [] h) : bz_Call G l (d + 1) kX12_findWays [.inr (some a0)] h mc ms F :=
  bz_body (by decide) (by decide) (fun κ hl => g_X12_findWays_0 hl a0 h (hP κ mc ms hl))
