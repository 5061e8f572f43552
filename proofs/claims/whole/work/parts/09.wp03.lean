set_option maxRecDepth 20000 in
set_option maxHeartbeats 4000000 in
theorem g_X11_kitchen_0 {G : bz_G} {κ : bz_K} {l : Launch} {d : Nat} {F : Option bz_V → bz_H → Prop} {bc bs : Nat} (hl : κ.2.1 = l) (a0 : Nat) (x1 : Int32) (x2 : Int32) (h : bz_H) (hP : bz_cI G l d kX11_isCrossing [.inl x1] h 0 0 (fun x_1 h_2 => (x_1 = 0 → bz_rc h_2 a0 11 (bz_cI G l d kX11_finding [.inr (some a0), .inl (-1000001)] h_2 0 0 (fun x_3 h_4 => F (some (.inl x_3)) h_4))) ∧ (¬ (x_1 = 0) → bz_cI G l d kX11_isWithin [.inl x2, .inl 1, .inl 60] h_2 0 0 (fun x_5 h_6 => (¬ x_5 = 0 → bz_rR h_6 a0 11 0 (fun r_7 => bz_nn r_7 (fun a_8 => bz_rR h_6 a_8 10 1 (fun r_9 => bz_nn r_9 (fun a_12 => bz_rc h_6 a_12 4 (bz_cI G l d kX4_isFull [.inr (some a_12)] h_6 0 0 (fun x_10 h_11 => (x_10 = 0 → bz_rR h_11 a0 11 0 (fun r_13 => bz_nn r_13 (fun a_14 => bz_rR h_11 a_14 10 1 (fun r_15 => bz_nn r_15 (fun a_18 => bz_rc h_11 a_18 4 (bz_cI G l d kX4_add [.inr (some a_18), .inl x1, .inl x2, .inl 0] h_11 0 0 (fun x_16 h_17 => F (some (.inl (x_16 - 1))) h_17))))))) ∧ (¬ (x_10 = 0) → bz_rc h_11 a0 11 (bz_cI G l d kX11_finding [.inr (some a0), .inl (-1000002)] h_11 0 0 (fun x_19 h_20 => F (some (.inl x_19)) h_20)))))))))) ∧ (x_5 = 0 → bz_rc h_6 a0 11 (bz_cI G l d kX11_finding [.inr (some a0), .inl (-1000001)] h_6 0 0 (fun x_21 h_22 => F (some (.inl x_21)) h_22))))))) : bz_J G κ kX11_kitchen (d + 1) F bc bs 0 [some (.inr (some a0)), some (.inl x1), some (.inl x2)] [] h := by
  subst hl
  refine bz_iload_n (pc := 0) dX11_kitchen_0 rfl rfl ?_
  refine bz_kIS (as := [.inl x1]) (st := []) (pc := 1) dX11_kitchen_1 sc_X11_isCrossing ml_X11_70 ss_X11_isCrossing rfl (by decide) hP (fun x_1 h_2 hP => ?_)
  refine bz_if_eq (tgt := 17) (pc := 4) dX11_kitchen_4 (by decide) (fun c => ?_) (fun c => ?_)
  · have hP := hP.1 c
    refine bz_aload_n (pc := 17) dX11_kitchen_17 rfl rfl ?_
    refine bz_ldc (pc := 18) dX11_kitchen_18 ct_X11_78 ?_
    refine bz_kIV (as := [.inl (-1000001)]) (st := []) (ci := 11) (pc := 20) dX11_kitchen_20 sc_X11_finding ml_X11_79 im_X11_finding se_X11_finding rfl rfl rfl (by decide) hP (fun x_3 h_4 hP => ?_)
    exact bz_retI (pc := 23) dX11_kitchen_23 rfl rfl hP
  · have hP := hP.2 c
    refine bz_iload_n (pc := 7) dX11_kitchen_7 rfl rfl ?_
    refine bz_iconst (v := 1) (pc := 8) dX11_kitchen_8 (by decide) ?_
    refine bz_bipush (v := 60) (pc := 9) dX11_kitchen_9 (by decide) ?_
    refine bz_kIS (as := [.inl x2, .inl 1, .inl 60]) (st := []) (pc := 11) dX11_kitchen_11 sc_X11_isWithin ml_X11_74 ss_X11_isWithin rfl (by decide) hP (fun x_5 h_6 hP => ?_)
    refine bz_if_ne (tgt := 24) (pc := 14) dX11_kitchen_14 (by decide) (fun c => ?_) (fun c => ?_)
    · have hP := hP.1 c
      refine bz_aload_n (pc := 24) dX11_kitchen_24 rfl rfl ?_
      refine bz_rw_rR (pc := 25) dX11_kitchen_25 fl_X11_12 hP (fun r_7 hP => ?_)
      obtain ⟨a_8, rfl, hP⟩ := hP
      refine bz_rw_rR (pc := 28) dX11_kitchen_28 fl_X11_108 hP (fun r_9 hP => ?_)
      obtain ⟨a_12, rfl, hP⟩ := hP
      refine bz_kIV (as := []) (st := []) (ci := 4) (pc := 31) dX11_kitchen_31 sc_X4_isFull ml_X11_112 im_X4_isFull se_X4_isFull rfl rfl rfl (by decide) hP (fun x_10 h_11 hP => ?_)
      refine bz_if_eq (tgt := 44) (pc := 34) dX11_kitchen_34 (by decide) (fun c => ?_) (fun c => ?_)
      · have hP := hP.1 c
        refine bz_aload_n (pc := 44) dX11_kitchen_44 rfl rfl ?_
        refine bz_rw_rR (pc := 45) dX11_kitchen_45 fl_X11_12 hP (fun r_13 hP => ?_)
        obtain ⟨a_14, rfl, hP⟩ := hP
        refine bz_rw_rR (pc := 48) dX11_kitchen_48 fl_X11_108 hP (fun r_15 hP => ?_)
        refine bz_iload_n (pc := 51) dX11_kitchen_51 rfl rfl ?_
        refine bz_iload_n (pc := 52) dX11_kitchen_52 rfl rfl ?_
        refine bz_iconst (v := 0) (pc := 53) dX11_kitchen_53 (by decide) ?_
        obtain ⟨a_18, rfl, hP⟩ := hP
        refine bz_kIV (as := [.inl x1, .inl x2, .inl 0]) (st := []) (ci := 4) (pc := 54) dX11_kitchen_54 sc_X4_add ml_X11_119 im_X4_add se_X4_add rfl rfl rfl (by decide) hP (fun x_16 h_17 hP => ?_)
        refine bz_iconst (v := 1) (pc := 57) dX11_kitchen_57 (by decide) ?_
        refine bz_isub (pc := 58) dX11_kitchen_58 ?_
        exact bz_retI (pc := 59) dX11_kitchen_59 rfl rfl hP
      · have hP := hP.2 c
        refine bz_aload_n (pc := 37) dX11_kitchen_37 rfl rfl ?_
        refine bz_ldc (pc := 38) dX11_kitchen_38 ct_X11_118 ?_
        refine bz_kIV (as := [.inl (-1000002)]) (st := []) (ci := 11) (pc := 40) dX11_kitchen_40 sc_X11_finding ml_X11_79 im_X11_finding se_X11_finding rfl rfl rfl (by decide) hP (fun x_19 h_20 hP => ?_)
        exact bz_retI (pc := 43) dX11_kitchen_43 rfl rfl hP
    · have hP := hP.2 c
      refine bz_aload_n (pc := 17) dX11_kitchen_17 rfl rfl ?_
      refine bz_ldc (pc := 18) dX11_kitchen_18 ct_X11_78 ?_
      refine bz_kIV (as := [.inl (-1000001)]) (st := []) (ci := 11) (pc := 20) dX11_kitchen_20 sc_X11_finding ml_X11_79 im_X11_finding se_X11_finding rfl rfl rfl (by decide) hP (fun x_21 h_22 hP => ?_)
      exact bz_retI (pc := 23) dX11_kitchen_23 rfl rfl hP
theorem m_X11_kitchen {G : bz_G} {l : Launch} {d mc ms : Nat} {F : Option bz_V → bz_H → Prop} (a0 : Nat) (x1 : Int32) (x2 : Int32) (h : bz_H) (hP : bz_cI G l d kX11_isCrossing [.inl x1] h 0 0 (fun x_1 h_2 => (x_1 = 0 → bz_rc h_2 a0 11 (bz_cI G l d kX11_finding [.inr (some a0), .inl (-1000001)] h_2 0 0 (fun x_3 h_4 => F (some (.inl x_3)) h_4))) ∧ (¬ (x_1 = 0) → bz_cI G l d kX11_isWithin [.inl x2, .inl 1, .inl 60] h_2 0 0 (fun x_5 h_6 => (¬ x_5 = 0 → bz_rR h_6 a0 11 0 (fun r_7 => bz_nn r_7 (fun a_8 => bz_rR h_6 a_8 10 1 (fun r_9 => bz_nn r_9 (fun a_12 => bz_rc h_6 a_12 4 (bz_cI G l d kX4_isFull [.inr (some a_12)] h_6 0 0 (fun x_10 h_11 => (x_10 = 0 → bz_rR h_11 a0 11 0 (fun r_13 => bz_nn r_13 (fun a_14 => bz_rR h_11 a_14 10 1 (fun r_15 => bz_nn r_15 (fun a_18 => bz_rc h_11 a_18 4 (bz_cI G l d kX4_add [.inr (some a_18), .inl x1, .inl x2, .inl 0] h_11 0 0 (fun x_16 h_17 => F (some (.inl (x_16 - 1))) h_17))))))) ∧ (¬ (x_10 = 0) → bz_rc h_11 a0 11 (bz_cI G l d kX11_finding [.inr (some a0), .inl (-1000002)] h_11 0 0 (fun x_19 h_20 => F (some (.inl x_19)) h_20)))))))))) ∧ (x_5 = 0 → bz_rc h_6 a0 11 (bz_cI G l d kX11_finding [.inr (some a0), .inl (-1000001)] h_6 0 0 (fun x_21 h_22 => F (some (.inl x_21)) h_22))))))) : bz_Call G l (d + 1) kX11_kitchen [.inr (some a0), .inl x1, .inl x2] h mc ms F :=
  bz_body (by decide) (by decide) (fun κ hl => g_X11_kitchen_0 hl a0 x1 x2 h hP)
set_option maxRecDepth 20000 in
set_option maxHeartbeats 4000000 in
theorem g_X11_lacks_0 {G : bz_G} {κ : bz_K} {l : Launch} {d : Nat} {F : Option bz_V → bz_H → Prop} {bc bs : Nat} (hl : κ.2.1 = l) (a0 : Nat) (x1 : Int32) (x2 : Int32) (h : bz_H) (hP : bz_rR h a0 11 0 (fun r_1 => bz_nn r_1 (fun a_4 => bz_rc h a_4 10 (bz_cR G l d kX10_orderAt [.inr (some a_4), .inl x1] h 0 0 (fun r_2 h_3 => (r_2 = none → bz_rc h_3 a0 11 (bz_cI G l d kX11_finding [.inr (some a0), .inl (-1000001)] h_3 0 0 (fun x_6 h_7 => F (some (.inl x_6)) h_7))) ∧ (∀ a_5, r_2 = some a_5 → bz_cI G l d kX11_isWithin [.inl x2, .inl 0, .inl 2] h_3 0 0 (fun x_8 h_9 => (¬ x_8 = 0 → bz_rI h_9 a_5 2 7 (fun x_10 => (¬ x_10 = 1 → bz_rc h_9 a0 11 (bz_cI G l d kX11_finding [.inr (some a0), .inl (-1000004)] h_9 0 0 (fun x_11 h_12 => F (some (.inl x_11)) h_12))) ∧ (x_10 = 1 → bz_rc h_9 a_5 2 (bz_cI G l d kX2_lackBy [.inr (some a_5), .inl x2] h_9 0 0 (fun x_13 h_14 => F (some (.inl x_13)) h_14))))) ∧ (x_8 = 0 → bz_rc h_9 a0 11 (bz_cI G l d kX11_finding [.inr (some a0), .inl (-1000001)] h_9 0 0 (fun x_15 h_16 => F (some (.inl x_15)) h_16)))))))))) : bz_J G κ kX11_lacks (d + 1) F bc bs 0 [some (.inr (some a0)), some (.inl x1), some (.inl x2), none] [] h := by
  subst hl
  refine bz_aload_n (pc := 0) dX11_lacks_0 rfl rfl ?_
  refine bz_rw_rR (pc := 1) dX11_lacks_1 fl_X11_12 hP (fun r_1 hP => ?_)
  refine bz_iload_n (pc := 4) dX11_lacks_4 rfl rfl ?_
  obtain ⟨a_4, rfl, hP⟩ := hP
  refine bz_kRV (as := [.inl x1]) (st := []) (ci := 10) (pc := 5) dX11_lacks_5 sc_X10_orderAt ml_X11_132 im_X10_orderAt se_X10_orderAt rfl rfl rfl (by decide) hP (fun r_2 h_3 hP => ?_)
  refine bz_s_astore_n (pc := 8) dX11_lacks_8 rfl (by decide) [some (.inr (some a0)), some (.inl x1), some (.inl x2), some (.inr r_2)] rfl ?_
  refine bz_aload_n (pc := 9) dX11_lacks_9 rfl rfl ?_
  refine bz_ifnull (tgt := 22) (pc := 10) dX11_lacks_10 (by decide) (fun c => ?_) (fun a_5 c => ?_)
  · have hP := hP.1 c
    subst c
    refine bz_aload_n (pc := 22) dX11_lacks_22 rfl rfl ?_
    refine bz_ldc (pc := 23) dX11_lacks_23 ct_X11_78 ?_
    refine bz_kIV (as := [.inl (-1000001)]) (st := []) (ci := 11) (pc := 25) dX11_lacks_25 sc_X11_finding ml_X11_79 im_X11_finding se_X11_finding rfl rfl rfl (by decide) hP (fun x_6 h_7 hP => ?_)
    exact bz_retI (pc := 28) dX11_lacks_28 rfl rfl hP
  · have hP := hP.2 a_5 c
    subst c
    refine bz_iload_n (pc := 13) dX11_lacks_13 rfl rfl ?_
    refine bz_iconst (v := 0) (pc := 14) dX11_lacks_14 (by decide) ?_
    refine bz_iconst (v := 2) (pc := 15) dX11_lacks_15 (by decide) ?_
    refine bz_kIS (as := [.inl x2, .inl 0, .inl 2]) (st := []) (pc := 16) dX11_lacks_16 sc_X11_isWithin ml_X11_74 ss_X11_isWithin rfl (by decide) hP (fun x_8 h_9 hP => ?_)
    refine bz_if_ne (tgt := 29) (pc := 19) dX11_lacks_19 (by decide) (fun c => ?_) (fun c => ?_)
    · have hP := hP.1 c
      refine bz_aload_n (pc := 29) dX11_lacks_29 rfl rfl ?_
      refine bz_rw_rI (pc := 30) dX11_lacks_30 fl_X11_136 hP (fun x_10 hP => ?_)
      refine bz_iconst (v := 1) (pc := 33) dX11_lacks_33 (by decide) ?_
      refine bz_icmp_ne (tgt := 45) (pc := 34) dX11_lacks_34 (by decide) (fun c => ?_) (fun c => ?_)
      · have hP := hP.1 c
        refine bz_aload_n (pc := 45) dX11_lacks_45 rfl rfl ?_
        refine bz_ldc (pc := 46) dX11_lacks_46 ct_X11_102 ?_
        refine bz_kIV (as := [.inl (-1000004)]) (st := []) (ci := 11) (pc := 48) dX11_lacks_48 sc_X11_finding ml_X11_79 im_X11_finding se_X11_finding rfl rfl rfl (by decide) hP (fun x_11 h_12 hP => ?_)
        exact bz_retI (pc := 51) dX11_lacks_51 rfl rfl hP
      · have hP := hP.2 c
        refine bz_aload_n (pc := 37) dX11_lacks_37 rfl rfl ?_
        refine bz_iload_n (pc := 38) dX11_lacks_38 rfl rfl ?_
        refine bz_kIV (as := [.inl x2]) (st := []) (ci := 2) (pc := 39) dX11_lacks_39 sc_X2_lackBy ml_X11_334 im_X2_lackBy se_X2_lackBy rfl rfl rfl (by decide) hP (fun x_13 h_14 hP => ?_)
        refine bz_goto (tgt := 51) (pc := 42) dX11_lacks_42 (by decide) ?_
        exact bz_retI (pc := 51) dX11_lacks_51 rfl rfl hP
    · have hP := hP.2 c
      refine bz_aload_n (pc := 22) dX11_lacks_22 rfl rfl ?_
      refine bz_ldc (pc := 23) dX11_lacks_23 ct_X11_78 ?_
      refine bz_kIV (as := [.inl (-1000001)]) (st := []) (ci := 11) (pc := 25) dX11_lacks_25 sc_X11_finding ml_X11_79 im_X11_finding se_X11_finding rfl rfl rfl (by decide) hP (fun x_15 h_16 hP => ?_)
      exact bz_retI (pc := 28) dX11_lacks_28 rfl rfl hP
theorem m_X11_lacks {G : bz_G} {l : Launch} {d mc ms : Nat} {F : Option bz_V → bz_H → Prop} (a0 : Nat) (x1 : Int32) (x2 : Int32) (h : bz_H) (hP : bz_rR h a0 11 0 (fun r_1 => bz_nn r_1 (fun a_4 => bz_rc h a_4 10 (bz_cR G l d kX10_orderAt [.inr (some a_4), .inl x1] h 0 0 (fun r_2 h_3 => (r_2 = none → bz_rc h_3 a0 11 (bz_cI G l d kX11_finding [.inr (some a0), .inl (-1000001)] h_3 0 0 (fun x_6 h_7 => F (some (.inl x_6)) h_7))) ∧ (∀ a_5, r_2 = some a_5 → bz_cI G l d kX11_isWithin [.inl x2, .inl 0, .inl 2] h_3 0 0 (fun x_8 h_9 => (¬ x_8 = 0 → bz_rI h_9 a_5 2 7 (fun x_10 => (¬ x_10 = 1 → bz_rc h_9 a0 11 (bz_cI G l d kX11_finding [.inr (some a0), .inl (-1000004)] h_9 0 0 (fun x_11 h_12 => F (some (.inl x_11)) h_12))) ∧ (x_10 = 1 → bz_rc h_9 a_5 2 (bz_cI G l d kX2_lackBy [.inr (some a_5), .inl x2] h_9 0 0 (fun x_13 h_14 => F (some (.inl x_13)) h_14))))) ∧ (x_8 = 0 → bz_rc h_9 a0 11 (bz_cI G l d kX11_finding [.inr (some a0), .inl (-1000001)] h_9 0 0 (fun x_15 h_16 => F (some (.inl x_15)) h_16)))))))))) : bz_Call G l (d + 1) kX11_lacks [.inr (some a0), .inl x1, .inl x2] h mc ms F :=
  bz_body (by decide) (by decide) (fun κ hl => g_X11_lacks_0 hl a0 x1 x2 h hP)
set_option maxRecDepth 20000 in
set_option maxHeartbeats 4000000 in
theorem g_X11_law_0 {G : bz_G} {κ : bz_K} {l : Launch} {d : Nat} {F : Option bz_V → bz_H → Prop} {bc bs : Nat} (hl : κ.2.1 = l) (a0 : Nat) (x1 : Int32) (h : bz_H) (hP : bz_cI G l d kX11_isWithin [.inl x1, .inl 0, .inl 999] h 0 0 (fun x_1 h_2 => (¬ x_1 = 0 → bz_rR h_2 a0 11 0 (fun r_3 => bz_nn r_3 (fun a_4 => bz_rI h_2 a_4 10 15 (fun x_5 => bz_rR h_2 a0 11 0 (fun r_6 => bz_nn r_6 (fun a_7 => bz_wI h_2 a_7 10 15 x1 (fun h_8 => F (some (.inl x_5)) h_8))))))) ∧ (x_1 = 0 → bz_rc h_2 a0 11 (bz_cI G l d kX11_finding [.inr (some a0), .inl (-1000001)] h_2 0 0 (fun x_9 h_10 => F (some (.inl x_9)) h_10))))) : bz_J G κ kX11_law (d + 1) F bc bs 0 [some (.inr (some a0)), some (.inl x1), none] [] h := by
  subst hl
  refine bz_iload_n (pc := 0) dX11_law_0 rfl rfl ?_
  refine bz_iconst (v := 0) (pc := 1) dX11_law_1 (by decide) ?_
  refine bz_sipush (v := 999) (pc := 2) dX11_law_2 (by decide) ?_
  refine bz_kIS (as := [.inl x1, .inl 0, .inl 999]) (st := []) (pc := 5) dX11_law_5 sc_X11_isWithin ml_X11_74 ss_X11_isWithin rfl (by decide) hP (fun x_1 h_2 hP => ?_)
  refine bz_if_ne (tgt := 18) (pc := 8) dX11_law_8 (by decide) (fun c => ?_) (fun c => ?_)
  · have hP := hP.1 c
    refine bz_aload_n (pc := 18) dX11_law_18 rfl rfl ?_
    refine bz_rw_rR (pc := 19) dX11_law_19 fl_X11_12 hP (fun r_3 hP => ?_)
    obtain ⟨a_4, rfl, hP⟩ := hP
    refine bz_rw_rI (pc := 22) dX11_law_22 fl_X11_319 hP (fun x_5 hP => ?_)
    refine bz_s_istore_n (pc := 25) dX11_law_25 rfl (by decide) [some (.inr (some a0)), some (.inl x1), some (.inl x_5)] rfl ?_
    refine bz_aload_n (pc := 26) dX11_law_26 rfl rfl ?_
    refine bz_rw_rR (pc := 27) dX11_law_27 fl_X11_12 hP (fun r_6 hP => ?_)
    refine bz_iload_n (pc := 30) dX11_law_30 rfl rfl ?_
    obtain ⟨a_7, rfl, hP⟩ := hP
    refine bz_rw_wI (pc := 31) dX11_law_31 fl_X11_319 (fun q h9 => by cases h9; rfl) rfl hP (fun h_8 hP => ?_)
    refine bz_iload_n (pc := 34) dX11_law_34 rfl rfl ?_
    exact bz_retI (pc := 35) dX11_law_35 rfl rfl hP
  · have hP := hP.2 c
    refine bz_aload_n (pc := 11) dX11_law_11 rfl rfl ?_
    refine bz_ldc (pc := 12) dX11_law_12 ct_X11_78 ?_
    refine bz_kIV (as := [.inl (-1000001)]) (st := []) (ci := 11) (pc := 14) dX11_law_14 sc_X11_finding ml_X11_79 im_X11_finding se_X11_finding rfl rfl rfl (by decide) hP (fun x_9 h_10 hP => ?_)
    exact bz_retI (pc := 17) dX11_law_17 rfl rfl hP
theorem m_X11_law {G : bz_G} {l : Launch} {d mc ms : Nat} {F : Option bz_V → bz_H → Prop} (a0 : Nat) (x1 : Int32) (h : bz_H) (hP : bz_cI G l d kX11_isWithin [.inl x1, .inl 0, .inl 999] h 0 0 (fun x_1 h_2 => (¬ x_1 = 0 → bz_rR h_2 a0 11 0 (fun r_3 => bz_nn r_3 (fun a_4 => bz_rI h_2 a_4 10 15 (fun x_5 => bz_rR h_2 a0 11 0 (fun r_6 => bz_nn r_6 (fun a_7 => bz_wI h_2 a_7 10 15 x1 (fun h_8 => F (some (.inl x_5)) h_8))))))) ∧ (x_1 = 0 → bz_rc h_2 a0 11 (bz_cI G l d kX11_finding [.inr (some a0), .inl (-1000001)] h_2 0 0 (fun x_9 h_10 => F (some (.inl x_9)) h_10))))) : bz_Call G l (d + 1) kX11_law [.inr (some a0), .inl x1] h mc ms F :=
  bz_body (by decide) (by decide) (fun κ hl => g_X11_law_0 hl a0 x1 h hP)
set_option maxRecDepth 20000 in
set_option maxHeartbeats 4000000 in
theorem g_X11_least_0 {G : bz_G} {κ : bz_K} {l : Launch} {d : Nat} {F : Option bz_V → bz_H → Prop} {bc bs : Nat} (hl : κ.2.1 = l) (a0 : Nat) (x1 : Int32) (x2 : Int32) (h : bz_H) (hP : bz_rR h a0 11 0 (fun r_1 => bz_nn r_1 (fun a_4 => bz_rc h a_4 10 (bz_cR G l d kX10_riderAt [.inr (some a_4), .inl x1] h 0 0 (fun r_2 h_3 => (r_2 = none → bz_rc h_3 a0 11 (bz_cI G l d kX11_finding [.inr (some a0), .inl (-1000001)] h_3 0 0 (fun x_6 h_7 => F (some (.inl x_6)) h_7))) ∧ (∀ a_5, r_2 = some a_5 → bz_cI G l d kX11_isWithin [.inl x2, .inl 0, .inl 1] h_3 0 0 (fun x_8 h_9 => (¬ x_8 = 0 → bz_rR h_9 a0 11 0 (fun r_10 => bz_nn r_10 (fun a_13 => bz_rc h_9 a_13 10 (bz_cI G l d kX10_countingOf [.inr (some a_13), .inr (some a_5)] h_9 0 0 (fun x_11 h_12 => (¬ x2 = 0 → bz_rR h_12 a0 11 0 (fun r_14 => bz_nn r_14 (fun a_15 => bz_rI h_12 a_15 10 15 (fun x_16 => bz_rR h_12 a0 11 0 (fun r_17 => bz_nn r_17 (fun a_20 => bz_rc h_12 a_20 10 (bz_cI G l d kX10_payOfRider [.inr (some a_20), .inl x1] h_12 0 0 (fun x_18 h_19 => F (some (.inl (if 0 < ((((x_16 * x_11) + 59) / 60) - x_18) then (((x_16 * x_11) + 59) / 60) - x_18 else 0))) h_19)))))))) ∧ (x2 = 0 → F (some (.inl x_11)) h_12)))))) ∧ (x_8 = 0 → bz_rc h_9 a0 11 (bz_cI G l d kX11_finding [.inr (some a0), .inl (-1000001)] h_9 0 0 (fun x_21 h_22 => F (some (.inl x_21)) h_22)))))))))) : bz_J G κ kX11_least (d + 1) F bc bs 0 [some (.inr (some a0)), some (.inl x1), some (.inl x2), none, none, none] [] h := by
  subst hl
  refine bz_aload_n (pc := 0) dX11_least_0 rfl rfl ?_
  refine bz_rw_rR (pc := 1) dX11_least_1 fl_X11_12 hP (fun r_1 hP => ?_)
  refine bz_iload_n (pc := 4) dX11_least_4 rfl rfl ?_
  obtain ⟨a_4, rfl, hP⟩ := hP
  refine bz_kRV (as := [.inl x1]) (st := []) (ci := 10) (pc := 5) dX11_least_5 sc_X10_riderAt ml_X11_179 im_X10_riderAt se_X10_riderAt rfl rfl rfl (by decide) hP (fun r_2 h_3 hP => ?_)
  refine bz_s_astore_n (pc := 8) dX11_least_8 rfl (by decide) [some (.inr (some a0)), some (.inl x1), some (.inl x2), some (.inr r_2), none, none] rfl ?_
  refine bz_aload_n (pc := 9) dX11_least_9 rfl rfl ?_
  refine bz_ifnull (tgt := 22) (pc := 10) dX11_least_10 (by decide) (fun c => ?_) (fun a_5 c => ?_)
  · have hP := hP.1 c
    subst c
    refine bz_aload_n (pc := 22) dX11_least_22 rfl rfl ?_
    refine bz_ldc (pc := 23) dX11_least_23 ct_X11_78 ?_
    refine bz_kIV (as := [.inl (-1000001)]) (st := []) (ci := 11) (pc := 25) dX11_least_25 sc_X11_finding ml_X11_79 im_X11_finding se_X11_finding rfl rfl rfl (by decide) hP (fun x_6 h_7 hP => ?_)
    exact bz_retI (pc := 28) dX11_least_28 rfl rfl hP
  · have hP := hP.2 a_5 c
    subst c
    refine bz_iload_n (pc := 13) dX11_least_13 rfl rfl ?_
    refine bz_iconst (v := 0) (pc := 14) dX11_least_14 (by decide) ?_
    refine bz_iconst (v := 1) (pc := 15) dX11_least_15 (by decide) ?_
    refine bz_kIS (as := [.inl x2, .inl 0, .inl 1]) (st := []) (pc := 16) dX11_least_16 sc_X11_isWithin ml_X11_74 ss_X11_isWithin rfl (by decide) hP (fun x_8 h_9 hP => ?_)
    refine bz_if_ne (tgt := 29) (pc := 19) dX11_least_19 (by decide) (fun c => ?_) (fun c => ?_)
    · have hP := hP.1 c
      refine bz_aload_n (pc := 29) dX11_least_29 rfl rfl ?_
      refine bz_rw_rR (pc := 30) dX11_least_30 fl_X11_12 hP (fun r_10 hP => ?_)
      refine bz_aload_n (pc := 33) dX11_least_33 rfl rfl ?_
      obtain ⟨a_13, rfl, hP⟩ := hP
      refine bz_kIV (as := [.inr (some a_5)]) (st := []) (ci := 10) (pc := 34) dX11_least_34 sc_X10_countingOf ml_X11_325 im_X10_countingOf se_X10_countingOf rfl rfl rfl (by decide) hP (fun x_11 h_12 hP => ?_)
      refine bz_s_istore (pc := 37) dX11_least_37 (by decide) [some (.inr (some a0)), some (.inl x1), some (.inl x2), some (.inr (some a_5)), some (.inl x_11), none] rfl ?_
      refine bz_iload_n (pc := 39) dX11_least_39 rfl rfl ?_
      refine bz_if_ne (tgt := 46) (pc := 40) dX11_least_40 (by decide) (fun c => ?_) (fun c => ?_)
      · have hP := hP.1 c
        refine bz_aload_n (pc := 46) dX11_least_46 rfl rfl ?_
        refine bz_rw_rR (pc := 47) dX11_least_47 fl_X11_12 hP (fun r_14 hP => ?_)
        obtain ⟨a_15, rfl, hP⟩ := hP
        refine bz_rw_rI (pc := 50) dX11_least_50 fl_X11_319 hP (fun x_16 hP => ?_)
        refine bz_iload (pc := 53) dX11_least_53 rfl ?_
        refine bz_imul (pc := 55) dX11_least_55 ?_
        refine bz_bipush (v := 59) (pc := 56) dX11_least_56 (by decide) ?_
        refine bz_iadd (pc := 58) dX11_least_58 ?_
        refine bz_bipush (v := 60) (pc := 59) dX11_least_59 (by decide) ?_
        refine bz_idiv (pc := 61) dX11_least_61 (by decide) ?_
        refine bz_s_istore (pc := 62) dX11_least_62 (by decide) [some (.inr (some a0)), some (.inl x1), some (.inl x2), some (.inr (some a_5)), some (.inl x_11), some (.inl (((x_16 * x_11) + 59) / 60))] rfl ?_
        refine bz_iconst (v := 0) (pc := 64) dX11_least_64 (by decide) ?_
        refine bz_iload (pc := 65) dX11_least_65 rfl ?_
        refine bz_aload_n (pc := 67) dX11_least_67 rfl rfl ?_
        refine bz_rw_rR (pc := 68) dX11_least_68 fl_X11_12 hP (fun r_17 hP => ?_)
        refine bz_iload_n (pc := 71) dX11_least_71 rfl rfl ?_
        obtain ⟨a_20, rfl, hP⟩ := hP
        refine bz_kIV (as := [.inl x1]) (st := [.inl (((x_16 * x_11) + 59) / 60), .inl 0]) (ci := 10) (pc := 72) dX11_least_72 sc_X10_payOfRider ml_X11_200 im_X10_payOfRider se_X10_payOfRider rfl rfl rfl (by decide) hP (fun x_18 h_19 hP => ?_)
        refine bz_isub (pc := 75) dX11_least_75 ?_
        refine bz_mmax (pc := 76) dX11_least_76 ml_X11_329 mt_max mt_init mt_code_max (Nat.succ_pos d) (by decide) ?_
        exact bz_retI (pc := 79) dX11_least_79 rfl rfl hP
      · have hP := hP.2 c
        refine bz_iload (pc := 43) dX11_least_43 rfl ?_
        exact bz_retI (pc := 45) dX11_least_45 rfl rfl hP
    · have hP := hP.2 c
      refine bz_aload_n (pc := 22) dX11_least_22 rfl rfl ?_
      refine bz_ldc (pc := 23) dX11_least_23 ct_X11_78 ?_
      refine bz_kIV (as := [.inl (-1000001)]) (st := []) (ci := 11) (pc := 25) dX11_least_25 sc_X11_finding ml_X11_79 im_X11_finding se_X11_finding rfl rfl rfl (by decide) hP (fun x_21 h_22 hP => ?_)
      exact bz_retI (pc := 28) dX11_least_28 rfl rfl hP
theorem m_X11_least {G : bz_G} {l : Launch} {d mc ms : Nat} {F : Option bz_V → bz_H → Prop} (a0 : Nat) (x1 : Int32) (x2 : Int32) (h : bz_H) (hP : bz_rR h a0 11 0 (fun r_1 => bz_nn r_1 (fun a_4 => bz_rc h a_4 10 (bz_cR G l d kX10_riderAt [.inr (some a_4), .inl x1] h 0 0 (fun r_2 h_3 => (r_2 = none → bz_rc h_3 a0 11 (bz_cI G l d kX11_finding [.inr (some a0), .inl (-1000001)] h_3 0 0 (fun x_6 h_7 => F (some (.inl x_6)) h_7))) ∧ (∀ a_5, r_2 = some a_5 → bz_cI G l d kX11_isWithin [.inl x2, .inl 0, .inl 1] h_3 0 0 (fun x_8 h_9 => (¬ x_8 = 0 → bz_rR h_9 a0 11 0 (fun r_10 => bz_nn r_10 (fun a_13 => bz_rc h_9 a_13 10 (bz_cI G l d kX10_countingOf [.inr (some a_13), .inr (some a_5)] h_9 0 0 (fun x_11 h_12 => (¬ x2 = 0 → bz_rR h_12 a0 11 0 (fun r_14 => bz_nn r_14 (fun a_15 => bz_rI h_12 a_15 10 15 (fun x_16 => bz_rR h_12 a0 11 0 (fun r_17 => bz_nn r_17 (fun a_20 => bz_rc h_12 a_20 10 (bz_cI G l d kX10_payOfRider [.inr (some a_20), .inl x1] h_12 0 0 (fun x_18 h_19 => F (some (.inl (if 0 < ((((x_16 * x_11) + 59) / 60) - x_18) then (((x_16 * x_11) + 59) / 60) - x_18 else 0))) h_19)))))))) ∧ (x2 = 0 → F (some (.inl x_11)) h_12)))))) ∧ (x_8 = 0 → bz_rc h_9 a0 11 (bz_cI G l d kX11_finding [.inr (some a0), .inl (-1000001)] h_9 0 0 (fun x_21 h_22 => F (some (.inl x_21)) h_22)))))))))) : bz_Call G l (d + 1) kX11_least [.inr (some a0), .inl x1, .inl x2] h mc ms F :=
  bz_body (by decide) (by decide) (fun κ hl => g_X11_least_0 hl a0 x1 x2 h hP)
set_option maxRecDepth 20000 in
set_option maxHeartbeats 4000000 in
theorem g_X11_legFor_0 {G : bz_G} {κ : bz_K} {l : Launch} {d : Nat} {F : Option bz_V → bz_H → Prop} {bc bs : Nat} (hl : κ.2.1 = l) (x0 : Int32) (x1 : Int32) (h : bz_H) (hP : (¬ x1 = (-1) → (x0 = 1 → F (some (.inl (((3 * x1) + 3) / 4))) h) ∧ (¬ x0 = 1 → (x0 = 2 → F (some (.inl (((x1 + 1) / 2) + 3))) h) ∧ (¬ x0 = 2 → (x0 = 3 → F (some (.inl (2 * x1))) h) ∧ (¬ x0 = 3 → (x0 = 4 → (¬ x1 = 0 → F (some (.inl (if 1 < ((((3 * x1) + 3) / 4) - 1) then (((3 * x1) + 3) / 4) - 1 else 1))) h) ∧ (x1 = 0 → F (some (.inl 0)) h)) ∧ (¬ x0 = 4 → (x0 = 5 → F (some (.inl x1)) h) ∧ (¬ x0 = 5 → (x0 = 6 → F (some (.inl (if x1 = 0 then 0 else (2 * x1) + 2))) h) ∧ (¬ x0 = 6 → F (some (.inl x1)) h))))))) ∧ (x1 = (-1) → F (some (.inl (-1))) h)) : bz_J G κ kX11_legFor (d + 1) F bc bs 0 [some (.inl x0), some (.inl x1), none] [] h := by
  subst hl
  refine bz_iload_n (pc := 0) dX11_legFor_0 rfl rfl ?_
  refine bz_iconst (v := (-1)) (pc := 1) dX11_legFor_1 (by decide) ?_
  refine bz_icmp_ne (tgt := 7) (pc := 2) dX11_legFor_2 (by decide) (fun c => ?_) (fun c => ?_)
  · have hP := hP.1 c
    refine bz_iconst (v := 3) (pc := 7) dX11_legFor_7 (by decide) ?_
    refine bz_iload_n (pc := 8) dX11_legFor_8 rfl rfl ?_
    refine bz_imul (pc := 9) dX11_legFor_9 ?_
    refine bz_iconst (v := 3) (pc := 10) dX11_legFor_10 (by decide) ?_
    refine bz_iadd (pc := 11) dX11_legFor_11 ?_
    refine bz_iconst (v := 4) (pc := 12) dX11_legFor_12 (by decide) ?_
    refine bz_idiv (pc := 13) dX11_legFor_13 (by decide) ?_
    refine bz_s_istore_n (pc := 14) dX11_legFor_14 rfl (by decide) [some (.inl x0), some (.inl x1), some (.inl (((3 * x1) + 3) / 4))] rfl ?_
    refine bz_iload_n (pc := 15) dX11_legFor_15 rfl rfl ?_
    refine bz_table (pc := 16) [(1, 40), (2, 42), (3, 50), (4, 54), (5, 84), (6, 70)] dX11_legFor_16 (by decide) (by decide) (by decide) (by decide) (by decide) ?_
    refine ⟨fun c => ?_, fun c => ?_⟩
    · have hP := hP.1 c
      show bz_J G κ kX11_legFor (d + 1) F bc bs 56 [some (.inl x0), some (.inl x1), some (.inl (((3 * x1) + 3) / 4))] [] h
      refine bz_iload_n (pc := 56) dX11_legFor_56 rfl rfl ?_
      exact bz_retI (pc := 57) dX11_legFor_57 rfl rfl hP
    · have hP := hP.2 c
      refine ⟨fun c => ?_, fun c => ?_⟩
      · have hP := hP.1 c
        show bz_J G κ kX11_legFor (d + 1) F bc bs 58 [some (.inl x0), some (.inl x1), some (.inl (((3 * x1) + 3) / 4))] [] h
        refine bz_iload_n (pc := 58) dX11_legFor_58 rfl rfl ?_
        refine bz_iconst (v := 1) (pc := 59) dX11_legFor_59 (by decide) ?_
        refine bz_iadd (pc := 60) dX11_legFor_60 ?_
        refine bz_iconst (v := 2) (pc := 61) dX11_legFor_61 (by decide) ?_
        refine bz_idiv (pc := 62) dX11_legFor_62 (by decide) ?_
        refine bz_iconst (v := 3) (pc := 63) dX11_legFor_63 (by decide) ?_
        refine bz_iadd (pc := 64) dX11_legFor_64 ?_
        exact bz_retI (pc := 65) dX11_legFor_65 rfl rfl hP
      · have hP := hP.2 c
        refine ⟨fun c => ?_, fun c => ?_⟩
        · have hP := hP.1 c
          show bz_J G κ kX11_legFor (d + 1) F bc bs 66 [some (.inl x0), some (.inl x1), some (.inl (((3 * x1) + 3) / 4))] [] h
          refine bz_iconst (v := 2) (pc := 66) dX11_legFor_66 (by decide) ?_
          refine bz_iload_n (pc := 67) dX11_legFor_67 rfl rfl ?_
          refine bz_imul (pc := 68) dX11_legFor_68 ?_
          exact bz_retI (pc := 69) dX11_legFor_69 rfl rfl hP
        · have hP := hP.2 c
          refine ⟨fun c => ?_, fun c => ?_⟩
          · have hP := hP.1 c
            show bz_J G κ kX11_legFor (d + 1) F bc bs 70 [some (.inl x0), some (.inl x1), some (.inl (((3 * x1) + 3) / 4))] [] h
            refine bz_iload_n (pc := 70) dX11_legFor_70 rfl rfl ?_
            refine bz_if_ne (tgt := 78) (pc := 71) dX11_legFor_71 (by decide) (fun c => ?_) (fun c => ?_)
            · have hP := hP.1 c
              refine bz_iconst (v := 1) (pc := 78) dX11_legFor_78 (by decide) ?_
              refine bz_iload_n (pc := 79) dX11_legFor_79 rfl rfl ?_
              refine bz_iconst (v := 1) (pc := 80) dX11_legFor_80 (by decide) ?_
              refine bz_isub (pc := 81) dX11_legFor_81 ?_
              refine bz_mmax (pc := 82) dX11_legFor_82 ml_X11_329 mt_max mt_init mt_code_max (Nat.succ_pos d) (by decide) ?_
              exact bz_retI (pc := 85) dX11_legFor_85 rfl rfl hP
            · have hP := hP.2 c
              refine bz_iconst (v := 0) (pc := 74) dX11_legFor_74 (by decide) ?_
              refine bz_goto (tgt := 85) (pc := 75) dX11_legFor_75 (by decide) ?_
              exact bz_retI (pc := 85) dX11_legFor_85 rfl rfl hP
          · have hP := hP.2 c
            refine ⟨fun c => ?_, fun c => ?_⟩
            · have hP := hP.1 c
              show bz_J G κ kX11_legFor (d + 1) F bc bs 100 [some (.inl x0), some (.inl x1), some (.inl (((3 * x1) + 3) / 4))] [] h
              refine bz_iload_n (pc := 100) dX11_legFor_100 rfl rfl ?_
              exact bz_retI (pc := 101) dX11_legFor_101 rfl rfl hP
            · have hP := hP.2 c
              refine ⟨fun c => ?_, fun c => ?_⟩
              · have hP := hP.1 c
                show bz_J G κ kX11_legFor (d + 1) F bc bs 86 [some (.inl x0), some (.inl x1), some (.inl (((3 * x1) + 3) / 4))] [] h
                refine bz_iload_n (pc := 86) dX11_legFor_86 rfl rfl ?_
                have hJ : bz_J G κ kX11_legFor (d + 1) F bc bs 99 [some (.inl x0), some (.inl x1), some (.inl (((3 * x1) + 3) / 4))] [.inl (if x1 = 0 then 0 else (2 * x1) + 2)] h := by
                  exact bz_retI (pc := 99) dX11_legFor_99 rfl rfl hP
                refine bz_if_ne (tgt := 94) (pc := 87) dX11_legFor_87 (by decide) (fun c => ?_) (fun c => ?_)
                · have e9 : ((if x1 = 0 then 0 else (2 * x1) + 2) : Int32) = ((2 * x1) + 2) := if_neg c
                  rw [e9] at hJ
                  refine bz_iconst (v := 2) (pc := 94) dX11_legFor_94 (by decide) ?_
                  refine bz_iload_n (pc := 95) dX11_legFor_95 rfl rfl ?_
                  refine bz_imul (pc := 96) dX11_legFor_96 ?_
                  refine bz_iconst (v := 2) (pc := 97) dX11_legFor_97 (by decide) ?_
                  refine bz_iadd (pc := 98) dX11_legFor_98 ?_
                  exact hJ
                · have e9 : ((if x1 = 0 then 0 else (2 * x1) + 2) : Int32) = (0) := if_pos c
                  rw [e9] at hJ
                  refine bz_iconst (v := 0) (pc := 90) dX11_legFor_90 (by decide) ?_
                  refine bz_goto (tgt := 99) (pc := 91) dX11_legFor_91 (by decide) ?_
                  exact hJ
              · have hP := hP.2 c
                show bz_J G κ kX11_legFor (d + 1) F bc bs 100 [some (.inl x0), some (.inl x1), some (.inl (((3 * x1) + 3) / 4))] [] h
                refine bz_iload_n (pc := 100) dX11_legFor_100 rfl rfl ?_
                exact bz_retI (pc := 101) dX11_legFor_101 rfl rfl hP
  · have hP := hP.2 c
    refine bz_iconst (v := (-1)) (pc := 5) dX11_legFor_5 (by decide) ?_
    exact bz_retI (pc := 6) dX11_legFor_6 rfl rfl hP
theorem m_X11_legFor {G : bz_G} {l : Launch} {d mc ms : Nat} {F : Option bz_V → bz_H → Prop} (x0 : Int32) (x1 : Int32) (h : bz_H) (hP : (¬ x1 = (-1) → (x0 = 1 → F (some (.inl (((3 * x1) + 3) / 4))) h) ∧ (¬ x0 = 1 → (x0 = 2 → F (some (.inl (((x1 + 1) / 2) + 3))) h) ∧ (¬ x0 = 2 → (x0 = 3 → F (some (.inl (2 * x1))) h) ∧ (¬ x0 = 3 → (x0 = 4 → (¬ x1 = 0 → F (some (.inl (if 1 < ((((3 * x1) + 3) / 4) - 1) then (((3 * x1) + 3) / 4) - 1 else 1))) h) ∧ (x1 = 0 → F (some (.inl 0)) h)) ∧ (¬ x0 = 4 → (x0 = 5 → F (some (.inl x1)) h) ∧ (¬ x0 = 5 → (x0 = 6 → F (some (.inl (if x1 = 0 then 0 else (2 * x1) + 2))) h) ∧ (¬ x0 = 6 → F (some (.inl x1)) h))))))) ∧ (x1 = (-1) → F (some (.inl (-1))) h)) : bz_Call G l (d + 1) kX11_legFor [.inl x0, .inl x1] h mc ms F :=
  bz_body (by decide) (by decide) (fun κ hl => g_X11_legFor_0 hl x0 x1 h hP)
set_option maxRecDepth 20000 in
set_option maxHeartbeats 4000000 in
theorem g_X11_minutes_0 {G : bz_G} {κ : bz_K} {l : Launch} {d : Nat} {F : Option bz_V → bz_H → Prop} {bc bs : Nat} (hl : κ.2.1 = l) (a0 : Nat) (x1 : Int32) (h : bz_H) (hP : bz_cI G l d kX11_isWithin [.inl x1, .inl 1, .inl 600] h 0 0 (fun x_1 h_2 => (¬ x_1 = 0 → bz_rR h_2 a0 11 0 (fun r_3 => bz_nn r_3 (fun a_4 => bz_rI h_2 a_4 10 12 (fun x_5 => ((x_5 + x1) ≤ 1439 → bz_rR h_2 a0 11 0 (fun r_6 => bz_nn r_6 (fun a_7 => bz_rI h_2 a_7 10 12 (fun x_8 => bz_wI h_2 a_7 10 12 (x_8 + x1) (fun h_9 => bz_rR h_9 a0 11 0 (fun r_10 => bz_nn r_10 (fun a_11 => bz_rI h_9 a_11 10 12 (fun x_12 => F (some (.inl x_12)) h_9)))))))) ∧ (¬ ((x_5 + x1) ≤ 1439) → bz_rc h_2 a0 11 (bz_cI G l d kX11_finding [.inr (some a0), .inl (-1000005)] h_2 0 0 (fun x_13 h_14 => F (some (.inl x_13)) h_14))))))) ∧ (x_1 = 0 → bz_rc h_2 a0 11 (bz_cI G l d kX11_finding [.inr (some a0), .inl (-1000001)] h_2 0 0 (fun x_15 h_16 => F (some (.inl x_15)) h_16))))) : bz_J G κ kX11_minutes (d + 1) F bc bs 0 [some (.inr (some a0)), some (.inl x1)] [] h := by
  subst hl
  refine bz_iload_n (pc := 0) dX11_minutes_0 rfl rfl ?_
  refine bz_iconst (v := 1) (pc := 1) dX11_minutes_1 (by decide) ?_
  refine bz_sipush (v := 600) (pc := 2) dX11_minutes_2 (by decide) ?_
  refine bz_kIS (as := [.inl x1, .inl 1, .inl 600]) (st := []) (pc := 5) dX11_minutes_5 sc_X11_isWithin ml_X11_74 ss_X11_isWithin rfl (by decide) hP (fun x_1 h_2 hP => ?_)
  refine bz_if_ne (tgt := 18) (pc := 8) dX11_minutes_8 (by decide) (fun c => ?_) (fun c => ?_)
  · have hP := hP.1 c
    refine bz_aload_n (pc := 18) dX11_minutes_18 rfl rfl ?_
    refine bz_rw_rR (pc := 19) dX11_minutes_19 fl_X11_12 hP (fun r_3 hP => ?_)
    obtain ⟨a_4, rfl, hP⟩ := hP
    refine bz_rw_rI (pc := 22) dX11_minutes_22 fl_X11_103 hP (fun x_5 hP => ?_)
    refine bz_iload_n (pc := 25) dX11_minutes_25 rfl rfl ?_
    refine bz_iadd (pc := 26) dX11_minutes_26 ?_
    refine bz_sipush (v := 1439) (pc := 27) dX11_minutes_27 (by decide) ?_
    refine bz_icmp_le (tgt := 40) (pc := 30) dX11_minutes_30 (by decide) (fun c => ?_) (fun c => ?_)
    · have hP := hP.1 c
      refine bz_aload_n (pc := 40) dX11_minutes_40 rfl rfl ?_
      refine bz_rw_rR (pc := 41) dX11_minutes_41 fl_X11_12 hP (fun r_6 hP => ?_)
      refine bz_dup (pc := 44) dX11_minutes_44 ?_
      obtain ⟨a_7, rfl, hP⟩ := hP
      refine bz_rw_rI (pc := 45) dX11_minutes_45 fl_X11_103 hP (fun x_8 hP => ?_)
      refine bz_iload_n (pc := 48) dX11_minutes_48 rfl rfl ?_
      refine bz_iadd (pc := 49) dX11_minutes_49 ?_
      refine bz_rw_wI (pc := 50) dX11_minutes_50 fl_X11_103 (fun q h9 => by cases h9; rfl) rfl hP (fun h_9 hP => ?_)
      refine bz_aload_n (pc := 53) dX11_minutes_53 rfl rfl ?_
      refine bz_rw_rR (pc := 54) dX11_minutes_54 fl_X11_12 hP (fun r_10 hP => ?_)
      obtain ⟨a_11, rfl, hP⟩ := hP
      refine bz_rw_rI (pc := 57) dX11_minutes_57 fl_X11_103 hP (fun x_12 hP => ?_)
      exact bz_retI (pc := 60) dX11_minutes_60 rfl rfl hP
    · have hP := hP.2 c
      refine bz_aload_n (pc := 33) dX11_minutes_33 rfl rfl ?_
      refine bz_ldc (pc := 34) dX11_minutes_34 ct_X11_107 ?_
      refine bz_kIV (as := [.inl (-1000005)]) (st := []) (ci := 11) (pc := 36) dX11_minutes_36 sc_X11_finding ml_X11_79 im_X11_finding se_X11_finding rfl rfl rfl (by decide) hP (fun x_13 h_14 hP => ?_)
      exact bz_retI (pc := 39) dX11_minutes_39 rfl rfl hP
  · have hP := hP.2 c
    refine bz_aload_n (pc := 11) dX11_minutes_11 rfl rfl ?_
    refine bz_ldc (pc := 12) dX11_minutes_12 ct_X11_78 ?_
    refine bz_kIV (as := [.inl (-1000001)]) (st := []) (ci := 11) (pc := 14) dX11_minutes_14 sc_X11_finding ml_X11_79 im_X11_finding se_X11_finding rfl rfl rfl (by decide) hP (fun x_15 h_16 hP => ?_)
    exact bz_retI (pc := 17) dX11_minutes_17 rfl rfl hP
theorem m_X11_minutes {G : bz_G} {l : Launch} {d mc ms : Nat} {F : Option bz_V → bz_H → Prop} (a0 : Nat) (x1 : Int32) (h : bz_H) (hP : bz_cI G l d kX11_isWithin [.inl x1, .inl 1, .inl 600] h 0 0 (fun x_1 h_2 => (¬ x_1 = 0 → bz_rR h_2 a0 11 0 (fun r_3 => bz_nn r_3 (fun a_4 => bz_rI h_2 a_4 10 12 (fun x_5 => ((x_5 + x1) ≤ 1439 → bz_rR h_2 a0 11 0 (fun r_6 => bz_nn r_6 (fun a_7 => bz_rI h_2 a_7 10 12 (fun x_8 => bz_wI h_2 a_7 10 12 (x_8 + x1) (fun h_9 => bz_rR h_9 a0 11 0 (fun r_10 => bz_nn r_10 (fun a_11 => bz_rI h_9 a_11 10 12 (fun x_12 => F (some (.inl x_12)) h_9)))))))) ∧ (¬ ((x_5 + x1) ≤ 1439) → bz_rc h_2 a0 11 (bz_cI G l d kX11_finding [.inr (some a0), .inl (-1000005)] h_2 0 0 (fun x_13 h_14 => F (some (.inl x_13)) h_14))))))) ∧ (x_1 = 0 → bz_rc h_2 a0 11 (bz_cI G l d kX11_finding [.inr (some a0), .inl (-1000001)] h_2 0 0 (fun x_15 h_16 => F (some (.inl x_15)) h_16))))) : bz_Call G l (d + 1) kX11_minutes [.inr (some a0), .inl x1] h mc ms F :=
  bz_body (by decide) (by decide) (fun κ hl => g_X11_minutes_0 hl a0 x1 h hP)
set_option maxRecDepth 20000 in
set_option maxHeartbeats 4000000 in
theorem g_X11_night_0 {G : bz_G} {κ : bz_K} {l : Launch} {d : Nat} {F : Option bz_V → bz_H → Prop} {bc bs : Nat} (hl : κ.2.1 = l) (a0 : Nat) (x1 : Int32) (x2 : Int32) (h : bz_H) (hP : bz_rR h a0 11 0 (fun r_1 => bz_nn r_1 (fun a_4 => bz_rc h a_4 10 (bz_cR G l d kX10_textAt [.inr (some a_4), .inl x1] h 0 0 (fun r_2 h_3 => (r_2 = none → bz_rc h_3 a0 11 (bz_cI G l d kX11_finding [.inr (some a0), .inl (-1000001)] h_3 0 0 (fun x_6 h_7 => F (some (.inl x_6)) h_7))) ∧ (∀ a_5, r_2 = some a_5 → bz_cI G l d kX11_isWithin [.inl x2, .inl 0, .inl 4] h_3 0 0 (fun x_8 h_9 => (¬ x_8 = 0 → bz_rR h_9 a0 11 8 (fun r_10 => bz_nn r_10 (fun a_13 => bz_rc h_9 a_13 1 (bz_cV G l d kX1_passBy [.inr (some a_13), .inr (some a_5)] h_9 0 0 (fun h_12 => (x2 = 0 → bz_rR h_12 a0 11 8 (fun r_14 => bz_nn r_14 (fun a_15 => bz_rI h_12 a_15 1 7 (fun x_16 => F (some (.inl x_16)) h_12)))) ∧ (¬ x2 = 0 → (x2 = 1 → bz_rR h_12 a0 11 8 (fun r_17 => bz_nn r_17 (fun a_18 => bz_rI h_12 a_18 1 8 (fun x_19 => F (some (.inl x_19)) h_12)))) ∧ (¬ x2 = 1 → (x2 = 2 → bz_rR h_12 a0 11 8 (fun r_20 => bz_nn r_20 (fun a_23 => bz_rc h_12 a_23 1 (bz_cI G l d kX1_mostGiven [.inr (some a_23)] h_12 0 0 (fun x_21 h_22 => F (some (.inl x_21)) h_22))))) ∧ (¬ x2 = 2 → (x2 = 3 → bz_rR h_12 a0 11 8 (fun r_24 => bz_nn r_24 (fun a_27 => bz_rc h_12 a_27 1 (bz_cI G l d kX1_fewestGiven [.inr (some a_27)] h_12 0 0 (fun x_25 h_26 => F (some (.inl x_25)) h_26))))) ∧ (¬ x2 = 3 → bz_rR h_12 a0 11 8 (fun r_28 => bz_nn r_28 (fun a_29 => bz_rI h_12 a_29 1 9 (fun x_30 => F (some (.inl x_30)) h_12)))))))))))) ∧ (x_8 = 0 → bz_rc h_9 a0 11 (bz_cI G l d kX11_finding [.inr (some a0), .inl (-1000001)] h_9 0 0 (fun x_31 h_32 => F (some (.inl x_31)) h_32)))))))))) : bz_J G κ kX11_night (d + 1) F bc bs 0 [some (.inr (some a0)), some (.inl x1), some (.inl x2), none] [] h := by
  subst hl
  refine bz_aload_n (pc := 0) dX11_night_0 rfl rfl ?_
  refine bz_rw_rR (pc := 1) dX11_night_1 fl_X11_12 hP (fun r_1 hP => ?_)
  refine bz_iload_n (pc := 4) dX11_night_4 rfl rfl ?_
  obtain ⟨a_4, rfl, hP⟩ := hP
  refine bz_kRV (as := [.inl x1]) (st := []) (ci := 10) (pc := 5) dX11_night_5 sc_X10_textAt ml_X11_281 im_X10_textAt se_X10_textAt rfl rfl rfl (by decide) hP (fun r_2 h_3 hP => ?_)
  refine bz_s_astore_n (pc := 8) dX11_night_8 rfl (by decide) [some (.inr (some a0)), some (.inl x1), some (.inl x2), some (.inr r_2)] rfl ?_
  refine bz_aload_n (pc := 9) dX11_night_9 rfl rfl ?_
  refine bz_ifnull (tgt := 22) (pc := 10) dX11_night_10 (by decide) (fun c => ?_) (fun a_5 c => ?_)
  · have hP := hP.1 c
    subst c
    refine bz_aload_n (pc := 22) dX11_night_22 rfl rfl ?_
    refine bz_ldc (pc := 23) dX11_night_23 ct_X11_78 ?_
    refine bz_kIV (as := [.inl (-1000001)]) (st := []) (ci := 11) (pc := 25) dX11_night_25 sc_X11_finding ml_X11_79 im_X11_finding se_X11_finding rfl rfl rfl (by decide) hP (fun x_6 h_7 hP => ?_)
    exact bz_retI (pc := 28) dX11_night_28 rfl rfl hP
  · have hP := hP.2 a_5 c
    subst c
    refine bz_iload_n (pc := 13) dX11_night_13 rfl rfl ?_
    refine bz_iconst (v := 0) (pc := 14) dX11_night_14 (by decide) ?_
    refine bz_iconst (v := 4) (pc := 15) dX11_night_15 (by decide) ?_
    refine bz_kIS (as := [.inl x2, .inl 0, .inl 4]) (st := []) (pc := 16) dX11_night_16 sc_X11_isWithin ml_X11_74 ss_X11_isWithin rfl (by decide) hP (fun x_8 h_9 hP => ?_)
    refine bz_if_ne (tgt := 29) (pc := 19) dX11_night_19 (by decide) (fun c => ?_) (fun c => ?_)
    · have hP := hP.1 c
      refine bz_aload_n (pc := 29) dX11_night_29 rfl rfl ?_
      refine bz_rw_rR (pc := 30) dX11_night_30 fl_X11_66 hP (fun r_10 hP => ?_)
      refine bz_aload_n (pc := 33) dX11_night_33 rfl rfl ?_
      obtain ⟨a_13, rfl, hP⟩ := hP
      refine bz_kVV (as := [.inr (some a_5)]) (st := []) (ci := 1) (pc := 34) dX11_night_34 sc_X1_passBy ml_X11_352 im_X1_passBy se_X1_passBy rfl rfl rfl (by decide) hP (fun h_12 hP => ?_)
      refine bz_iload_n (pc := 37) dX11_night_37 rfl rfl ?_
      refine bz_table (pc := 38) [(0, 30), (1, 38), (2, 46), (3, 54)] dX11_night_38 (by decide) (by decide) (by decide) (by decide) (by decide) ?_
      refine ⟨fun c => ?_, fun c => ?_⟩
      · have hP := hP.1 c
        show bz_J G κ kX11_night (d + 1) F bc bs 68 [some (.inr (some a0)), some (.inl x1), some (.inl x2), some (.inr (some a_5))] [] h_12
        refine bz_aload_n (pc := 68) dX11_night_68 rfl rfl ?_
        refine bz_rw_rR (pc := 69) dX11_night_69 fl_X11_66 hP (fun r_14 hP => ?_)
        obtain ⟨a_15, rfl, hP⟩ := hP
        refine bz_rw_rI (pc := 72) dX11_night_72 fl_X11_355 hP (fun x_16 hP => ?_)
        exact bz_retI (pc := 75) dX11_night_75 rfl rfl hP
      · have hP := hP.2 c
        refine ⟨fun c => ?_, fun c => ?_⟩
        · have hP := hP.1 c
          show bz_J G κ kX11_night (d + 1) F bc bs 76 [some (.inr (some a0)), some (.inl x1), some (.inl x2), some (.inr (some a_5))] [] h_12
          refine bz_aload_n (pc := 76) dX11_night_76 rfl rfl ?_
          refine bz_rw_rR (pc := 77) dX11_night_77 fl_X11_66 hP (fun r_17 hP => ?_)
          obtain ⟨a_18, rfl, hP⟩ := hP
          refine bz_rw_rI (pc := 80) dX11_night_80 fl_X11_358 hP (fun x_19 hP => ?_)
          exact bz_retI (pc := 83) dX11_night_83 rfl rfl hP
        · have hP := hP.2 c
          refine ⟨fun c => ?_, fun c => ?_⟩
          · have hP := hP.1 c
            show bz_J G κ kX11_night (d + 1) F bc bs 84 [some (.inr (some a0)), some (.inl x1), some (.inl x2), some (.inr (some a_5))] [] h_12
            refine bz_aload_n (pc := 84) dX11_night_84 rfl rfl ?_
            refine bz_rw_rR (pc := 85) dX11_night_85 fl_X11_66 hP (fun r_20 hP => ?_)
            obtain ⟨a_23, rfl, hP⟩ := hP
            refine bz_kIV (as := []) (st := []) (ci := 1) (pc := 88) dX11_night_88 sc_X1_mostGiven ml_X11_359 im_X1_mostGiven se_X1_mostGiven rfl rfl rfl (by decide) hP (fun x_21 h_22 hP => ?_)
            exact bz_retI (pc := 91) dX11_night_91 rfl rfl hP
          · have hP := hP.2 c
            refine ⟨fun c => ?_, fun c => ?_⟩
            · have hP := hP.1 c
              show bz_J G κ kX11_night (d + 1) F bc bs 92 [some (.inr (some a0)), some (.inl x1), some (.inl x2), some (.inr (some a_5))] [] h_12
              refine bz_aload_n (pc := 92) dX11_night_92 rfl rfl ?_
              refine bz_rw_rR (pc := 93) dX11_night_93 fl_X11_66 hP (fun r_24 hP => ?_)
              obtain ⟨a_27, rfl, hP⟩ := hP
              refine bz_kIV (as := []) (st := []) (ci := 1) (pc := 96) dX11_night_96 sc_X1_fewestGiven ml_X11_362 im_X1_fewestGiven se_X1_fewestGiven rfl rfl rfl (by decide) hP (fun x_25 h_26 hP => ?_)
              exact bz_retI (pc := 99) dX11_night_99 rfl rfl hP
            · have hP := hP.2 c
              show bz_J G κ kX11_night (d + 1) F bc bs 100 [some (.inr (some a0)), some (.inl x1), some (.inl x2), some (.inr (some a_5))] [] h_12
              refine bz_aload_n (pc := 100) dX11_night_100 rfl rfl ?_
              refine bz_rw_rR (pc := 101) dX11_night_101 fl_X11_66 hP (fun r_28 hP => ?_)
              obtain ⟨a_29, rfl, hP⟩ := hP
              refine bz_rw_rI (pc := 104) dX11_night_104 fl_X11_365 hP (fun x_30 hP => ?_)
              exact bz_retI (pc := 107) dX11_night_107 rfl rfl hP
    · have hP := hP.2 c
      refine bz_aload_n (pc := 22) dX11_night_22 rfl rfl ?_
      refine bz_ldc (pc := 23) dX11_night_23 ct_X11_78 ?_
      refine bz_kIV (as := [.inl (-1000001)]) (st := []) (ci := 11) (pc := 25) dX11_night_25 sc_X11_finding ml_X11_79 im_X11_finding se_X11_finding rfl rfl rfl (by decide) hP (fun x_31 h_32 hP => ?_)
      exact bz_retI (pc := 28) dX11_night_28 rfl rfl hP
theorem m_X11_night {G : bz_G} {l : Launch} {d mc ms : Nat} {F : Option bz_V → bz_H → Prop} (a0 : Nat) (x1 : Int32) (x2 : Int32) (h : bz_H) (hP : bz_rR h a0 11 0 (fun r_1 => bz_nn r_1 (fun a_4 => bz_rc h a_4 10 (bz_cR G l d kX10_textAt [.inr (some a_4), .inl x1] h 0 0 (fun r_2 h_3 => (r_2 = none → bz_rc h_3 a0 11 (bz_cI G l d kX11_finding [.inr (some a0), .inl (-1000001)] h_3 0 0 (fun x_6 h_7 => F (some (.inl x_6)) h_7))) ∧ (∀ a_5, r_2 = some a_5 → bz_cI G l d kX11_isWithin [.inl x2, .inl 0, .inl 4] h_3 0 0 (fun x_8 h_9 => (¬ x_8 = 0 → bz_rR h_9 a0 11 8 (fun r_10 => bz_nn r_10 (fun a_13 => bz_rc h_9 a_13 1 (bz_cV G l d kX1_passBy [.inr (some a_13), .inr (some a_5)] h_9 0 0 (fun h_12 => (x2 = 0 → bz_rR h_12 a0 11 8 (fun r_14 => bz_nn r_14 (fun a_15 => bz_rI h_12 a_15 1 7 (fun x_16 => F (some (.inl x_16)) h_12)))) ∧ (¬ x2 = 0 → (x2 = 1 → bz_rR h_12 a0 11 8 (fun r_17 => bz_nn r_17 (fun a_18 => bz_rI h_12 a_18 1 8 (fun x_19 => F (some (.inl x_19)) h_12)))) ∧ (¬ x2 = 1 → (x2 = 2 → bz_rR h_12 a0 11 8 (fun r_20 => bz_nn r_20 (fun a_23 => bz_rc h_12 a_23 1 (bz_cI G l d kX1_mostGiven [.inr (some a_23)] h_12 0 0 (fun x_21 h_22 => F (some (.inl x_21)) h_22))))) ∧ (¬ x2 = 2 → (x2 = 3 → bz_rR h_12 a0 11 8 (fun r_24 => bz_nn r_24 (fun a_27 => bz_rc h_12 a_27 1 (bz_cI G l d kX1_fewestGiven [.inr (some a_27)] h_12 0 0 (fun x_25 h_26 => F (some (.inl x_25)) h_26))))) ∧ (¬ x2 = 3 → bz_rR h_12 a0 11 8 (fun r_28 => bz_nn r_28 (fun a_29 => bz_rI h_12 a_29 1 9 (fun x_30 => F (some (.inl x_30)) h_12)))))))))))) ∧ (x_8 = 0 → bz_rc h_9 a0 11 (bz_cI G l d kX11_finding [.inr (some a0), .inl (-1000001)] h_9 0 0 (fun x_31 h_32 => F (some (.inl x_31)) h_32)))))))))) : bz_Call G l (d + 1) kX11_night [.inr (some a0), .inl x1, .inl x2] h mc ms F :=
  bz_body (by decide) (by decide) (fun κ hl => g_X11_night_0 hl a0 x1 x2 h hP)
set_option maxRecDepth 20000 in
set_option maxHeartbeats 4000000 in
theorem g_X11_offerAll_0 {G : bz_G} {κ : bz_K} {l : Launch} {d : Nat} {F : Option bz_V → bz_H → Prop} {bc bs : Nat} (hl : κ.2.1 = l) (a0 : Nat) (h : bz_H) (hP : bz_rR h a0 11 0 (fun r_1 => bz_rR h a0 11 0 (fun r_2 => bz_nn r_2 (fun a_3 => bz_rI h a_3 10 13 (fun x_4 => bz_nn r_1 (fun a_7 => bz_rc h a_7 10 (bz_cR G l d kX10_textAt [.inr (some a_7), .inl x_4] h 0 0 (fun r_5 h_6 => (∀ a_8, r_5 = some a_8 → bz_J G κ kX11_offerAll (d + 1) F bc bs 30 [some (.inr (some a0)), some (.inr (some a_8)), some (.inl 0), some (.inl 0), none, none] [] h_6) ∧ (r_5 = none → bz_rc h_6 a0 11 (bz_cI G l d kX11_finding [.inr (some a0), .inl (-1000005)] h_6 0 0 (fun x_9 h_10 => F (some (.inl x_9)) h_10))))))))))) : bz_J G κ kX11_offerAll (d + 1) F bc bs 0 [some (.inr (some a0)), none, none, none, none, none] [] h := by
  subst hl
  refine bz_aload_n (pc := 0) dX11_offerAll_0 rfl rfl ?_
  refine bz_rw_rR (pc := 1) dX11_offerAll_1 fl_X11_12 hP (fun r_1 hP => ?_)
  refine bz_aload_n (pc := 4) dX11_offerAll_4 rfl rfl ?_
  refine bz_rw_rR (pc := 5) dX11_offerAll_5 fl_X11_12 hP (fun r_2 hP => ?_)
  obtain ⟨a_3, rfl, hP⟩ := hP
  refine bz_rw_rI (pc := 8) dX11_offerAll_8 fl_X11_275 hP (fun x_4 hP => ?_)
  obtain ⟨a_7, rfl, hP⟩ := hP
  refine bz_kRV (as := [.inl x_4]) (st := []) (ci := 10) (pc := 11) dX11_offerAll_11 sc_X10_textAt ml_X11_281 im_X10_textAt se_X10_textAt rfl rfl rfl (by decide) hP (fun r_5 h_6 hP => ?_)
  refine bz_s_astore_n (pc := 14) dX11_offerAll_14 rfl (by decide) [some (.inr (some a0)), some (.inr r_5), none, none, none, none] rfl ?_
  refine bz_aload_n (pc := 15) dX11_offerAll_15 rfl rfl ?_
  refine bz_ifnonnull (tgt := 26) (pc := 16) dX11_offerAll_16 (by decide) (fun a_8 c => ?_) (fun c => ?_)
  · have hP := hP.1 a_8 c
    subst c
    refine bz_iconst (v := 0) (pc := 26) dX11_offerAll_26 (by decide) ?_
    refine bz_s_istore_n (pc := 27) dX11_offerAll_27 rfl (by decide) [some (.inr (some a0)), some (.inr (some a_8)), some (.inl 0), none, none, none] rfl ?_
    refine bz_iconst (v := 0) (pc := 28) dX11_offerAll_28 (by decide) ?_
    refine bz_s_istore_n (pc := 29) dX11_offerAll_29 rfl (by decide) [some (.inr (some a0)), some (.inr (some a_8)), some (.inl 0), some (.inl 0), none, none] rfl ?_
    exact hP
  · have hP := hP.2 c
    subst c
    refine bz_aload_n (pc := 19) dX11_offerAll_19 rfl rfl ?_
    refine bz_ldc (pc := 20) dX11_offerAll_20 ct_X11_107 ?_
    refine bz_kIV (as := [.inl (-1000005)]) (st := []) (ci := 11) (pc := 22) dX11_offerAll_22 sc_X11_finding ml_X11_79 im_X11_finding se_X11_finding rfl rfl rfl (by decide) hP (fun x_9 h_10 hP => ?_)
    exact bz_retI (pc := 25) dX11_offerAll_25 rfl rfl hP
set_option maxRecDepth 20000 in
set_option maxHeartbeats 4000000 in
theorem g_X11_offerAll_30 {G : bz_G} {κ : bz_K} {l : Launch} {d : Nat} {F : Option bz_V → bz_H → Prop} {bc bs : Nat} (hl : κ.2.1 = l) (a0 : Nat) (r1 : Option Nat) (x2 : Int32) (x3 : Int32) (u4 : Option bz_V) (u5 : Option bz_V) (h : bz_H) (hP : bz_rR h a0 11 0 (fun r_11 => bz_nn r_11 (fun a_12 => bz_rI h a_12 10 9 (fun x_13 => (x_13 ≤ x3 → F (some (.inl x2)) h) ∧ (¬ (x_13 ≤ x3) → bz_rR h a0 11 0 (fun r_14 => bz_nn r_14 (fun a_15 => bz_rR h a_15 10 2 (fun r_16 => bz_nn r_16 (fun a_17 => bz_rQ h a_17 x3 (fun r_18 => bz_nn r_18 (fun a_19 => bz_rI h a_19 2 7 (fun x_20 => (¬ x_20 = 0 → (none = none → bz_J G κ kX11_offerAll (d + 1) F bc bs 30 [some (.inr (some a0)), some (.inr r1), some (.inl x2), some (.inl (x3 + 1)), some (.inr (some a_19)), some (.inr none)] [] h) ∧ (∀ a_21, none = some a_21 → bz_rR h a0 11 6 (fun r_22 => bz_rI h a_21 3 1 (fun x_23 => bz_rI h a_21 3 4 (fun x_24 => bz_rR h a0 11 0 (fun r_25 => bz_nn r_25 (fun a_26 => bz_rI h a_26 10 12 (fun x_27 => bz_rc h a_21 3 (bz_cI G l d kX3_startFrom [.inr (some a_21), .inl x_27] h 0 0 (fun x_28 h_29 => bz_nn r_22 (fun a_32 => bz_rc h_29 a_32 9 (bz_cI G l d kX9_planOne [.inr (some a_32), .inl x_23, .inl x_24, .inl x_28, .inr (some a_19)] h_29 0 0 (fun x_30 h_31 => (x_30 = 0 → bz_J G κ kX11_offerAll (d + 1) F bc bs 30 [some (.inr (some a0)), some (.inr r1), some (.inl x2), some (.inl (x3 + 1)), some (.inr (some a_19)), some (.inr (some a_21))] [] h_31) ∧ (¬ (x_30 = 0) → bz_rI h_31 a_21 3 0 (fun x_33 => bz_rc h_31 a0 11 (bz_cV G l d kX11_handOver [.inr (some a0), .inl x_33, .inr (some a_19)] h_31 0 0 (fun h_35 => bz_J G κ kX11_offerAll (d + 1) F bc bs 30 [some (.inr (some a0)), some (.inr r1), some (.inl (x2 + 1)), some (.inl (x3 + 1)), some (.inr (some a_19)), some (.inr (some a_21))] [] h_35))))))))))))))))) ∧ (x_20 = 0 → bz_rR h a0 11 0 (fun r_36 => bz_rc h a0 11 (bz_cI G l d kX11_bestFor [.inr (some a0), .inl x3, .inr r1] h 0 0 (fun x_37 h_38 => bz_nn r_36 (fun a_41 => bz_rc h_38 a_41 10 (bz_cR G l d kX10_riderAt [.inr (some a_41), .inl x_37] h_38 0 0 (fun r_39 h_40 => (r_39 = none → bz_J G κ kX11_offerAll (d + 1) F bc bs 30 [some (.inr (some a0)), some (.inr r1), some (.inl x2), some (.inl (x3 + 1)), some (.inr (some a_19)), some (.inr none)] [] h_40) ∧ (∀ a_42, r_39 = some a_42 → bz_rR h_40 a0 11 6 (fun r_43 => bz_rI h_40 a_42 3 1 (fun x_44 => bz_rI h_40 a_42 3 4 (fun x_45 => bz_rR h_40 a0 11 0 (fun r_46 => bz_nn r_46 (fun a_47 => bz_rI h_40 a_47 10 12 (fun x_48 => bz_rc h_40 a_42 3 (bz_cI G l d kX3_startFrom [.inr (some a_42), .inl x_48] h_40 0 0 (fun x_49 h_50 => bz_nn r_43 (fun a_53 => bz_rc h_50 a_53 9 (bz_cI G l d kX9_planOne [.inr (some a_53), .inl x_44, .inl x_45, .inl x_49, .inr (some a_19)] h_50 0 0 (fun x_51 h_52 => (x_51 = 0 → bz_J G κ kX11_offerAll (d + 1) F bc bs 30 [some (.inr (some a0)), some (.inr r1), some (.inl x2), some (.inl (x3 + 1)), some (.inr (some a_19)), some (.inr (some a_42))] [] h_52) ∧ (¬ (x_51 = 0) → bz_rI h_52 a_42 3 0 (fun x_54 => bz_rc h_52 a0 11 (bz_cV G l d kX11_handOver [.inr (some a0), .inl x_54, .inr (some a_19)] h_52 0 0 (fun h_56 => bz_J G κ kX11_offerAll (d + 1) F bc bs 30 [some (.inr (some a0)), some (.inr r1), some (.inl (x2 + 1)), some (.inl (x3 + 1)), some (.inr (some a_19)), some (.inr (some a_42))] [] h_56))))))))))))))))))))))))))))))))))) : bz_J G κ kX11_offerAll (d + 1) F bc bs 30 [some (.inr (some a0)), some (.inr r1), some (.inl x2), some (.inl x3), u4, u5] [] h := by
  subst hl
  refine bz_iload_n (pc := 30) dX11_offerAll_30 rfl rfl ?_
  refine bz_aload_n (pc := 31) dX11_offerAll_31 rfl rfl ?_
  refine bz_rw_rR (pc := 32) dX11_offerAll_32 fl_X11_12 hP (fun r_11 hP => ?_)
  obtain ⟨a_12, rfl, hP⟩ := hP
  refine bz_rw_rI (pc := 35) dX11_offerAll_35 fl_X11_125 hP (fun x_13 hP => ?_)
  refine bz_icmp_ge (tgt := 138) (pc := 38) dX11_offerAll_38 (by decide) (fun c => ?_) (fun c => ?_)
  · have hP := hP.1 c
    refine bz_iload_n (pc := 138) dX11_offerAll_138 rfl rfl ?_
    exact bz_retI (pc := 139) dX11_offerAll_139 rfl rfl hP
  · have hP := hP.2 c
    refine bz_aload_n (pc := 41) dX11_offerAll_41 rfl rfl ?_
    refine bz_rw_rR (pc := 42) dX11_offerAll_42 fl_X11_12 hP (fun r_14 hP => ?_)
    obtain ⟨a_15, rfl, hP⟩ := hP
    refine bz_rw_rR (pc := 45) dX11_offerAll_45 fl_X11_306 hP (fun r_16 hP => ?_)
    refine bz_iload_n (pc := 48) dX11_offerAll_48 rfl rfl ?_
    obtain ⟨a_17, rfl, hP⟩ := hP
    refine bz_rw_ldq (pc := 49) dX11_offerAll_49 hP (fun r_18 hP => ?_)
    refine bz_s_astore (pc := 50) dX11_offerAll_50 (by decide) [some (.inr (some a0)), some (.inr r1), some (.inl x2), some (.inl x3), some (.inr r_18), u5] rfl ?_
    refine bz_aload (pc := 52) dX11_offerAll_52 rfl ?_
    obtain ⟨a_19, rfl, hP⟩ := hP
    refine bz_rw_rI (pc := 54) dX11_offerAll_54 fl_X11_136 hP (fun x_20 hP => ?_)
    refine bz_if_ne (tgt := 76) (pc := 57) dX11_offerAll_57 (by decide) (fun c => ?_) (fun c => ?_)
    · have hP := hP.1 c
      refine bz_null (pc := 76) dX11_offerAll_76 ?_
      refine bz_s_astore (pc := 77) dX11_offerAll_77 (by decide) [some (.inr (some a0)), some (.inr r1), some (.inl x2), some (.inl x3), some (.inr (some a_19)), some (.inr none)] rfl ?_
      refine bz_aload (pc := 79) dX11_offerAll_79 rfl ?_
      refine bz_ifnull (tgt := 132) (pc := 81) dX11_offerAll_81 (by decide) (fun c => ?_) (fun a_21 c => ?_)
      · have hP := hP.1 c
        subst c
        refine bz_s_iinc (pc := 132) dX11_offerAll_132 (by decide) rfl rfl [some (.inr (some a0)), some (.inr r1), some (.inl x2), some (.inl (x3 + 1)), some (.inr (some a_19)), some (.inr none)] rfl ?_
        refine bz_goto (tgt := 30) (pc := 135) dX11_offerAll_135 (by decide) ?_
        exact hP
      · have hP := hP.2 a_21 c
        subst c
        refine bz_aload_n (pc := 84) dX11_offerAll_84 rfl rfl ?_
        refine bz_rw_rR (pc := 85) dX11_offerAll_85 fl_X11_50 hP (fun r_22 hP => ?_)
        refine bz_aload (pc := 88) dX11_offerAll_88 rfl ?_
        refine bz_rw_rI (pc := 90) dX11_offerAll_90 fl_X11_183 hP (fun x_23 hP => ?_)
        refine bz_aload (pc := 93) dX11_offerAll_93 rfl ?_
        refine bz_rw_rI (pc := 95) dX11_offerAll_95 fl_X11_188 hP (fun x_24 hP => ?_)
        refine bz_aload (pc := 98) dX11_offerAll_98 rfl ?_
        refine bz_aload_n (pc := 100) dX11_offerAll_100 rfl rfl ?_
        refine bz_rw_rR (pc := 101) dX11_offerAll_101 fl_X11_12 hP (fun r_25 hP => ?_)
        obtain ⟨a_26, rfl, hP⟩ := hP
        refine bz_rw_rI (pc := 104) dX11_offerAll_104 fl_X11_103 hP (fun x_27 hP => ?_)
        refine bz_kIV (as := [.inl x_27]) (st := [.inl x_24, .inl x_23, .inr r_22]) (ci := 3) (pc := 107) dX11_offerAll_107 sc_X3_startFrom ml_X11_212 im_X3_startFrom se_X3_startFrom rfl rfl rfl (by decide) hP (fun x_28 h_29 hP => ?_)
        refine bz_aload (pc := 110) dX11_offerAll_110 rfl ?_
        obtain ⟨a_32, rfl, hP⟩ := hP
        refine bz_kIV (as := [.inl x_23, .inl x_24, .inl x_28, .inr (some a_19)]) (st := []) (ci := 9) (pc := 112) dX11_offerAll_112 sc_X9_planOne ml_X11_215 im_X9_planOne se_X9_planOne rfl rfl rfl (by decide) hP (fun x_30 h_31 hP => ?_)
        refine bz_if_eq (tgt := 132) (pc := 115) dX11_offerAll_115 (by decide) (fun c => ?_) (fun c => ?_)
        · have hP := hP.1 c
          refine bz_s_iinc (pc := 132) dX11_offerAll_132 (by decide) rfl rfl [some (.inr (some a0)), some (.inr r1), some (.inl x2), some (.inl (x3 + 1)), some (.inr (some a_19)), some (.inr (some a_21))] rfl ?_
          refine bz_goto (tgt := 30) (pc := 135) dX11_offerAll_135 (by decide) ?_
          exact hP
        · have hP := hP.2 c
          refine bz_aload_n (pc := 118) dX11_offerAll_118 rfl rfl ?_
          refine bz_aload (pc := 119) dX11_offerAll_119 rfl ?_
          refine bz_rw_rI (pc := 121) dX11_offerAll_121 fl_X11_310 hP (fun x_33 hP => ?_)
          refine bz_aload (pc := 124) dX11_offerAll_124 rfl ?_
          refine bz_kVV (as := [.inl x_33, .inr (some a_19)]) (st := []) (ci := 11) (pc := 126) dX11_offerAll_126 sc_X11_handOver ml_X11_232 im_X11_handOver se_X11_handOver rfl rfl rfl (by decide) hP (fun h_35 hP => ?_)
          refine bz_s_iinc (pc := 129) dX11_offerAll_129 (by decide) rfl rfl [some (.inr (some a0)), some (.inr r1), some (.inl (x2 + 1)), some (.inl x3), some (.inr (some a_19)), some (.inr (some a_21))] rfl ?_
          refine bz_s_iinc (pc := 132) dX11_offerAll_132 (by decide) rfl rfl [some (.inr (some a0)), some (.inr r1), some (.inl (x2 + 1)), some (.inl (x3 + 1)), some (.inr (some a_19)), some (.inr (some a_21))] rfl ?_
          refine bz_goto (tgt := 30) (pc := 135) dX11_offerAll_135 (by decide) ?_
          exact hP
    · have hP := hP.2 c
      refine bz_aload_n (pc := 60) dX11_offerAll_60 rfl rfl ?_
      refine bz_rw_rR (pc := 61) dX11_offerAll_61 fl_X11_12 hP (fun r_36 hP => ?_)
      refine bz_aload_n (pc := 64) dX11_offerAll_64 rfl rfl ?_
      refine bz_iload_n (pc := 65) dX11_offerAll_65 rfl rfl ?_
      refine bz_aload_n (pc := 66) dX11_offerAll_66 rfl rfl ?_
      refine bz_kIV (as := [.inl x3, .inr r1]) (st := [.inr r_36]) (ci := 11) (pc := 67) dX11_offerAll_67 sc_X11_bestFor ml_X11_296 im_X11_bestFor se_X11_bestFor rfl rfl rfl (by decide) hP (fun x_37 h_38 hP => ?_)
      obtain ⟨a_41, rfl, hP⟩ := hP
      refine bz_kRV (as := [.inl x_37]) (st := []) (ci := 10) (pc := 70) dX11_offerAll_70 sc_X10_riderAt ml_X11_179 im_X10_riderAt se_X10_riderAt rfl rfl rfl (by decide) hP (fun r_39 h_40 hP => ?_)
      refine bz_goto (tgt := 77) (pc := 73) dX11_offerAll_73 (by decide) ?_
      refine bz_s_astore (pc := 77) dX11_offerAll_77 (by decide) [some (.inr (some a0)), some (.inr r1), some (.inl x2), some (.inl x3), some (.inr (some a_19)), some (.inr r_39)] rfl ?_
      refine bz_aload (pc := 79) dX11_offerAll_79 rfl ?_
      refine bz_ifnull (tgt := 132) (pc := 81) dX11_offerAll_81 (by decide) (fun c => ?_) (fun a_42 c => ?_)
      · have hP := hP.1 c
        subst c
        refine bz_s_iinc (pc := 132) dX11_offerAll_132 (by decide) rfl rfl [some (.inr (some a0)), some (.inr r1), some (.inl x2), some (.inl (x3 + 1)), some (.inr (some a_19)), some (.inr none)] rfl ?_
        refine bz_goto (tgt := 30) (pc := 135) dX11_offerAll_135 (by decide) ?_
        exact hP
      · have hP := hP.2 a_42 c
        subst c
        refine bz_aload_n (pc := 84) dX11_offerAll_84 rfl rfl ?_
        refine bz_rw_rR (pc := 85) dX11_offerAll_85 fl_X11_50 hP (fun r_43 hP => ?_)
        refine bz_aload (pc := 88) dX11_offerAll_88 rfl ?_
        refine bz_rw_rI (pc := 90) dX11_offerAll_90 fl_X11_183 hP (fun x_44 hP => ?_)
        refine bz_aload (pc := 93) dX11_offerAll_93 rfl ?_
        refine bz_rw_rI (pc := 95) dX11_offerAll_95 fl_X11_188 hP (fun x_45 hP => ?_)
        refine bz_aload (pc := 98) dX11_offerAll_98 rfl ?_
        refine bz_aload_n (pc := 100) dX11_offerAll_100 rfl rfl ?_
        refine bz_rw_rR (pc := 101) dX11_offerAll_101 fl_X11_12 hP (fun r_46 hP => ?_)
        obtain ⟨a_47, rfl, hP⟩ := hP
        refine bz_rw_rI (pc := 104) dX11_offerAll_104 fl_X11_103 hP (fun x_48 hP => ?_)
        refine bz_kIV (as := [.inl x_48]) (st := [.inl x_45, .inl x_44, .inr r_43]) (ci := 3) (pc := 107) dX11_offerAll_107 sc_X3_startFrom ml_X11_212 im_X3_startFrom se_X3_startFrom rfl rfl rfl (by decide) hP (fun x_49 h_50 hP => ?_)
        refine bz_aload (pc := 110) dX11_offerAll_110 rfl ?_
        obtain ⟨a_53, rfl, hP⟩ := hP
        refine bz_kIV (as := [.inl x_44, .inl x_45, .inl x_49, .inr (some a_19)]) (st := []) (ci := 9) (pc := 112) dX11_offerAll_112 sc_X9_planOne ml_X11_215 im_X9_planOne se_X9_planOne rfl rfl rfl (by decide) hP (fun x_51 h_52 hP => ?_)
        refine bz_if_eq (tgt := 132) (pc := 115) dX11_offerAll_115 (by decide) (fun c => ?_) (fun c => ?_)
        · have hP := hP.1 c
          refine bz_s_iinc (pc := 132) dX11_offerAll_132 (by decide) rfl rfl [some (.inr (some a0)), some (.inr r1), some (.inl x2), some (.inl (x3 + 1)), some (.inr (some a_19)), some (.inr (some a_42))] rfl ?_
          refine bz_goto (tgt := 30) (pc := 135) dX11_offerAll_135 (by decide) ?_
          exact hP
        · have hP := hP.2 c
          refine bz_aload_n (pc := 118) dX11_offerAll_118 rfl rfl ?_
          refine bz_aload (pc := 119) dX11_offerAll_119 rfl ?_
          refine bz_rw_rI (pc := 121) dX11_offerAll_121 fl_X11_310 hP (fun x_54 hP => ?_)
          refine bz_aload (pc := 124) dX11_offerAll_124 rfl ?_
          refine bz_kVV (as := [.inl x_54, .inr (some a_19)]) (st := []) (ci := 11) (pc := 126) dX11_offerAll_126 sc_X11_handOver ml_X11_232 im_X11_handOver se_X11_handOver rfl rfl rfl (by decide) hP (fun h_56 hP => ?_)
          refine bz_s_iinc (pc := 129) dX11_offerAll_129 (by decide) rfl rfl [some (.inr (some a0)), some (.inr r1), some (.inl (x2 + 1)), some (.inl x3), some (.inr (some a_19)), some (.inr (some a_42))] rfl ?_
          refine bz_s_iinc (pc := 132) dX11_offerAll_132 (by decide) rfl rfl [some (.inr (some a0)), some (.inr r1), some (.inl (x2 + 1)), some (.inl (x3 + 1)), some (.inr (some a_19)), some (.inr (some a_42))] rfl ?_
          refine bz_goto (tgt := 30) (pc := 135) dX11_offerAll_135 (by decide) ?_
          exact hP
theorem m_X11_offerAll {G : bz_G} {l : Launch} {d mc ms : Nat} {F : Option bz_V → bz_H → Prop} (a0 : Nat) (h : bz_H) (hP : ∀ (κ : bz_K) (bc bs : Nat), κ.2.1 = l → bz_rR h a0 11 0 (fun r_1 => bz_rR h a0 11 0 (fun r_2 => bz_nn r_2 (fun a_3 => bz_rI h a_3 10 13 (fun x_4 => bz_nn r_1 (fun a_7 => bz_rc h a_7 10 (bz_cR G l d kX10_textAt [.inr (some a_7), .inl x_4] h 0 0 (fun r_5 h_6 => (∀ a_8, r_5 = some a_8 → bz_J G κ kX11_offerAll (d + 1) F bc bs 30 [some (.inr (some a0)), some (.inr (some a_8)), some (.inl 0), some (.inl 0), none, none] [] h_6) ∧ (r_5 = none → bz_rc h_6 a0 11 (bz_cI G l d kX11_finding [.inr (some a0), .inl (-1000005)] h_6 0 0 (fun x_9 h_10 => F (some (.inl x_9)) h_10))))))))))) : bz_Call G l (d + 1) kX11_offerAll [.inr (some a0)] h mc ms F :=
  bz_body (by decide) (by decide) (fun κ hl => g_X11_offerAll_0 hl a0 h (hP κ mc ms hl))
set_option maxRecDepth 20000 in
set_option maxHeartbeats 4000000 in
theorem g_X11_offered_0 {G : bz_G} {κ : bz_K} {l : Launch} {d : Nat} {F : Option bz_V → bz_H → Prop} {bc bs : Nat} (hl : κ.2.1 = l) (a0 : Nat) (x1 : Int32) (h : bz_H) (hP : bz_rR h a0 11 0 (fun r_1 => bz_nn r_1 (fun a_4 => bz_rc h a_4 10 (bz_cR G l d kX10_orderAt [.inr (some a_4), .inl x1] h 0 0 (fun r_2 h_3 => (∀ a_5, r_2 = some a_5 → bz_rR h_3 a0 11 0 (fun r_8 => bz_rR h_3 a0 11 0 (fun r_9 => bz_nn r_9 (fun a_10 => bz_rI h_3 a_10 10 13 (fun x_11 => bz_nn r_8 (fun a_14 => bz_rc h_3 a_14 10 (bz_cR G l d kX10_textAt [.inr (some a_14), .inl x_11] h_3 0 0 (fun r_12 h_13 => bz_rI h_13 a_5 2 7 (fun x_15 => (¬ x_15 = 0 → bz_rc h_13 a0 11 (bz_cI G l d kX11_finding [.inr (some a0), .inl (-1000005)] h_13 0 0 (fun x_16 h_17 => F (some (.inl x_16)) h_17))) ∧ (x_15 = 0 → (∀ a_18, r_12 = some a_18 → bz_rc h_13 a0 11 (bz_cI G l d kX11_bestFor [.inr (some a0), .inl x1, .inr (some a_18)] h_13 0 0 (fun x_21 h_22 => (¬ x_21 = (-1) → F (some (.inl x_21)) h_22) ∧ (x_21 = (-1) → bz_rc h_22 a0 11 (bz_cI G l d kX11_finding [.inr (some a0), .inl (-1000004)] h_22 0 0 (fun x_23 h_24 => F (some (.inl x_23)) h_24)))))) ∧ (r_12 = none → bz_rc h_13 a0 11 (bz_cI G l d kX11_finding [.inr (some a0), .inl (-1000005)] h_13 0 0 (fun x_19 h_20 => F (some (.inl x_19)) h_20))))))))))))) ∧ (r_2 = none → bz_rc h_3 a0 11 (bz_cI G l d kX11_finding [.inr (some a0), .inl (-1000001)] h_3 0 0 (fun x_6 h_7 => F (some (.inl x_6)) h_7)))))))) : bz_J G κ kX11_offered (d + 1) F bc bs 0 [some (.inr (some a0)), some (.inl x1), none, none, none] [] h := by
  subst hl
  refine bz_aload_n (pc := 0) dX11_offered_0 rfl rfl ?_
  refine bz_rw_rR (pc := 1) dX11_offered_1 fl_X11_12 hP (fun r_1 hP => ?_)
  refine bz_iload_n (pc := 4) dX11_offered_4 rfl rfl ?_
  obtain ⟨a_4, rfl, hP⟩ := hP
  refine bz_kRV (as := [.inl x1]) (st := []) (ci := 10) (pc := 5) dX11_offered_5 sc_X10_orderAt ml_X11_132 im_X10_orderAt se_X10_orderAt rfl rfl rfl (by decide) hP (fun r_2 h_3 hP => ?_)
  refine bz_s_astore_n (pc := 8) dX11_offered_8 rfl (by decide) [some (.inr (some a0)), some (.inl x1), some (.inr r_2), none, none] rfl ?_
  refine bz_aload_n (pc := 9) dX11_offered_9 rfl rfl ?_
  refine bz_ifnonnull (tgt := 20) (pc := 10) dX11_offered_10 (by decide) (fun a_5 c => ?_) (fun c => ?_)
  · have hP := hP.1 a_5 c
    subst c
    refine bz_aload_n (pc := 20) dX11_offered_20 rfl rfl ?_
    refine bz_rw_rR (pc := 21) dX11_offered_21 fl_X11_12 hP (fun r_8 hP => ?_)
    refine bz_aload_n (pc := 24) dX11_offered_24 rfl rfl ?_
    refine bz_rw_rR (pc := 25) dX11_offered_25 fl_X11_12 hP (fun r_9 hP => ?_)
    obtain ⟨a_10, rfl, hP⟩ := hP
    refine bz_rw_rI (pc := 28) dX11_offered_28 fl_X11_275 hP (fun x_11 hP => ?_)
    obtain ⟨a_14, rfl, hP⟩ := hP
    refine bz_kRV (as := [.inl x_11]) (st := []) (ci := 10) (pc := 31) dX11_offered_31 sc_X10_textAt ml_X11_281 im_X10_textAt se_X10_textAt rfl rfl rfl (by decide) hP (fun r_12 h_13 hP => ?_)
    refine bz_s_astore_n (pc := 34) dX11_offered_34 rfl (by decide) [some (.inr (some a0)), some (.inl x1), some (.inr (some a_5)), some (.inr r_12), none] rfl ?_
    refine bz_aload_n (pc := 35) dX11_offered_35 rfl rfl ?_
    refine bz_rw_rI (pc := 36) dX11_offered_36 fl_X11_136 hP (fun x_15 hP => ?_)
    refine bz_if_ne (tgt := 46) (pc := 39) dX11_offered_39 (by decide) (fun c => ?_) (fun c => ?_)
    · have hP := hP.1 c
      refine bz_aload_n (pc := 46) dX11_offered_46 rfl rfl ?_
      refine bz_ldc (pc := 47) dX11_offered_47 ct_X11_107 ?_
      refine bz_kIV (as := [.inl (-1000005)]) (st := []) (ci := 11) (pc := 49) dX11_offered_49 sc_X11_finding ml_X11_79 im_X11_finding se_X11_finding rfl rfl rfl (by decide) hP (fun x_16 h_17 hP => ?_)
      exact bz_retI (pc := 52) dX11_offered_52 rfl rfl hP
    · have hP := hP.2 c
      refine bz_aload_n (pc := 42) dX11_offered_42 rfl rfl ?_
      refine bz_ifnonnull (tgt := 53) (pc := 43) dX11_offered_43 (by decide) (fun a_18 c => ?_) (fun c => ?_)
      · have hP := hP.1 a_18 c
        subst c
        refine bz_aload_n (pc := 53) dX11_offered_53 rfl rfl ?_
        refine bz_iload_n (pc := 54) dX11_offered_54 rfl rfl ?_
        refine bz_aload_n (pc := 55) dX11_offered_55 rfl rfl ?_
        refine bz_kIV (as := [.inl x1, .inr (some a_18)]) (st := []) (ci := 11) (pc := 56) dX11_offered_56 sc_X11_bestFor ml_X11_296 im_X11_bestFor se_X11_bestFor rfl rfl rfl (by decide) hP (fun x_21 h_22 hP => ?_)
        refine bz_s_istore (pc := 59) dX11_offered_59 (by decide) [some (.inr (some a0)), some (.inl x1), some (.inr (some a_5)), some (.inr (some a_18)), some (.inl x_21)] rfl ?_
        refine bz_iload (pc := 61) dX11_offered_61 rfl ?_
        refine bz_iconst (v := (-1)) (pc := 63) dX11_offered_63 (by decide) ?_
        refine bz_icmp_ne (tgt := 76) (pc := 64) dX11_offered_64 (by decide) (fun c => ?_) (fun c => ?_)
        · have hP := hP.1 c
          refine bz_iload (pc := 76) dX11_offered_76 rfl ?_
          exact bz_retI (pc := 78) dX11_offered_78 rfl rfl hP
        · have hP := hP.2 c
          refine bz_aload_n (pc := 67) dX11_offered_67 rfl rfl ?_
          refine bz_ldc (pc := 68) dX11_offered_68 ct_X11_102 ?_
          refine bz_kIV (as := [.inl (-1000004)]) (st := []) (ci := 11) (pc := 70) dX11_offered_70 sc_X11_finding ml_X11_79 im_X11_finding se_X11_finding rfl rfl rfl (by decide) hP (fun x_23 h_24 hP => ?_)
          refine bz_goto (tgt := 78) (pc := 73) dX11_offered_73 (by decide) ?_
          exact bz_retI (pc := 78) dX11_offered_78 rfl rfl hP
      · have hP := hP.2 c
        subst c
        refine bz_aload_n (pc := 46) dX11_offered_46 rfl rfl ?_
        refine bz_ldc (pc := 47) dX11_offered_47 ct_X11_107 ?_
        refine bz_kIV (as := [.inl (-1000005)]) (st := []) (ci := 11) (pc := 49) dX11_offered_49 sc_X11_finding ml_X11_79 im_X11_finding se_X11_finding rfl rfl rfl (by decide) hP (fun x_19 h_20 hP => ?_)
        exact bz_retI (pc := 52) dX11_offered_52 rfl rfl hP
  · have hP := hP.2 c
    subst c
    refine bz_aload_n (pc := 13) dX11_offered_13 rfl rfl ?_
    refine bz_ldc (pc := 14) dX11_offered_14 ct_X11_78 ?_
    refine bz_kIV (as := [.inl (-1000001)]) (st := []) (ci := 11) (pc := 16) dX11_offered_16 sc_X11_finding ml_X11_79 im_X11_finding se_X11_finding rfl rfl rfl (by decide) hP (fun x_6 h_7 hP => ?_)
    exact bz_retI (pc := 19) dX11_offered_19 rfl rfl hP
theorem m_X11_offered {G : bz_G} {l : Launch} {d mc ms : Nat} {F : Option bz_V → bz_H → Prop} (a0 : Nat) (x1 : Int32) (h : bz_H) (hP : bz_rR h a0 11 0 (fun r_1 => bz_nn r_1 (fun a_4 => bz_rc h a_4 10 (bz_cR G l d kX10_orderAt [.inr (some a_4), .inl x1] h 0 0 (fun r_2 h_3 => (∀ a_5, r_2 = some a_5 → bz_rR h_3 a0 11 0 (fun r_8 => bz_rR h_3 a0 11 0 (fun r_9 => bz_nn r_9 (fun a_10 => bz_rI h_3 a_10 10 13 (fun x_11 => bz_nn r_8 (fun a_14 => bz_rc h_3 a_14 10 (bz_cR G l d kX10_textAt [.inr (some a_14), .inl x_11] h_3 0 0 (fun r_12 h_13 => bz_rI h_13 a_5 2 7 (fun x_15 => (¬ x_15 = 0 → bz_rc h_13 a0 11 (bz_cI G l d kX11_finding [.inr (some a0), .inl (-1000005)] h_13 0 0 (fun x_16 h_17 => F (some (.inl x_16)) h_17))) ∧ (x_15 = 0 → (∀ a_18, r_12 = some a_18 → bz_rc h_13 a0 11 (bz_cI G l d kX11_bestFor [.inr (some a0), .inl x1, .inr (some a_18)] h_13 0 0 (fun x_21 h_22 => (¬ x_21 = (-1) → F (some (.inl x_21)) h_22) ∧ (x_21 = (-1) → bz_rc h_22 a0 11 (bz_cI G l d kX11_finding [.inr (some a0), .inl (-1000004)] h_22 0 0 (fun x_23 h_24 => F (some (.inl x_23)) h_24)))))) ∧ (r_12 = none → bz_rc h_13 a0 11 (bz_cI G l d kX11_finding [.inr (some a0), .inl (-1000005)] h_13 0 0 (fun x_19 h_20 => F (some (.inl x_19)) h_20))))))))))))) ∧ (r_2 = none → bz_rc h_3 a0 11 (bz_cI G l d kX11_finding [.inr (some a0), .inl (-1000001)] h_3 0 0 (fun x_6 h_7 => F (some (.inl x_6)) h_7)))))))) : bz_Call G l (d + 1) kX11_offered [.inr (some a0), .inl x1] h mc ms F :=
  bz_body (by decide) (by decide) (fun κ hl => g_X11_offered_0 hl a0 x1 h hP)
set_option maxRecDepth 20000 in
set_option maxHeartbeats 4000000 in
theorem g_X11_orderOf_0 {G : bz_G} {κ : bz_K} {l : Launch} {d : Nat} {F : Option bz_V → bz_H → Prop} {bc bs : Nat} (hl : κ.2.1 = l) (a0 : Nat) (x1 : Int32) (x2 : Int32) (h : bz_H) (hP : bz_rR h a0 11 0 (fun r_1 => bz_nn r_1 (fun a_4 => bz_rc h a_4 10 (bz_cR G l d kX10_orderAt [.inr (some a_4), .inl x1] h 0 0 (fun r_2 h_3 => (r_2 = none → bz_rc h_3 a0 11 (bz_cI G l d kX11_finding [.inr (some a0), .inl (-1000001)] h_3 0 0 (fun x_6 h_7 => F (some (.inl x_6)) h_7))) ∧ (∀ a_5, r_2 = some a_5 → bz_cI G l d kX11_isWithin [.inl x2, .inl 0, .inl 10] h_3 0 0 (fun x_8 h_9 => (¬ x_8 = 0 → (x2 < 5 → bz_J G κ kX11_orderOf (d + 1) F bc bs 50 [some (.inr (some a0)), some (.inl x1), some (.inl x2), some (.inr (some a_5))] [] h_9) ∧ (¬ (x2 < 5) → bz_rI h_9 a_5 2 7 (fun x_10 => (x_10 = 1 → bz_J G κ kX11_orderOf (d + 1) F bc bs 50 [some (.inr (some a0)), some (.inl x1), some (.inl x2), some (.inr (some a_5))] [] h_9) ∧ (¬ (x_10 = 1) → bz_rc h_9 a0 11 (bz_cI G l d kX11_finding [.inr (some a0), .inl (-1000004)] h_9 0 0 (fun x_11 h_12 => F (some (.inl x_11)) h_12)))))) ∧ (x_8 = 0 → bz_rc h_9 a0 11 (bz_cI G l d kX11_finding [.inr (some a0), .inl (-1000001)] h_9 0 0 (fun x_13 h_14 => F (some (.inl x_13)) h_14)))))))))) : bz_J G κ kX11_orderOf (d + 1) F bc bs 0 [some (.inr (some a0)), some (.inl x1), some (.inl x2), none] [] h := by
  subst hl
  refine bz_aload_n (pc := 0) dX11_orderOf_0 rfl rfl ?_
  refine bz_rw_rR (pc := 1) dX11_orderOf_1 fl_X11_12 hP (fun r_1 hP => ?_)
  refine bz_iload_n (pc := 4) dX11_orderOf_4 rfl rfl ?_
  obtain ⟨a_4, rfl, hP⟩ := hP
  refine bz_kRV (as := [.inl x1]) (st := []) (ci := 10) (pc := 5) dX11_orderOf_5 sc_X10_orderAt ml_X11_132 im_X10_orderAt se_X10_orderAt rfl rfl rfl (by decide) hP (fun r_2 h_3 hP => ?_)
  refine bz_s_astore_n (pc := 8) dX11_orderOf_8 rfl (by decide) [some (.inr (some a0)), some (.inl x1), some (.inl x2), some (.inr r_2)] rfl ?_
  refine bz_aload_n (pc := 9) dX11_orderOf_9 rfl rfl ?_
  refine bz_ifnull (tgt := 23) (pc := 10) dX11_orderOf_10 (by decide) (fun c => ?_) (fun a_5 c => ?_)
  · have hP := hP.1 c
    subst c
    refine bz_aload_n (pc := 23) dX11_orderOf_23 rfl rfl ?_
    refine bz_ldc (pc := 24) dX11_orderOf_24 ct_X11_78 ?_
    refine bz_kIV (as := [.inl (-1000001)]) (st := []) (ci := 11) (pc := 26) dX11_orderOf_26 sc_X11_finding ml_X11_79 im_X11_finding se_X11_finding rfl rfl rfl (by decide) hP (fun x_6 h_7 hP => ?_)
    exact bz_retI (pc := 29) dX11_orderOf_29 rfl rfl hP
  · have hP := hP.2 a_5 c
    subst c
    refine bz_iload_n (pc := 13) dX11_orderOf_13 rfl rfl ?_
    refine bz_iconst (v := 0) (pc := 14) dX11_orderOf_14 (by decide) ?_
    refine bz_bipush (v := 10) (pc := 15) dX11_orderOf_15 (by decide) ?_
    refine bz_kIS (as := [.inl x2, .inl 0, .inl 10]) (st := []) (pc := 17) dX11_orderOf_17 sc_X11_isWithin ml_X11_74 ss_X11_isWithin rfl (by decide) hP (fun x_8 h_9 hP => ?_)
    refine bz_if_ne (tgt := 30) (pc := 20) dX11_orderOf_20 (by decide) (fun c => ?_) (fun c => ?_)
    · have hP := hP.1 c
      refine bz_iload_n (pc := 30) dX11_orderOf_30 rfl rfl ?_
      refine bz_iconst (v := 5) (pc := 31) dX11_orderOf_31 (by decide) ?_
      refine bz_icmp_lt (tgt := 50) (pc := 32) dX11_orderOf_32 (by decide) (fun c => ?_) (fun c => ?_)
      · have hP := hP.1 c
        exact hP
      · have hP := hP.2 c
        refine bz_aload_n (pc := 35) dX11_orderOf_35 rfl rfl ?_
        refine bz_rw_rI (pc := 36) dX11_orderOf_36 fl_X11_136 hP (fun x_10 hP => ?_)
        refine bz_iconst (v := 1) (pc := 39) dX11_orderOf_39 (by decide) ?_
        refine bz_icmp_eq (tgt := 50) (pc := 40) dX11_orderOf_40 (by decide) (fun c => ?_) (fun c => ?_)
        · have hP := hP.1 c
          exact hP
        · have hP := hP.2 c
          refine bz_aload_n (pc := 43) dX11_orderOf_43 rfl rfl ?_
          refine bz_ldc (pc := 44) dX11_orderOf_44 ct_X11_102 ?_
          refine bz_kIV (as := [.inl (-1000004)]) (st := []) (ci := 11) (pc := 46) dX11_orderOf_46 sc_X11_finding ml_X11_79 im_X11_finding se_X11_finding rfl rfl rfl (by decide) hP (fun x_11 h_12 hP => ?_)
          exact bz_retI (pc := 49) dX11_orderOf_49 rfl rfl hP
    · have hP := hP.2 c
      refine bz_aload_n (pc := 23) dX11_orderOf_23 rfl rfl ?_
      refine bz_ldc (pc := 24) dX11_orderOf_24 ct_X11_78 ?_
      refine bz_kIV (as := [.inl (-1000001)]) (st := []) (ci := 11) (pc := 26) dX11_orderOf_26 sc_X11_finding ml_X11_79 im_X11_finding se_X11_finding rfl rfl rfl (by decide) hP (fun x_13 h_14 hP => ?_)
      exact bz_retI (pc := 29) dX11_orderOf_29 rfl rfl hP
set_option maxRecDepth 20000 in
set_option maxHeartbeats 4000000 in
theorem g_X11_orderOf_50 {G : bz_G} {κ : bz_K} {l : Launch} {d : Nat} {F : Option bz_V → bz_H → Prop} {bc bs : Nat} (hl : κ.2.1 = l) (a0 : Nat) (x1 : Int32) (x2 : Int32) (r3 : Option Nat) (h : bz_H) (hP : (x2 = 0 → bz_nn r3 (fun a_15 => bz_rI h a_15 2 0 (fun x_16 => F (some (.inl x_16)) h))) ∧ (¬ x2 = 0 → (x2 = 1 → bz_nn r3 (fun a_17 => bz_rI h a_17 2 2 (fun x_18 => F (some (.inl x_18)) h))) ∧ (¬ x2 = 1 → (x2 = 2 → bz_nn r3 (fun a_19 => bz_rI h a_19 2 3 (fun x_20 => F (some (.inl x_20)) h))) ∧ (¬ x2 = 2 → (x2 = 3 → bz_nn r3 (fun a_21 => bz_rI h a_21 2 6 (fun x_22 => F (some (.inl x_22)) h))) ∧ (¬ x2 = 3 → (x2 = 4 → bz_nn r3 (fun a_23 => bz_rI h a_23 2 7 (fun x_24 => F (some (.inl x_24)) h))) ∧ (¬ x2 = 4 → (x2 = 5 → bz_nn r3 (fun a_25 => bz_rI h a_25 2 8 (fun x_26 => F (some (.inl x_26)) h))) ∧ (¬ x2 = 5 → (x2 = 6 → bz_nn r3 (fun a_27 => bz_rI h a_27 2 9 (fun x_28 => F (some (.inl x_28)) h))) ∧ (¬ x2 = 6 → (x2 = 7 → bz_nn r3 (fun a_29 => bz_rI h a_29 2 10 (fun x_30 => F (some (.inl x_30)) h))) ∧ (¬ x2 = 7 → (x2 = 8 → bz_nn r3 (fun a_31 => bz_rI h a_31 2 11 (fun x_32 => F (some (.inl x_32)) h))) ∧ (¬ x2 = 8 → (x2 = 9 → bz_rR h a0 11 0 (fun r_33 => bz_nn r_33 (fun a_36 => bz_rc h a_36 10 (bz_cI G l d kX10_payFor [.inr (some a_36), .inr r3] h 0 0 (fun x_34 h_35 => F (some (.inl x_34)) h_35))))) ∧ (¬ x2 = 9 → bz_nn r3 (fun a_37 => bz_rI h a_37 2 12 (fun x_38 => F (some (.inl x_38)) h))))))))))))) : bz_J G κ kX11_orderOf (d + 1) F bc bs 50 [some (.inr (some a0)), some (.inl x1), some (.inl x2), some (.inr r3)] [] h := by
  subst hl
  refine bz_iload_n (pc := 50) dX11_orderOf_50 rfl rfl ?_
  refine bz_table (pc := 51) [(0, 53), (1, 58), (2, 63), (3, 68), (4, 73), (5, 78), (6, 83), (7, 88), (8, 93), (9, 98)] dX11_orderOf_51 (by decide) (by decide) (by decide) (by decide) (by decide) ?_
  refine ⟨fun c => ?_, fun c => ?_⟩
  · have hP := hP.1 c
    show bz_J G κ kX11_orderOf (d + 1) F bc bs 104 [some (.inr (some a0)), some (.inl x1), some (.inl x2), some (.inr r3)] [] h
    refine bz_aload_n (pc := 104) dX11_orderOf_104 rfl rfl ?_
    obtain ⟨a_15, rfl, hP⟩ := hP
    refine bz_rw_rI (pc := 105) dX11_orderOf_105 fl_X11_141 hP (fun x_16 hP => ?_)
    exact bz_retI (pc := 108) dX11_orderOf_108 rfl rfl hP
  · have hP := hP.2 c
    refine ⟨fun c => ?_, fun c => ?_⟩
    · have hP := hP.1 c
      show bz_J G κ kX11_orderOf (d + 1) F bc bs 109 [some (.inr (some a0)), some (.inl x1), some (.inl x2), some (.inr r3)] [] h
      refine bz_aload_n (pc := 109) dX11_orderOf_109 rfl rfl ?_
      obtain ⟨a_17, rfl, hP⟩ := hP
      refine bz_rw_rI (pc := 110) dX11_orderOf_110 fl_X11_144 hP (fun x_18 hP => ?_)
      exact bz_retI (pc := 113) dX11_orderOf_113 rfl rfl hP
    · have hP := hP.2 c
      refine ⟨fun c => ?_, fun c => ?_⟩
      · have hP := hP.1 c
        show bz_J G κ kX11_orderOf (d + 1) F bc bs 114 [some (.inr (some a0)), some (.inl x1), some (.inl x2), some (.inr r3)] [] h
        refine bz_aload_n (pc := 114) dX11_orderOf_114 rfl rfl ?_
        obtain ⟨a_19, rfl, hP⟩ := hP
        refine bz_rw_rI (pc := 115) dX11_orderOf_115 fl_X11_147 hP (fun x_20 hP => ?_)
        exact bz_retI (pc := 118) dX11_orderOf_118 rfl rfl hP
      · have hP := hP.2 c
        refine ⟨fun c => ?_, fun c => ?_⟩
        · have hP := hP.1 c
          show bz_J G κ kX11_orderOf (d + 1) F bc bs 119 [some (.inr (some a0)), some (.inl x1), some (.inl x2), some (.inr r3)] [] h
          refine bz_aload_n (pc := 119) dX11_orderOf_119 rfl rfl ?_
          obtain ⟨a_21, rfl, hP⟩ := hP
          refine bz_rw_rI (pc := 120) dX11_orderOf_120 fl_X11_150 hP (fun x_22 hP => ?_)
          exact bz_retI (pc := 123) dX11_orderOf_123 rfl rfl hP
        · have hP := hP.2 c
          refine ⟨fun c => ?_, fun c => ?_⟩
          · have hP := hP.1 c
            show bz_J G κ kX11_orderOf (d + 1) F bc bs 124 [some (.inr (some a0)), some (.inl x1), some (.inl x2), some (.inr r3)] [] h
            refine bz_aload_n (pc := 124) dX11_orderOf_124 rfl rfl ?_
            obtain ⟨a_23, rfl, hP⟩ := hP
            refine bz_rw_rI (pc := 125) dX11_orderOf_125 fl_X11_136 hP (fun x_24 hP => ?_)
            exact bz_retI (pc := 128) dX11_orderOf_128 rfl rfl hP
          · have hP := hP.2 c
            refine ⟨fun c => ?_, fun c => ?_⟩
            · have hP := hP.1 c
              show bz_J G κ kX11_orderOf (d + 1) F bc bs 129 [some (.inr (some a0)), some (.inl x1), some (.inl x2), some (.inr r3)] [] h
              refine bz_aload_n (pc := 129) dX11_orderOf_129 rfl rfl ?_
              obtain ⟨a_25, rfl, hP⟩ := hP
              refine bz_rw_rI (pc := 130) dX11_orderOf_130 fl_X11_153 hP (fun x_26 hP => ?_)
              exact bz_retI (pc := 133) dX11_orderOf_133 rfl rfl hP
            · have hP := hP.2 c
              refine ⟨fun c => ?_, fun c => ?_⟩
              · have hP := hP.1 c
                show bz_J G κ kX11_orderOf (d + 1) F bc bs 134 [some (.inr (some a0)), some (.inl x1), some (.inl x2), some (.inr r3)] [] h
                refine bz_aload_n (pc := 134) dX11_orderOf_134 rfl rfl ?_
                obtain ⟨a_27, rfl, hP⟩ := hP
                refine bz_rw_rI (pc := 135) dX11_orderOf_135 fl_X11_156 hP (fun x_28 hP => ?_)
                exact bz_retI (pc := 138) dX11_orderOf_138 rfl rfl hP
              · have hP := hP.2 c
                refine ⟨fun c => ?_, fun c => ?_⟩
                · have hP := hP.1 c
                  show bz_J G κ kX11_orderOf (d + 1) F bc bs 139 [some (.inr (some a0)), some (.inl x1), some (.inl x2), some (.inr r3)] [] h
                  refine bz_aload_n (pc := 139) dX11_orderOf_139 rfl rfl ?_
                  obtain ⟨a_29, rfl, hP⟩ := hP
                  refine bz_rw_rI (pc := 140) dX11_orderOf_140 fl_X11_159 hP (fun x_30 hP => ?_)
                  exact bz_retI (pc := 143) dX11_orderOf_143 rfl rfl hP
                · have hP := hP.2 c
                  refine ⟨fun c => ?_, fun c => ?_⟩
                  · have hP := hP.1 c
                    show bz_J G κ kX11_orderOf (d + 1) F bc bs 144 [some (.inr (some a0)), some (.inl x1), some (.inl x2), some (.inr r3)] [] h
                    refine bz_aload_n (pc := 144) dX11_orderOf_144 rfl rfl ?_
                    obtain ⟨a_31, rfl, hP⟩ := hP
                    refine bz_rw_rI (pc := 145) dX11_orderOf_145 fl_X11_162 hP (fun x_32 hP => ?_)
                    exact bz_retI (pc := 148) dX11_orderOf_148 rfl rfl hP
                  · have hP := hP.2 c
                    refine ⟨fun c => ?_, fun c => ?_⟩
                    · have hP := hP.1 c
                      show bz_J G κ kX11_orderOf (d + 1) F bc bs 149 [some (.inr (some a0)), some (.inl x1), some (.inl x2), some (.inr r3)] [] h
                      refine bz_aload_n (pc := 149) dX11_orderOf_149 rfl rfl ?_
                      refine bz_rw_rR (pc := 150) dX11_orderOf_150 fl_X11_12 hP (fun r_33 hP => ?_)
                      refine bz_aload_n (pc := 153) dX11_orderOf_153 rfl rfl ?_
                      obtain ⟨a_36, rfl, hP⟩ := hP
                      refine bz_kIV (as := [.inr r3]) (st := []) (ci := 10) (pc := 154) dX11_orderOf_154 sc_X10_payFor ml_X11_165 im_X10_payFor se_X10_payFor rfl rfl rfl (by decide) hP (fun x_34 h_35 hP => ?_)
                      exact bz_retI (pc := 157) dX11_orderOf_157 rfl rfl hP
                    · have hP := hP.2 c
                      show bz_J G κ kX11_orderOf (d + 1) F bc bs 158 [some (.inr (some a0)), some (.inl x1), some (.inl x2), some (.inr r3)] [] h
                      refine bz_aload_n (pc := 158) dX11_orderOf_158 rfl rfl ?_
                      obtain ⟨a_37, rfl, hP⟩ := hP
                      refine bz_rw_rI (pc := 159) dX11_orderOf_159 fl_X11_169 hP (fun x_38 hP => ?_)
                      exact bz_retI (pc := 162) dX11_orderOf_162 rfl rfl hP
theorem m_X11_orderOf {G : bz_G} {l : Launch} {d mc ms : Nat} {F : Option bz_V → bz_H → Prop} (a0 : Nat) (x1 : Int32) (x2 : Int32) (h : bz_H) (hP : ∀ (κ : bz_K) (bc bs : Nat), κ.2.1 = l → bz_rR h a0 11 0 (fun r_1 => bz_nn r_1 (fun a_4 => bz_rc h a_4 10 (bz_cR G l d kX10_orderAt [.inr (some a_4), .inl x1] h 0 0 (fun r_2 h_3 => (r_2 = none → bz_rc h_3 a0 11 (bz_cI G l d kX11_finding [.inr (some a0), .inl (-1000001)] h_3 0 0 (fun x_6 h_7 => F (some (.inl x_6)) h_7))) ∧ (∀ a_5, r_2 = some a_5 → bz_cI G l d kX11_isWithin [.inl x2, .inl 0, .inl 10] h_3 0 0 (fun x_8 h_9 => (¬ x_8 = 0 → (x2 < 5 → bz_J G κ kX11_orderOf (d + 1) F bc bs 50 [some (.inr (some a0)), some (.inl x1), some (.inl x2), some (.inr (some a_5))] [] h_9) ∧ (¬ (x2 < 5) → bz_rI h_9 a_5 2 7 (fun x_10 => (x_10 = 1 → bz_J G κ kX11_orderOf (d + 1) F bc bs 50 [some (.inr (some a0)), some (.inl x1), some (.inl x2), some (.inr (some a_5))] [] h_9) ∧ (¬ (x_10 = 1) → bz_rc h_9 a0 11 (bz_cI G l d kX11_finding [.inr (some a0), .inl (-1000004)] h_9 0 0 (fun x_11 h_12 => F (some (.inl x_11)) h_12)))))) ∧ (x_8 = 0 → bz_rc h_9 a0 11 (bz_cI G l d kX11_finding [.inr (some a0), .inl (-1000001)] h_9 0 0 (fun x_13 h_14 => F (some (.inl x_13)) h_14)))))))))) : bz_Call G l (d + 1) kX11_orderOf [.inr (some a0), .inl x1, .inl x2] h mc ms F :=
  bz_body (by decide) (by decide) (fun κ hl => g_X11_orderOf_0 hl a0 x1 x2 h (hP κ mc ms hl))
set_option maxRecDepth 20000 in
set_option maxHeartbeats 4000000 in
theorem g_X11_order_0 {G : bz_G} {κ : bz_K} {l : Launch} {d : Nat} {F : Option bz_V → bz_H → Prop} {bc bs : Nat} (hl : κ.2.1 = l) (a0 : Nat) (x1 : Int32) (x2 : Int32) (x3 : Int32) (x4 : Int32) (h : bz_H) (hP : bz_rR h a0 11 0 (fun r_1 => bz_nn r_1 (fun a_2 => bz_rR h a_2 10 1 (fun r_3 => bz_nn r_3 (fun a_4 => bz_rI h a_4 4 1 (fun x_5 => bz_cI G l d kX11_isWithin [.inl x1, .inl 0, .inl (x_5 - 1)] h 0 0 (fun x_6 h_7 => (x_6 = 0 → bz_rc h_7 a0 11 (bz_cI G l d kX11_finding [.inr (some a0), .inl (-1000001)] h_7 0 0 (fun x_8 h_9 => F (some (.inl x_8)) h_9))) ∧ (¬ (x_6 = 0) → bz_cI G l d kX11_isCrossing [.inl x2] h_7 0 0 (fun x_10 h_11 => (x_10 = 0 → bz_rc h_11 a0 11 (bz_cI G l d kX11_finding [.inr (some a0), .inl (-1000001)] h_11 0 0 (fun x_12 h_13 => F (some (.inl x_12)) h_13))) ∧ (¬ (x_10 = 0) → bz_cI G l d kX11_isWithin [.inl x3, .inl 10, .inl 120] h_11 0 0 (fun x_14 h_15 => (x_14 = 0 → bz_rc h_15 a0 11 (bz_cI G l d kX11_finding [.inr (some a0), .inl (-1000001)] h_15 0 0 (fun x_16 h_17 => F (some (.inl x_16)) h_17))) ∧ (¬ (x_14 = 0) → bz_cI G l d kX11_isWithin [.inl x4, .inl 0, .inl 60] h_15 0 0 (fun x_18 h_19 => (¬ x_18 = 0 → bz_rR h_19 a0 11 0 (fun r_20 => bz_nn r_20 (fun a_21 => bz_rI h_19 a_21 10 9 (fun x_22 => (x_22 < 24 → bz_rR h_19 a0 11 0 (fun r_23 => bz_nn r_23 (fun a_26 => bz_rc h_19 a_26 10 (bz_cV G l d kX10_addOrder [.inr (some a_26), .inl x1, .inl x2, .inl x3, .inl x4] h_19 0 0 (fun h_25 => bz_rR h_25 a0 11 0 (fun r_27 => bz_nn r_27 (fun a_28 => bz_rI h_25 a_28 10 9 (fun x_29 => F (some (.inl (x_29 - 1))) h_25)))))))) ∧ (¬ (x_22 < 24) → bz_rc h_19 a0 11 (bz_cI G l d kX11_finding [.inr (some a0), .inl (-1000002)] h_19 0 0 (fun x_30 h_31 => F (some (.inl x_30)) h_31))))))) ∧ (x_18 = 0 → bz_rc h_19 a0 11 (bz_cI G l d kX11_finding [.inr (some a0), .inl (-1000001)] h_19 0 0 (fun x_32 h_33 => F (some (.inl x_32)) h_33)))))))))))))))) : bz_J G κ kX11_order (d + 1) F bc bs 0 [some (.inr (some a0)), some (.inl x1), some (.inl x2), some (.inl x3), some (.inl x4)] [] h := by
  subst hl
  refine bz_iload_n (pc := 0) dX11_order_0 rfl rfl ?_
  refine bz_iconst (v := 0) (pc := 1) dX11_order_1 (by decide) ?_
  refine bz_aload_n (pc := 2) dX11_order_2 rfl rfl ?_
  refine bz_rw_rR (pc := 3) dX11_order_3 fl_X11_12 hP (fun r_1 hP => ?_)
  obtain ⟨a_2, rfl, hP⟩ := hP
  refine bz_rw_rR (pc := 6) dX11_order_6 fl_X11_108 hP (fun r_3 hP => ?_)
  obtain ⟨a_4, rfl, hP⟩ := hP
  refine bz_rw_rI (pc := 9) dX11_order_9 fl_X11_122 hP (fun x_5 hP => ?_)
  refine bz_iconst (v := 1) (pc := 12) dX11_order_12 (by decide) ?_
  refine bz_isub (pc := 13) dX11_order_13 ?_
  refine bz_kIS (as := [.inl x1, .inl 0, .inl (x_5 - 1)]) (st := []) (pc := 14) dX11_order_14 sc_X11_isWithin ml_X11_74 ss_X11_isWithin rfl (by decide) hP (fun x_6 h_7 hP => ?_)
  refine bz_if_eq (tgt := 49) (pc := 17) dX11_order_17 (by decide) (fun c => ?_) (fun c => ?_)
  · have hP := hP.1 c
    refine bz_aload_n (pc := 49) dX11_order_49 rfl rfl ?_
    refine bz_ldc (pc := 50) dX11_order_50 ct_X11_78 ?_
    refine bz_kIV (as := [.inl (-1000001)]) (st := []) (ci := 11) (pc := 52) dX11_order_52 sc_X11_finding ml_X11_79 im_X11_finding se_X11_finding rfl rfl rfl (by decide) hP (fun x_8 h_9 hP => ?_)
    exact bz_retI (pc := 55) dX11_order_55 rfl rfl hP
  · have hP := hP.2 c
    refine bz_iload_n (pc := 20) dX11_order_20 rfl rfl ?_
    refine bz_kIS (as := [.inl x2]) (st := []) (pc := 21) dX11_order_21 sc_X11_isCrossing ml_X11_70 ss_X11_isCrossing rfl (by decide) hP (fun x_10 h_11 hP => ?_)
    refine bz_if_eq (tgt := 49) (pc := 24) dX11_order_24 (by decide) (fun c => ?_) (fun c => ?_)
    · have hP := hP.1 c
      refine bz_aload_n (pc := 49) dX11_order_49 rfl rfl ?_
      refine bz_ldc (pc := 50) dX11_order_50 ct_X11_78 ?_
      refine bz_kIV (as := [.inl (-1000001)]) (st := []) (ci := 11) (pc := 52) dX11_order_52 sc_X11_finding ml_X11_79 im_X11_finding se_X11_finding rfl rfl rfl (by decide) hP (fun x_12 h_13 hP => ?_)
      exact bz_retI (pc := 55) dX11_order_55 rfl rfl hP
    · have hP := hP.2 c
      refine bz_iload_n (pc := 27) dX11_order_27 rfl rfl ?_
      refine bz_bipush (v := 10) (pc := 28) dX11_order_28 (by decide) ?_
      refine bz_bipush (v := 120) (pc := 30) dX11_order_30 (by decide) ?_
      refine bz_kIS (as := [.inl x3, .inl 10, .inl 120]) (st := []) (pc := 32) dX11_order_32 sc_X11_isWithin ml_X11_74 ss_X11_isWithin rfl (by decide) hP (fun x_14 h_15 hP => ?_)
      refine bz_if_eq (tgt := 49) (pc := 35) dX11_order_35 (by decide) (fun c => ?_) (fun c => ?_)
      · have hP := hP.1 c
        refine bz_aload_n (pc := 49) dX11_order_49 rfl rfl ?_
        refine bz_ldc (pc := 50) dX11_order_50 ct_X11_78 ?_
        refine bz_kIV (as := [.inl (-1000001)]) (st := []) (ci := 11) (pc := 52) dX11_order_52 sc_X11_finding ml_X11_79 im_X11_finding se_X11_finding rfl rfl rfl (by decide) hP (fun x_16 h_17 hP => ?_)
        exact bz_retI (pc := 55) dX11_order_55 rfl rfl hP
      · have hP := hP.2 c
        refine bz_iload (pc := 38) dX11_order_38 rfl ?_
        refine bz_iconst (v := 0) (pc := 40) dX11_order_40 (by decide) ?_
        refine bz_bipush (v := 60) (pc := 41) dX11_order_41 (by decide) ?_
        refine bz_kIS (as := [.inl x4, .inl 0, .inl 60]) (st := []) (pc := 43) dX11_order_43 sc_X11_isWithin ml_X11_74 ss_X11_isWithin rfl (by decide) hP (fun x_18 h_19 hP => ?_)
        refine bz_if_ne (tgt := 56) (pc := 46) dX11_order_46 (by decide) (fun c => ?_) (fun c => ?_)
        · have hP := hP.1 c
          refine bz_aload_n (pc := 56) dX11_order_56 rfl rfl ?_
          refine bz_rw_rR (pc := 57) dX11_order_57 fl_X11_12 hP (fun r_20 hP => ?_)
          obtain ⟨a_21, rfl, hP⟩ := hP
          refine bz_rw_rI (pc := 60) dX11_order_60 fl_X11_125 hP (fun x_22 hP => ?_)
          refine bz_bipush (v := 24) (pc := 63) dX11_order_63 (by decide) ?_
          refine bz_icmp_lt (tgt := 75) (pc := 65) dX11_order_65 (by decide) (fun c => ?_) (fun c => ?_)
          · have hP := hP.1 c
            refine bz_aload_n (pc := 75) dX11_order_75 rfl rfl ?_
            refine bz_rw_rR (pc := 76) dX11_order_76 fl_X11_12 hP (fun r_23 hP => ?_)
            refine bz_iload_n (pc := 79) dX11_order_79 rfl rfl ?_
            refine bz_iload_n (pc := 80) dX11_order_80 rfl rfl ?_
            refine bz_iload_n (pc := 81) dX11_order_81 rfl rfl ?_
            refine bz_iload (pc := 82) dX11_order_82 rfl ?_
            obtain ⟨a_26, rfl, hP⟩ := hP
            refine bz_kVV (as := [.inl x1, .inl x2, .inl x3, .inl x4]) (st := []) (ci := 10) (pc := 84) dX11_order_84 sc_X10_addOrder ml_X11_128 im_X10_addOrder se_X10_addOrder rfl rfl rfl (by decide) hP (fun h_25 hP => ?_)
            refine bz_aload_n (pc := 87) dX11_order_87 rfl rfl ?_
            refine bz_rw_rR (pc := 88) dX11_order_88 fl_X11_12 hP (fun r_27 hP => ?_)
            obtain ⟨a_28, rfl, hP⟩ := hP
            refine bz_rw_rI (pc := 91) dX11_order_91 fl_X11_125 hP (fun x_29 hP => ?_)
            refine bz_iconst (v := 1) (pc := 94) dX11_order_94 (by decide) ?_
            refine bz_isub (pc := 95) dX11_order_95 ?_
            exact bz_retI (pc := 96) dX11_order_96 rfl rfl hP
          · have hP := hP.2 c
            refine bz_aload_n (pc := 68) dX11_order_68 rfl rfl ?_
            refine bz_ldc (pc := 69) dX11_order_69 ct_X11_118 ?_
            refine bz_kIV (as := [.inl (-1000002)]) (st := []) (ci := 11) (pc := 71) dX11_order_71 sc_X11_finding ml_X11_79 im_X11_finding se_X11_finding rfl rfl rfl (by decide) hP (fun x_30 h_31 hP => ?_)
            exact bz_retI (pc := 74) dX11_order_74 rfl rfl hP
        · have hP := hP.2 c
          refine bz_aload_n (pc := 49) dX11_order_49 rfl rfl ?_
          refine bz_ldc (pc := 50) dX11_order_50 ct_X11_78 ?_
          refine bz_kIV (as := [.inl (-1000001)]) (st := []) (ci := 11) (pc := 52) dX11_order_52 sc_X11_finding ml_X11_79 im_X11_finding se_X11_finding rfl rfl rfl (by decide) hP (fun x_32 h_33 hP => ?_)
          exact bz_retI (pc := 55) dX11_order_55 rfl rfl hP
theorem m_X11_order {G : bz_G} {l : Launch} {d mc ms : Nat} {F : Option bz_V → bz_H → Prop} (a0 : Nat) (x1 : Int32) (x2 : Int32) (x3 : Int32) (x4 : Int32) (h : bz_H) (hP : bz_rR h a0 11 0 (fun r_1 => bz_nn r_1 (fun a_2 => bz_rR h a_2 10 1 (fun r_3 => bz_nn r_3 (fun a_4 => bz_rI h a_4 4 1 (fun x_5 => bz_cI G l d kX11_isWithin [.inl x1, .inl 0, .inl (x_5 - 1)] h 0 0 (fun x_6 h_7 => (x_6 = 0 → bz_rc h_7 a0 11 (bz_cI G l d kX11_finding [.inr (some a0), .inl (-1000001)] h_7 0 0 (fun x_8 h_9 => F (some (.inl x_8)) h_9))) ∧ (¬ (x_6 = 0) → bz_cI G l d kX11_isCrossing [.inl x2] h_7 0 0 (fun x_10 h_11 => (x_10 = 0 → bz_rc h_11 a0 11 (bz_cI G l d kX11_finding [.inr (some a0), .inl (-1000001)] h_11 0 0 (fun x_12 h_13 => F (some (.inl x_12)) h_13))) ∧ (¬ (x_10 = 0) → bz_cI G l d kX11_isWithin [.inl x3, .inl 10, .inl 120] h_11 0 0 (fun x_14 h_15 => (x_14 = 0 → bz_rc h_15 a0 11 (bz_cI G l d kX11_finding [.inr (some a0), .inl (-1000001)] h_15 0 0 (fun x_16 h_17 => F (some (.inl x_16)) h_17))) ∧ (¬ (x_14 = 0) → bz_cI G l d kX11_isWithin [.inl x4, .inl 0, .inl 60] h_15 0 0 (fun x_18 h_19 => (¬ x_18 = 0 → bz_rR h_19 a0 11 0 (fun r_20 => bz_nn r_20 (fun a_21 => bz_rI h_19 a_21 10 9 (fun x_22 => (x_22 < 24 → bz_rR h_19 a0 11 0 (fun r_23 => bz_nn r_23 (fun a_26 => bz_rc h_19 a_26 10 (bz_cV G l d kX10_addOrder [.inr (some a_26), .inl x1, .inl x2, .inl x3, .inl x4] h_19 0 0 (fun h_25 => bz_rR h_25 a0 11 0 (fun r_27 => bz_nn r_27 (fun a_28 => bz_rI h_25 a_28 10 9 (fun x_29 => F (some (.inl (x_29 - 1))) h_25)))))))) ∧ (¬ (x_22 < 24) → bz_rc h_19 a0 11 (bz_cI G l d kX11_finding [.inr (some a0), .inl (-1000002)] h_19 0 0 (fun x_30 h_31 => F (some (.inl x_30)) h_31))))))) ∧ (x_18 = 0 → bz_rc h_19 a0 11 (bz_cI G l d kX11_finding [.inr (some a0), .inl (-1000001)] h_19 0 0 (fun x_32 h_33 => F (some (.inl x_32)) h_33)))))))))))))))) : bz_Call G l (d + 1) kX11_order [.inr (some a0), .inl x1, .inl x2, .inl x3, .inl x4] h mc ms F :=
  bz_body (by decide) (by decide) (fun κ hl => g_X11_order_0 hl a0 x1 x2 x3 x4 h hP)
set_option maxRecDepth 20000 in
set_option maxHeartbeats 4000000 in
theorem g_X11_planJoined_0 {G : bz_G} {κ : bz_K} {l : Launch} {d : Nat} {F : Option bz_V → bz_H → Prop} {bc bs : Nat} (hl : κ.2.1 = l) (a0 : Nat) (x1 : Int32) (x2 : Int32) (x3 : Int32) (h : bz_H) (hP : bz_rR h a0 11 0 (fun r_1 => bz_nn r_1 (fun a_4 => bz_rc h a_4 10 (bz_cR G l d kX10_riderAt [.inr (some a_4), .inl x1] h 0 0 (fun r_2 h_3 => bz_rR h_3 a0 11 0 (fun r_5 => bz_nn r_5 (fun a_8 => bz_rc h_3 a_8 10 (bz_cR G l d kX10_orderAt [.inr (some a_8), .inl x2] h_3 0 0 (fun r_6 h_7 => bz_rR h_7 a0 11 0 (fun r_9 => bz_nn r_9 (fun a_12 => bz_rc h_7 a_12 10 (bz_cR G l d kX10_orderAt [.inr (some a_12), .inl x3] h_7 0 0 (fun r_10 h_11 => (r_2 = none → F (some (.inl (-1000001))) h_11) ∧ (∀ a_13, r_2 = some a_13 → (r_6 = none → F (some (.inl (-1000001))) h_11) ∧ (∀ a_14, r_6 = some a_14 → (r_10 = none → F (some (.inl (-1000001))) h_11) ∧ (∀ a_15, r_10 = some a_15 → (¬ x2 = x3 → bz_rI h_11 a_14 2 7 (fun x_16 => (¬ x_16 = 0 → F (some (.inl (-1000005))) h_11) ∧ (x_16 = 0 → bz_rI h_11 a_15 2 7 (fun x_17 => (x_17 = 0 → bz_rR h_11 a0 11 6 (fun r_18 => bz_rI h_11 a_13 3 1 (fun x_19 => bz_rI h_11 a_13 3 4 (fun x_20 => bz_rR h_11 a0 11 0 (fun r_21 => bz_nn r_21 (fun a_22 => bz_rI h_11 a_22 10 12 (fun x_23 => bz_rc h_11 a_13 3 (bz_cI G l d kX3_startFrom [.inr (some a_13), .inl x_23] h_11 0 0 (fun x_24 h_25 => bz_nn r_18 (fun a_28 => bz_rc h_25 a_28 9 (bz_cV G l d kX9_setOut [.inr (some a_28), .inl x_19, .inl x_20, .inl x_24] h_25 0 0 (fun h_27 => bz_rR h_27 a0 11 6 (fun r_29 => bz_nn r_29 (fun a_32 => bz_rc h_27 a_32 9 (bz_cI G l d kX9_planTwo [.inr (some a_32), .inr (some a_14), .inr (some a_15)] h_27 0 0 (fun x_30 h_31 => (x_30 = 0 → F (some (.inl (-1000004))) h_31) ∧ (¬ (x_30 = 0) → F (some (.inl 0)) h_31))))))))))))))))) ∧ (¬ (x_17 = 0) → F (some (.inl (-1000005))) h_11))))) ∧ (x2 = x3 → F (some (.inl (-1000001))) h_11))))))))))))))))) : bz_J G κ kX11_planJoined (d + 1) F bc bs 0 [some (.inr (some a0)), some (.inl x1), some (.inl x2), some (.inl x3), none, none, none] [] h := by
  subst hl
  refine bz_aload_n (pc := 0) dX11_planJoined_0 rfl rfl ?_
  refine bz_rw_rR (pc := 1) dX11_planJoined_1 fl_X11_12 hP (fun r_1 hP => ?_)
  refine bz_iload_n (pc := 4) dX11_planJoined_4 rfl rfl ?_
  obtain ⟨a_4, rfl, hP⟩ := hP
  refine bz_kRV (as := [.inl x1]) (st := []) (ci := 10) (pc := 5) dX11_planJoined_5 sc_X10_riderAt ml_X11_179 im_X10_riderAt se_X10_riderAt rfl rfl rfl (by decide) hP (fun r_2 h_3 hP => ?_)
  refine bz_s_astore (pc := 8) dX11_planJoined_8 (by decide) [some (.inr (some a0)), some (.inl x1), some (.inl x2), some (.inl x3), some (.inr r_2), none, none] rfl ?_
  refine bz_aload_n (pc := 10) dX11_planJoined_10 rfl rfl ?_
  refine bz_rw_rR (pc := 11) dX11_planJoined_11 fl_X11_12 hP (fun r_5 hP => ?_)
  refine bz_iload_n (pc := 14) dX11_planJoined_14 rfl rfl ?_
  obtain ⟨a_8, rfl, hP⟩ := hP
  refine bz_kRV (as := [.inl x2]) (st := []) (ci := 10) (pc := 15) dX11_planJoined_15 sc_X10_orderAt ml_X11_132 im_X10_orderAt se_X10_orderAt rfl rfl rfl (by decide) hP (fun r_6 h_7 hP => ?_)
  refine bz_s_astore (pc := 18) dX11_planJoined_18 (by decide) [some (.inr (some a0)), some (.inl x1), some (.inl x2), some (.inl x3), some (.inr r_2), some (.inr r_6), none] rfl ?_
  refine bz_aload_n (pc := 20) dX11_planJoined_20 rfl rfl ?_
  refine bz_rw_rR (pc := 21) dX11_planJoined_21 fl_X11_12 hP (fun r_9 hP => ?_)
  refine bz_iload_n (pc := 24) dX11_planJoined_24 rfl rfl ?_
  obtain ⟨a_12, rfl, hP⟩ := hP
  refine bz_kRV (as := [.inl x3]) (st := []) (ci := 10) (pc := 25) dX11_planJoined_25 sc_X10_orderAt ml_X11_132 im_X10_orderAt se_X10_orderAt rfl rfl rfl (by decide) hP (fun r_10 h_11 hP => ?_)
  refine bz_s_astore (pc := 28) dX11_planJoined_28 (by decide) [some (.inr (some a0)), some (.inl x1), some (.inl x2), some (.inl x3), some (.inr r_2), some (.inr r_6), some (.inr r_10)] rfl ?_
  refine bz_aload (pc := 30) dX11_planJoined_30 rfl ?_
  refine bz_ifnull (tgt := 50) (pc := 32) dX11_planJoined_32 (by decide) (fun c => ?_) (fun a_13 c => ?_)
  · have hP := hP.1 c
    subst c
    refine bz_ldc (pc := 50) dX11_planJoined_50 ct_X11_78 ?_
    exact bz_retI (pc := 52) dX11_planJoined_52 rfl rfl hP
  · have hP := hP.2 a_13 c
    subst c
    refine bz_aload (pc := 35) dX11_planJoined_35 rfl ?_
    refine bz_ifnull (tgt := 50) (pc := 37) dX11_planJoined_37 (by decide) (fun c => ?_) (fun a_14 c => ?_)
    · have hP := hP.1 c
      subst c
      refine bz_ldc (pc := 50) dX11_planJoined_50 ct_X11_78 ?_
      exact bz_retI (pc := 52) dX11_planJoined_52 rfl rfl hP
    · have hP := hP.2 a_14 c
      subst c
      refine bz_aload (pc := 40) dX11_planJoined_40 rfl ?_
      refine bz_ifnull (tgt := 50) (pc := 42) dX11_planJoined_42 (by decide) (fun c => ?_) (fun a_15 c => ?_)
      · have hP := hP.1 c
        subst c
        refine bz_ldc (pc := 50) dX11_planJoined_50 ct_X11_78 ?_
        exact bz_retI (pc := 52) dX11_planJoined_52 rfl rfl hP
      · have hP := hP.2 a_15 c
        subst c
        refine bz_iload_n (pc := 45) dX11_planJoined_45 rfl rfl ?_
        refine bz_iload_n (pc := 46) dX11_planJoined_46 rfl rfl ?_
        refine bz_icmp_ne (tgt := 53) (pc := 47) dX11_planJoined_47 (by decide) (fun c => ?_) (fun c => ?_)
        · have hP := hP.1 c
          refine bz_aload (pc := 53) dX11_planJoined_53 rfl ?_
          refine bz_rw_rI (pc := 55) dX11_planJoined_55 fl_X11_136 hP (fun x_16 hP => ?_)
          refine bz_if_ne (tgt := 69) (pc := 58) dX11_planJoined_58 (by decide) (fun c => ?_) (fun c => ?_)
          · have hP := hP.1 c
            refine bz_ldc (pc := 69) dX11_planJoined_69 ct_X11_107 ?_
            exact bz_retI (pc := 71) dX11_planJoined_71 rfl rfl hP
          · have hP := hP.2 c
            refine bz_aload (pc := 61) dX11_planJoined_61 rfl ?_
            refine bz_rw_rI (pc := 63) dX11_planJoined_63 fl_X11_136 hP (fun x_17 hP => ?_)
            refine bz_if_eq (tgt := 72) (pc := 66) dX11_planJoined_66 (by decide) (fun c => ?_) (fun c => ?_)
            · have hP := hP.1 c
              refine bz_aload_n (pc := 72) dX11_planJoined_72 rfl rfl ?_
              refine bz_rw_rR (pc := 73) dX11_planJoined_73 fl_X11_50 hP (fun r_18 hP => ?_)
              refine bz_aload (pc := 76) dX11_planJoined_76 rfl ?_
              refine bz_rw_rI (pc := 78) dX11_planJoined_78 fl_X11_183 hP (fun x_19 hP => ?_)
              refine bz_aload (pc := 81) dX11_planJoined_81 rfl ?_
              refine bz_rw_rI (pc := 83) dX11_planJoined_83 fl_X11_188 hP (fun x_20 hP => ?_)
              refine bz_aload (pc := 86) dX11_planJoined_86 rfl ?_
              refine bz_aload_n (pc := 88) dX11_planJoined_88 rfl rfl ?_
              refine bz_rw_rR (pc := 89) dX11_planJoined_89 fl_X11_12 hP (fun r_21 hP => ?_)
              obtain ⟨a_22, rfl, hP⟩ := hP
              refine bz_rw_rI (pc := 92) dX11_planJoined_92 fl_X11_103 hP (fun x_23 hP => ?_)
              refine bz_kIV (as := [.inl x_23]) (st := [.inl x_20, .inl x_19, .inr r_18]) (ci := 3) (pc := 95) dX11_planJoined_95 sc_X3_startFrom ml_X11_212 im_X3_startFrom se_X3_startFrom rfl rfl rfl (by decide) hP (fun x_24 h_25 hP => ?_)
              obtain ⟨a_28, rfl, hP⟩ := hP
              refine bz_kVV (as := [.inl x_19, .inl x_20, .inl x_24]) (st := []) (ci := 9) (pc := 98) dX11_planJoined_98 sc_X9_setOut ml_X11_420 im_X9_setOut se_X9_setOut rfl rfl rfl (by decide) hP (fun h_27 hP => ?_)
              refine bz_aload_n (pc := 101) dX11_planJoined_101 rfl rfl ?_
              refine bz_rw_rR (pc := 102) dX11_planJoined_102 fl_X11_50 hP (fun r_29 hP => ?_)
              refine bz_aload (pc := 105) dX11_planJoined_105 rfl ?_
              refine bz_aload (pc := 107) dX11_planJoined_107 rfl ?_
              obtain ⟨a_32, rfl, hP⟩ := hP
              refine bz_kIV (as := [.inr (some a_14), .inr (some a_15)]) (st := []) (ci := 9) (pc := 109) dX11_planJoined_109 sc_X9_planTwo ml_X11_423 im_X9_planTwo se_X9_planTwo rfl rfl rfl (by decide) hP (fun x_30 h_31 hP => ?_)
              refine bz_if_eq (tgt := 119) (pc := 112) dX11_planJoined_112 (by decide) (fun c => ?_) (fun c => ?_)
              · have hP := hP.1 c
                refine bz_ldc (pc := 119) dX11_planJoined_119 ct_X11_102 ?_
                exact bz_retI (pc := 121) dX11_planJoined_121 rfl rfl hP
              · have hP := hP.2 c
                refine bz_iconst (v := 0) (pc := 115) dX11_planJoined_115 (by decide) ?_
                refine bz_goto (tgt := 121) (pc := 116) dX11_planJoined_116 (by decide) ?_
                exact bz_retI (pc := 121) dX11_planJoined_121 rfl rfl hP
            · have hP := hP.2 c
              refine bz_ldc (pc := 69) dX11_planJoined_69 ct_X11_107 ?_
              exact bz_retI (pc := 71) dX11_planJoined_71 rfl rfl hP
        · have hP := hP.2 c
          refine bz_ldc (pc := 50) dX11_planJoined_50 ct_X11_78 ?_
          exact bz_retI (pc := 52) dX11_planJoined_52 rfl rfl hP
theorem m_X11_planJoined {G : bz_G} {l : Launch} {d mc ms : Nat} {F : Option bz_V → bz_H → Prop} (a0 : Nat) (x1 : Int32) (x2 : Int32) (x3 : Int32) (h : bz_H) (hP : bz_rR h a0 11 0 (fun r_1 => bz_nn r_1 (fun a_4 => bz_rc h a_4 10 (bz_cR G l d kX10_riderAt [.inr (some a_4), .inl x1] h 0 0 (fun r_2 h_3 => bz_rR h_3 a0 11 0 (fun r_5 => bz_nn r_5 (fun a_8 => bz_rc h_3 a_8 10 (bz_cR G l d kX10_orderAt [.inr (some a_8), .inl x2] h_3 0 0 (fun r_6 h_7 => bz_rR h_7 a0 11 0 (fun r_9 => bz_nn r_9 (fun a_12 => bz_rc h_7 a_12 10 (bz_cR G l d kX10_orderAt [.inr (some a_12), .inl x3] h_7 0 0 (fun r_10 h_11 => (r_2 = none → F (some (.inl (-1000001))) h_11) ∧ (∀ a_13, r_2 = some a_13 → (r_6 = none → F (some (.inl (-1000001))) h_11) ∧ (∀ a_14, r_6 = some a_14 → (r_10 = none → F (some (.inl (-1000001))) h_11) ∧ (∀ a_15, r_10 = some a_15 → (¬ x2 = x3 → bz_rI h_11 a_14 2 7 (fun x_16 => (¬ x_16 = 0 → F (some (.inl (-1000005))) h_11) ∧ (x_16 = 0 → bz_rI h_11 a_15 2 7 (fun x_17 => (x_17 = 0 → bz_rR h_11 a0 11 6 (fun r_18 => bz_rI h_11 a_13 3 1 (fun x_19 => bz_rI h_11 a_13 3 4 (fun x_20 => bz_rR h_11 a0 11 0 (fun r_21 => bz_nn r_21 (fun a_22 => bz_rI h_11 a_22 10 12 (fun x_23 => bz_rc h_11 a_13 3 (bz_cI G l d kX3_startFrom [.inr (some a_13), .inl x_23] h_11 0 0 (fun x_24 h_25 => bz_nn r_18 (fun a_28 => bz_rc h_25 a_28 9 (bz_cV G l d kX9_setOut [.inr (some a_28), .inl x_19, .inl x_20, .inl x_24] h_25 0 0 (fun h_27 => bz_rR h_27 a0 11 6 (fun r_29 => bz_nn r_29 (fun a_32 => bz_rc h_27 a_32 9 (bz_cI G l d kX9_planTwo [.inr (some a_32), .inr (some a_14), .inr (some a_15)] h_27 0 0 (fun x_30 h_31 => (x_30 = 0 → F (some (.inl (-1000004))) h_31) ∧ (¬ (x_30 = 0) → F (some (.inl 0)) h_31))))))))))))))))) ∧ (¬ (x_17 = 0) → F (some (.inl (-1000005))) h_11))))) ∧ (x2 = x3 → F (some (.inl (-1000001))) h_11))))))))))))))))) : bz_Call G l (d + 1) kX11_planJoined [.inr (some a0), .inl x1, .inl x2, .inl x3] h mc ms F :=
  bz_body (by decide) (by decide) (fun κ hl => g_X11_planJoined_0 hl a0 x1 x2 x3 h hP)
set_option maxRecDepth 20000 in
set_option maxHeartbeats 4000000 in
theorem g_X11_rain_0 {G : bz_G} {κ : bz_K} {l : Launch} {d : Nat} {F : Option bz_V → bz_H → Prop} {bc bs : Nat} (hl : κ.2.1 = l) (a0 : Nat) (x1 : Int32) (x2 : Int32) (x3 : Int32) (h : bz_H) (hP : bz_cI G l d kX11_isMinute [.inl x1] h 0 0 (fun x_1 h_2 => (x_1 = 0 → bz_rc h_2 a0 11 (bz_cI G l d kX11_finding [.inr (some a0), .inl (-1000001)] h_2 0 0 (fun x_3 h_4 => F (some (.inl x_3)) h_4))) ∧ (¬ (x_1 = 0) → bz_cI G l d kX11_isMinute [.inl x2] h_2 0 0 (fun x_5 h_6 => (x_5 = 0 → bz_rc h_6 a0 11 (bz_cI G l d kX11_finding [.inr (some a0), .inl (-1000001)] h_6 0 0 (fun x_7 h_8 => F (some (.inl x_7)) h_8))) ∧ (¬ (x_5 = 0) → (x2 < x1 → bz_rc h_6 a0 11 (bz_cI G l d kX11_finding [.inr (some a0), .inl (-1000001)] h_6 0 0 (fun x_9 h_10 => F (some (.inl x_9)) h_10))) ∧ (¬ (x2 < x1) → bz_cI G l d kX11_isWithin [.inl x3, .inl 1, .inl 99] h_6 0 0 (fun x_11 h_12 => (¬ x_11 = 0 → bz_rR h_12 a0 11 0 (fun r_13 => bz_nn r_13 (fun a_14 => bz_rR h_12 a_14 10 6 (fun r_15 => bz_nn r_15 (fun a_18 => bz_rc h_12 a_18 4 (bz_cI G l d kX4_isFull [.inr (some a_18)] h_12 0 0 (fun x_16 h_17 => (x_16 = 0 → bz_rR h_17 a0 11 0 (fun r_19 => bz_nn r_19 (fun a_20 => bz_rR h_17 a_20 10 6 (fun r_21 => bz_nn r_21 (fun a_24 => bz_rc h_17 a_24 4 (bz_cI G l d kX4_add [.inr (some a_24), .inl x1, .inl x2, .inl x3] h_17 0 0 (fun x_22 h_23 => F (some (.inl x_22)) h_23))))))) ∧ (¬ (x_16 = 0) → bz_rc h_17 a0 11 (bz_cI G l d kX11_finding [.inr (some a0), .inl (-1000002)] h_17 0 0 (fun x_25 h_26 => F (some (.inl x_25)) h_26)))))))))) ∧ (x_11 = 0 → bz_rc h_12 a0 11 (bz_cI G l d kX11_finding [.inr (some a0), .inl (-1000001)] h_12 0 0 (fun x_27 h_28 => F (some (.inl x_27)) h_28)))))))))) : bz_J G κ kX11_rain (d + 1) F bc bs 0 [some (.inr (some a0)), some (.inl x1), some (.inl x2), some (.inl x3)] [] h := by
  subst hl
  refine bz_iload_n (pc := 0) dX11_rain_0 rfl rfl ?_
  refine bz_kIS (as := [.inl x1]) (st := []) (pc := 1) dX11_rain_1 sc_X11_isMinute ml_X11_313 ss_X11_isMinute rfl (by decide) hP (fun x_1 h_2 hP => ?_)
  refine bz_if_eq (tgt := 29) (pc := 4) dX11_rain_4 (by decide) (fun c => ?_) (fun c => ?_)
  · have hP := hP.1 c
    refine bz_aload_n (pc := 29) dX11_rain_29 rfl rfl ?_
    refine bz_ldc (pc := 30) dX11_rain_30 ct_X11_78 ?_
    refine bz_kIV (as := [.inl (-1000001)]) (st := []) (ci := 11) (pc := 32) dX11_rain_32 sc_X11_finding ml_X11_79 im_X11_finding se_X11_finding rfl rfl rfl (by decide) hP (fun x_3 h_4 hP => ?_)
    exact bz_retI (pc := 35) dX11_rain_35 rfl rfl hP
  · have hP := hP.2 c
    refine bz_iload_n (pc := 7) dX11_rain_7 rfl rfl ?_
    refine bz_kIS (as := [.inl x2]) (st := []) (pc := 8) dX11_rain_8 sc_X11_isMinute ml_X11_313 ss_X11_isMinute rfl (by decide) hP (fun x_5 h_6 hP => ?_)
    refine bz_if_eq (tgt := 29) (pc := 11) dX11_rain_11 (by decide) (fun c => ?_) (fun c => ?_)
    · have hP := hP.1 c
      refine bz_aload_n (pc := 29) dX11_rain_29 rfl rfl ?_
      refine bz_ldc (pc := 30) dX11_rain_30 ct_X11_78 ?_
      refine bz_kIV (as := [.inl (-1000001)]) (st := []) (ci := 11) (pc := 32) dX11_rain_32 sc_X11_finding ml_X11_79 im_X11_finding se_X11_finding rfl rfl rfl (by decide) hP (fun x_7 h_8 hP => ?_)
      exact bz_retI (pc := 35) dX11_rain_35 rfl rfl hP
    · have hP := hP.2 c
      refine bz_iload_n (pc := 14) dX11_rain_14 rfl rfl ?_
      refine bz_iload_n (pc := 15) dX11_rain_15 rfl rfl ?_
      refine bz_icmp_lt (tgt := 29) (pc := 16) dX11_rain_16 (by decide) (fun c => ?_) (fun c => ?_)
      · have hP := hP.1 c
        refine bz_aload_n (pc := 29) dX11_rain_29 rfl rfl ?_
        refine bz_ldc (pc := 30) dX11_rain_30 ct_X11_78 ?_
        refine bz_kIV (as := [.inl (-1000001)]) (st := []) (ci := 11) (pc := 32) dX11_rain_32 sc_X11_finding ml_X11_79 im_X11_finding se_X11_finding rfl rfl rfl (by decide) hP (fun x_9 h_10 hP => ?_)
        exact bz_retI (pc := 35) dX11_rain_35 rfl rfl hP
      · have hP := hP.2 c
        refine bz_iload_n (pc := 19) dX11_rain_19 rfl rfl ?_
        refine bz_iconst (v := 1) (pc := 20) dX11_rain_20 (by decide) ?_
        refine bz_bipush (v := 99) (pc := 21) dX11_rain_21 (by decide) ?_
        refine bz_kIS (as := [.inl x3, .inl 1, .inl 99]) (st := []) (pc := 23) dX11_rain_23 sc_X11_isWithin ml_X11_74 ss_X11_isWithin rfl (by decide) hP (fun x_11 h_12 hP => ?_)
        refine bz_if_ne (tgt := 36) (pc := 26) dX11_rain_26 (by decide) (fun c => ?_) (fun c => ?_)
        · have hP := hP.1 c
          refine bz_aload_n (pc := 36) dX11_rain_36 rfl rfl ?_
          refine bz_rw_rR (pc := 37) dX11_rain_37 fl_X11_12 hP (fun r_13 hP => ?_)
          obtain ⟨a_14, rfl, hP⟩ := hP
          refine bz_rw_rR (pc := 40) dX11_rain_40 fl_X11_316 hP (fun r_15 hP => ?_)
          obtain ⟨a_18, rfl, hP⟩ := hP
          refine bz_kIV (as := []) (st := []) (ci := 4) (pc := 43) dX11_rain_43 sc_X4_isFull ml_X11_112 im_X4_isFull se_X4_isFull rfl rfl rfl (by decide) hP (fun x_16 h_17 hP => ?_)
          refine bz_if_eq (tgt := 56) (pc := 46) dX11_rain_46 (by decide) (fun c => ?_) (fun c => ?_)
          · have hP := hP.1 c
            refine bz_aload_n (pc := 56) dX11_rain_56 rfl rfl ?_
            refine bz_rw_rR (pc := 57) dX11_rain_57 fl_X11_12 hP (fun r_19 hP => ?_)
            obtain ⟨a_20, rfl, hP⟩ := hP
            refine bz_rw_rR (pc := 60) dX11_rain_60 fl_X11_316 hP (fun r_21 hP => ?_)
            refine bz_iload_n (pc := 63) dX11_rain_63 rfl rfl ?_
            refine bz_iload_n (pc := 64) dX11_rain_64 rfl rfl ?_
            refine bz_iload_n (pc := 65) dX11_rain_65 rfl rfl ?_
            obtain ⟨a_24, rfl, hP⟩ := hP
            refine bz_kIV (as := [.inl x1, .inl x2, .inl x3]) (st := []) (ci := 4) (pc := 66) dX11_rain_66 sc_X4_add ml_X11_119 im_X4_add se_X4_add rfl rfl rfl (by decide) hP (fun x_22 h_23 hP => ?_)
            exact bz_retI (pc := 69) dX11_rain_69 rfl rfl hP
          · have hP := hP.2 c
            refine bz_aload_n (pc := 49) dX11_rain_49 rfl rfl ?_
            refine bz_ldc (pc := 50) dX11_rain_50 ct_X11_118 ?_
            refine bz_kIV (as := [.inl (-1000002)]) (st := []) (ci := 11) (pc := 52) dX11_rain_52 sc_X11_finding ml_X11_79 im_X11_finding se_X11_finding rfl rfl rfl (by decide) hP (fun x_25 h_26 hP => ?_)
            exact bz_retI (pc := 55) dX11_rain_55 rfl rfl hP
        · have hP := hP.2 c
          refine bz_aload_n (pc := 29) dX11_rain_29 rfl rfl ?_
          refine bz_ldc (pc := 30) dX11_rain_30 ct_X11_78 ?_
          refine bz_kIV (as := [.inl (-1000001)]) (st := []) (ci := 11) (pc := 32) dX11_rain_32 sc_X11_finding ml_X11_79 im_X11_finding se_X11_finding rfl rfl rfl (by decide) hP (fun x_27 h_28 hP => ?_)
          exact bz_retI (pc := 35) dX11_rain_35 rfl rfl hP
theorem m_X11_rain {G : bz_G} {l : Launch} {d mc ms : Nat} {F : Option bz_V → bz_H → Prop} (a0 : Nat) (x1 : Int32) (x2 : Int32) (x3 : Int32) (h : bz_H) (hP : bz_cI G l d kX11_isMinute [.inl x1] h 0 0 (fun x_1 h_2 => (x_1 = 0 → bz_rc h_2 a0 11 (bz_cI G l d kX11_finding [.inr (some a0), .inl (-1000001)] h_2 0 0 (fun x_3 h_4 => F (some (.inl x_3)) h_4))) ∧ (¬ (x_1 = 0) → bz_cI G l d kX11_isMinute [.inl x2] h_2 0 0 (fun x_5 h_6 => (x_5 = 0 → bz_rc h_6 a0 11 (bz_cI G l d kX11_finding [.inr (some a0), .inl (-1000001)] h_6 0 0 (fun x_7 h_8 => F (some (.inl x_7)) h_8))) ∧ (¬ (x_5 = 0) → (x2 < x1 → bz_rc h_6 a0 11 (bz_cI G l d kX11_finding [.inr (some a0), .inl (-1000001)] h_6 0 0 (fun x_9 h_10 => F (some (.inl x_9)) h_10))) ∧ (¬ (x2 < x1) → bz_cI G l d kX11_isWithin [.inl x3, .inl 1, .inl 99] h_6 0 0 (fun x_11 h_12 => (¬ x_11 = 0 → bz_rR h_12 a0 11 0 (fun r_13 => bz_nn r_13 (fun a_14 => bz_rR h_12 a_14 10 6 (fun r_15 => bz_nn r_15 (fun a_18 => bz_rc h_12 a_18 4 (bz_cI G l d kX4_isFull [.inr (some a_18)] h_12 0 0 (fun x_16 h_17 => (x_16 = 0 → bz_rR h_17 a0 11 0 (fun r_19 => bz_nn r_19 (fun a_20 => bz_rR h_17 a_20 10 6 (fun r_21 => bz_nn r_21 (fun a_24 => bz_rc h_17 a_24 4 (bz_cI G l d kX4_add [.inr (some a_24), .inl x1, .inl x2, .inl x3] h_17 0 0 (fun x_22 h_23 => F (some (.inl x_22)) h_23))))))) ∧ (¬ (x_16 = 0) → bz_rc h_17 a0 11 (bz_cI G l d kX11_finding [.inr (some a0), .inl (-1000002)] h_17 0 0 (fun x_25 h_26 => F (some (.inl x_25)) h_26)))))))))) ∧ (x_11 = 0 → bz_rc h_12 a0 11 (bz_cI G l d kX11_finding [.inr (some a0), .inl (-1000001)] h_12 0 0 (fun x_27 h_28 => F (some (.inl x_27)) h_28)))))))))) : bz_Call G l (d + 1) kX11_rain [.inr (some a0), .inl x1, .inl x2, .inl x3] h mc ms F :=
  bz_body (by decide) (by decide) (fun κ hl => g_X11_rain_0 hl a0 x1 x2 x3 h hP)
set_option maxRecDepth 20000 in
set_option maxHeartbeats 4000000 in
theorem g_X11_refuse_0 {G : bz_G} {κ : bz_K} {l : Launch} {d : Nat} {F : Option bz_V → bz_H → Prop} {bc bs : Nat} (hl : κ.2.1 = l) (a0 : Nat) (x1 : Int32) (x2 : Int32) (h : bz_H) (hP : bz_rR h a0 11 0 (fun r_1 => bz_nn r_1 (fun a_4 => bz_rc h a_4 10 (bz_cR G l d kX10_riderAt [.inr (some a_4), .inl x1] h 0 0 (fun r_2 h_3 => bz_rR h_3 a0 11 0 (fun r_5 => bz_nn r_5 (fun a_8 => bz_rc h_3 a_8 10 (bz_cR G l d kX10_orderAt [.inr (some a_8), .inl x2] h_3 0 0 (fun r_6 h_7 => (r_2 = none → bz_rc h_7 a0 11 (bz_cI G l d kX11_finding [.inr (some a0), .inl (-1000001)] h_7 0 0 (fun x_10 h_11 => F (some (.inl x_10)) h_11))) ∧ (∀ a_9, r_2 = some a_9 → (∀ a_12, r_6 = some a_12 → bz_rI h_7 a_12 2 7 (fun x_15 => (¬ x_15 = 0 → bz_rc h_7 a0 11 (bz_cI G l d kX11_finding [.inr (some a0), .inl (-1000005)] h_7 0 0 (fun x_16 h_17 => F (some (.inl x_16)) h_17))) ∧ (x_15 = 0 → bz_rc h_7 a_12 2 (bz_cI G l d kX2_isRefusedBy [.inr (some a_12), .inl x1] h_7 0 0 (fun x_18 h_19 => (x_18 = 0 → bz_rI h_19 a_12 2 14 (fun x_20 => bz_wI h_19 a_12 2 14 (x_20 ||| (1 <<< (x1 &&& 31))) (fun h_21 => bz_rI h_21 a_9 3 7 (fun x_22 => bz_wI h_21 a_9 3 7 (x_22 + 1) (fun h_23 => bz_rI h_23 a_9 3 7 (fun x_24 => F (some (.inl x_24)) h_23)))))) ∧ (¬ (x_18 = 0) → bz_rc h_19 a0 11 (bz_cI G l d kX11_finding [.inr (some a0), .inl (-1000005)] h_19 0 0 (fun x_25 h_26 => F (some (.inl x_25)) h_26)))))))) ∧ (r_6 = none → bz_rc h_7 a0 11 (bz_cI G l d kX11_finding [.inr (some a0), .inl (-1000001)] h_7 0 0 (fun x_13 h_14 => F (some (.inl x_13)) h_14))))))))))))) : bz_J G κ kX11_refuse (d + 1) F bc bs 0 [some (.inr (some a0)), some (.inl x1), some (.inl x2), none, none] [] h := by
  subst hl
  refine bz_aload_n (pc := 0) dX11_refuse_0 rfl rfl ?_
  refine bz_rw_rR (pc := 1) dX11_refuse_1 fl_X11_12 hP (fun r_1 hP => ?_)
  refine bz_iload_n (pc := 4) dX11_refuse_4 rfl rfl ?_
  obtain ⟨a_4, rfl, hP⟩ := hP
  refine bz_kRV (as := [.inl x1]) (st := []) (ci := 10) (pc := 5) dX11_refuse_5 sc_X10_riderAt ml_X11_179 im_X10_riderAt se_X10_riderAt rfl rfl rfl (by decide) hP (fun r_2 h_3 hP => ?_)
  refine bz_s_astore_n (pc := 8) dX11_refuse_8 rfl (by decide) [some (.inr (some a0)), some (.inl x1), some (.inl x2), some (.inr r_2), none] rfl ?_
  refine bz_aload_n (pc := 9) dX11_refuse_9 rfl rfl ?_
  refine bz_rw_rR (pc := 10) dX11_refuse_10 fl_X11_12 hP (fun r_5 hP => ?_)
  refine bz_iload_n (pc := 13) dX11_refuse_13 rfl rfl ?_
  obtain ⟨a_8, rfl, hP⟩ := hP
  refine bz_kRV (as := [.inl x2]) (st := []) (ci := 10) (pc := 14) dX11_refuse_14 sc_X10_orderAt ml_X11_132 im_X10_orderAt se_X10_orderAt rfl rfl rfl (by decide) hP (fun r_6 h_7 hP => ?_)
  refine bz_s_astore (pc := 17) dX11_refuse_17 (by decide) [some (.inr (some a0)), some (.inl x1), some (.inl x2), some (.inr r_2), some (.inr r_6)] rfl ?_
  refine bz_aload_n (pc := 19) dX11_refuse_19 rfl rfl ?_
  refine bz_ifnull (tgt := 28) (pc := 20) dX11_refuse_20 (by decide) (fun c => ?_) (fun a_9 c => ?_)
  · have hP := hP.1 c
    subst c
    refine bz_aload_n (pc := 28) dX11_refuse_28 rfl rfl ?_
    refine bz_ldc (pc := 29) dX11_refuse_29 ct_X11_78 ?_
    refine bz_kIV (as := [.inl (-1000001)]) (st := []) (ci := 11) (pc := 31) dX11_refuse_31 sc_X11_finding ml_X11_79 im_X11_finding se_X11_finding rfl rfl rfl (by decide) hP (fun x_10 h_11 hP => ?_)
    exact bz_retI (pc := 34) dX11_refuse_34 rfl rfl hP
  · have hP := hP.2 a_9 c
    subst c
    refine bz_aload (pc := 23) dX11_refuse_23 rfl ?_
    refine bz_ifnonnull (tgt := 35) (pc := 25) dX11_refuse_25 (by decide) (fun a_12 c => ?_) (fun c => ?_)
    · have hP := hP.1 a_12 c
      subst c
      refine bz_aload (pc := 35) dX11_refuse_35 rfl ?_
      refine bz_rw_rI (pc := 37) dX11_refuse_37 fl_X11_136 hP (fun x_15 hP => ?_)
      refine bz_if_ne (tgt := 52) (pc := 40) dX11_refuse_40 (by decide) (fun c => ?_) (fun c => ?_)
      · have hP := hP.1 c
        refine bz_aload_n (pc := 52) dX11_refuse_52 rfl rfl ?_
        refine bz_ldc (pc := 53) dX11_refuse_53 ct_X11_107 ?_
        refine bz_kIV (as := [.inl (-1000005)]) (st := []) (ci := 11) (pc := 55) dX11_refuse_55 sc_X11_finding ml_X11_79 im_X11_finding se_X11_finding rfl rfl rfl (by decide) hP (fun x_16 h_17 hP => ?_)
        exact bz_retI (pc := 58) dX11_refuse_58 rfl rfl hP
      · have hP := hP.2 c
        refine bz_aload (pc := 43) dX11_refuse_43 rfl ?_
        refine bz_iload_n (pc := 45) dX11_refuse_45 rfl rfl ?_
        refine bz_kIV (as := [.inl x1]) (st := []) (ci := 2) (pc := 46) dX11_refuse_46 sc_X2_isRefusedBy ml_X11_300 im_X2_isRefusedBy se_X2_isRefusedBy rfl rfl rfl (by decide) hP (fun x_18 h_19 hP => ?_)
        refine bz_if_eq (tgt := 59) (pc := 49) dX11_refuse_49 (by decide) (fun c => ?_) (fun c => ?_)
        · have hP := hP.1 c
          refine bz_aload (pc := 59) dX11_refuse_59 rfl ?_
          refine bz_dup (pc := 61) dX11_refuse_61 ?_
          refine bz_rw_rI (pc := 62) dX11_refuse_62 fl_X11_303 hP (fun x_20 hP => ?_)
          refine bz_iconst (v := 1) (pc := 65) dX11_refuse_65 (by decide) ?_
          refine bz_iload_n (pc := 66) dX11_refuse_66 rfl rfl ?_
          refine bz_ishl (pc := 67) dX11_refuse_67 ?_
          refine bz_ior (pc := 68) dX11_refuse_68 ?_
          refine bz_rw_wI (pc := 69) dX11_refuse_69 fl_X11_303 (fun q h9 => by cases h9; rfl) rfl hP (fun h_21 hP => ?_)
          refine bz_aload_n (pc := 72) dX11_refuse_72 rfl rfl ?_
          refine bz_dup (pc := 73) dX11_refuse_73 ?_
          refine bz_rw_rI (pc := 74) dX11_refuse_74 fl_X11_206 hP (fun x_22 hP => ?_)
          refine bz_iconst (v := 1) (pc := 77) dX11_refuse_77 (by decide) ?_
          refine bz_iadd (pc := 78) dX11_refuse_78 ?_
          refine bz_rw_wI (pc := 79) dX11_refuse_79 fl_X11_206 (fun q h9 => by cases h9; rfl) rfl hP (fun h_23 hP => ?_)
          refine bz_aload_n (pc := 82) dX11_refuse_82 rfl rfl ?_
          refine bz_rw_rI (pc := 83) dX11_refuse_83 fl_X11_206 hP (fun x_24 hP => ?_)
          exact bz_retI (pc := 86) dX11_refuse_86 rfl rfl hP
        · have hP := hP.2 c
          refine bz_aload_n (pc := 52) dX11_refuse_52 rfl rfl ?_
          refine bz_ldc (pc := 53) dX11_refuse_53 ct_X11_107 ?_
          refine bz_kIV (as := [.inl (-1000005)]) (st := []) (ci := 11) (pc := 55) dX11_refuse_55 sc_X11_finding ml_X11_79 im_X11_finding se_X11_finding rfl rfl rfl (by decide) hP (fun x_25 h_26 hP => ?_)
          exact bz_retI (pc := 58) dX11_refuse_58 rfl rfl hP
    · have hP := hP.2 c
      subst c
      refine bz_aload_n (pc := 28) dX11_refuse_28 rfl rfl ?_
      refine bz_ldc (pc := 29) dX11_refuse_29 ct_X11_78 ?_
      refine bz_kIV (as := [.inl (-1000001)]) (st := []) (ci := 11) (pc := 31) dX11_refuse_31 sc_X11_finding ml_X11_79 im_X11_finding se_X11_finding rfl rfl rfl (by decide) hP (fun x_13 h_14 hP => ?_)
      exact bz_retI (pc := 34) dX11_refuse_34 rfl rfl hP
theorem m_X11_refuse {G : bz_G} {l : Launch} {d mc ms : Nat} {F : Option bz_V → bz_H → Prop} (a0 : Nat) (x1 : Int32) (x2 : Int32) (h : bz_H) (hP : bz_rR h a0 11 0 (fun r_1 => bz_nn r_1 (fun a_4 => bz_rc h a_4 10 (bz_cR G l d kX10_riderAt [.inr (some a_4), .inl x1] h 0 0 (fun r_2 h_3 => bz_rR h_3 a0 11 0 (fun r_5 => bz_nn r_5 (fun a_8 => bz_rc h_3 a_8 10 (bz_cR G l d kX10_orderAt [.inr (some a_8), .inl x2] h_3 0 0 (fun r_6 h_7 => (r_2 = none → bz_rc h_7 a0 11 (bz_cI G l d kX11_finding [.inr (some a0), .inl (-1000001)] h_7 0 0 (fun x_10 h_11 => F (some (.inl x_10)) h_11))) ∧ (∀ a_9, r_2 = some a_9 → (∀ a_12, r_6 = some a_12 → bz_rI h_7 a_12 2 7 (fun x_15 => (¬ x_15 = 0 → bz_rc h_7 a0 11 (bz_cI G l d kX11_finding [.inr (some a0), .inl (-1000005)] h_7 0 0 (fun x_16 h_17 => F (some (.inl x_16)) h_17))) ∧ (x_15 = 0 → bz_rc h_7 a_12 2 (bz_cI G l d kX2_isRefusedBy [.inr (some a_12), .inl x1] h_7 0 0 (fun x_18 h_19 => (x_18 = 0 → bz_rI h_19 a_12 2 14 (fun x_20 => bz_wI h_19 a_12 2 14 (x_20 ||| (1 <<< (x1 &&& 31))) (fun h_21 => bz_rI h_21 a_9 3 7 (fun x_22 => bz_wI h_21 a_9 3 7 (x_22 + 1) (fun h_23 => bz_rI h_23 a_9 3 7 (fun x_24 => F (some (.inl x_24)) h_23)))))) ∧ (¬ (x_18 = 0) → bz_rc h_19 a0 11 (bz_cI G l d kX11_finding [.inr (some a0), .inl (-1000005)] h_19 0 0 (fun x_25 h_26 => F (some (.inl x_25)) h_26)))))))) ∧ (r_6 = none → bz_rc h_7 a0 11 (bz_cI G l d kX11_finding [.inr (some a0), .inl (-1000001)] h_7 0 0 (fun x_13 h_14 => F (some (.inl x_13)) h_14))))))))))))) : bz_Call G l (d + 1) kX11_refuse [.inr (some a0), .inl x1, .inl x2] h mc ms F :=
  bz_body (by decide) (by decide) (fun κ hl => g_X11_refuse_0 hl a0 x1 x2 h hP)
set_option maxRecDepth 20000 in
set_option maxHeartbeats 4000000 in
theorem g_X11_riderOf_0 {G : bz_G} {κ : bz_K} {l : Launch} {d : Nat} {F : Option bz_V → bz_H → Prop} {bc bs : Nat} (hl : κ.2.1 = l) (a0 : Nat) (x1 : Int32) (x2 : Int32) (h : bz_H) (hP : bz_rR h a0 11 0 (fun r_1 => bz_nn r_1 (fun a_4 => bz_rc h a_4 10 (bz_cR G l d kX10_riderAt [.inr (some a_4), .inl x1] h 0 0 (fun r_2 h_3 => (r_2 = none → bz_rc h_3 a0 11 (bz_cI G l d kX11_finding [.inr (some a0), .inl (-1000001)] h_3 0 0 (fun x_6 h_7 => F (some (.inl x_6)) h_7))) ∧ (∀ a_5, r_2 = some a_5 → bz_cI G l d kX11_isWithin [.inl x2, .inl 0, .inl 7] h_3 0 0 (fun x_8 h_9 => (¬ x_8 = 0 → (x2 = 0 → bz_rI h_9 a_5 3 1 (fun x_10 => F (some (.inl x_10)) h_9)) ∧ (¬ x2 = 0 → (x2 = 1 → bz_rI h_9 a_5 3 4 (fun x_11 => F (some (.inl x_11)) h_9)) ∧ (¬ x2 = 1 → (x2 = 2 → bz_rI h_9 a_5 3 5 (fun x_12 => F (some (.inl x_12)) h_9)) ∧ (¬ x2 = 2 → (x2 = 3 → bz_rI h_9 a_5 3 6 (fun x_13 => F (some (.inl x_13)) h_9)) ∧ (¬ x2 = 3 → (x2 = 4 → bz_rR h_9 a0 11 0 (fun r_14 => bz_nn r_14 (fun a_17 => bz_rc h_9 a_17 10 (bz_cI G l d kX10_engagedOf [.inr (some a_17), .inl x1] h_9 0 0 (fun x_15 h_16 => F (some (.inl x_15)) h_16))))) ∧ (¬ x2 = 4 → (x2 = 5 → bz_rR h_9 a0 11 0 (fun r_18 => bz_nn r_18 (fun a_21 => bz_rc h_9 a_21 10 (bz_cI G l d kX10_payOfRider [.inr (some a_21), .inl x1] h_9 0 0 (fun x_19 h_20 => F (some (.inl x_19)) h_20))))) ∧ (¬ x2 = 5 → (x2 = 6 → bz_rR h_9 a0 11 0 (fun r_22 => bz_nn r_22 (fun a_25 => bz_rc h_9 a_25 10 (bz_cI G l d kX10_ratingOfRider [.inr (some a_25), .inl x1] h_9 0 0 (fun x_23 h_24 => F (some (.inl x_23)) h_24))))) ∧ (¬ x2 = 6 → bz_rI h_9 a_5 3 7 (fun x_26 => F (some (.inl x_26)) h_9))))))))) ∧ (x_8 = 0 → bz_rc h_9 a0 11 (bz_cI G l d kX11_finding [.inr (some a0), .inl (-1000001)] h_9 0 0 (fun x_27 h_28 => F (some (.inl x_27)) h_28)))))))))) : bz_J G κ kX11_riderOf (d + 1) F bc bs 0 [some (.inr (some a0)), some (.inl x1), some (.inl x2), none] [] h := by
  subst hl
  refine bz_aload_n (pc := 0) dX11_riderOf_0 rfl rfl ?_
  refine bz_rw_rR (pc := 1) dX11_riderOf_1 fl_X11_12 hP (fun r_1 hP => ?_)
  refine bz_iload_n (pc := 4) dX11_riderOf_4 rfl rfl ?_
  obtain ⟨a_4, rfl, hP⟩ := hP
  refine bz_kRV (as := [.inl x1]) (st := []) (ci := 10) (pc := 5) dX11_riderOf_5 sc_X10_riderAt ml_X11_179 im_X10_riderAt se_X10_riderAt rfl rfl rfl (by decide) hP (fun r_2 h_3 hP => ?_)
  refine bz_s_astore_n (pc := 8) dX11_riderOf_8 rfl (by decide) [some (.inr (some a0)), some (.inl x1), some (.inl x2), some (.inr r_2)] rfl ?_
  refine bz_aload_n (pc := 9) dX11_riderOf_9 rfl rfl ?_
  refine bz_ifnull (tgt := 23) (pc := 10) dX11_riderOf_10 (by decide) (fun c => ?_) (fun a_5 c => ?_)
  · have hP := hP.1 c
    subst c
    refine bz_aload_n (pc := 23) dX11_riderOf_23 rfl rfl ?_
    refine bz_ldc (pc := 24) dX11_riderOf_24 ct_X11_78 ?_
    refine bz_kIV (as := [.inl (-1000001)]) (st := []) (ci := 11) (pc := 26) dX11_riderOf_26 sc_X11_finding ml_X11_79 im_X11_finding se_X11_finding rfl rfl rfl (by decide) hP (fun x_6 h_7 hP => ?_)
    exact bz_retI (pc := 29) dX11_riderOf_29 rfl rfl hP
  · have hP := hP.2 a_5 c
    subst c
    refine bz_iload_n (pc := 13) dX11_riderOf_13 rfl rfl ?_
    refine bz_iconst (v := 0) (pc := 14) dX11_riderOf_14 (by decide) ?_
    refine bz_bipush (v := 7) (pc := 15) dX11_riderOf_15 (by decide) ?_
    refine bz_kIS (as := [.inl x2, .inl 0, .inl 7]) (st := []) (pc := 17) dX11_riderOf_17 sc_X11_isWithin ml_X11_74 ss_X11_isWithin rfl (by decide) hP (fun x_8 h_9 hP => ?_)
    refine bz_if_ne (tgt := 30) (pc := 20) dX11_riderOf_20 (by decide) (fun c => ?_) (fun c => ?_)
    · have hP := hP.1 c
      refine bz_iload_n (pc := 30) dX11_riderOf_30 rfl rfl ?_
      refine bz_table (pc := 31) [(0, 41), (1, 46), (2, 51), (3, 56), (4, 61), (5, 70), (6, 79)] dX11_riderOf_31 (by decide) (by decide) (by decide) (by decide) (by decide) ?_
      refine ⟨fun c => ?_, fun c => ?_⟩
      · have hP := hP.1 c
        show bz_J G κ kX11_riderOf (d + 1) F bc bs 72 [some (.inr (some a0)), some (.inl x1), some (.inl x2), some (.inr (some a_5))] [] h_9
        refine bz_aload_n (pc := 72) dX11_riderOf_72 rfl rfl ?_
        refine bz_rw_rI (pc := 73) dX11_riderOf_73 fl_X11_183 hP (fun x_10 hP => ?_)
        exact bz_retI (pc := 76) dX11_riderOf_76 rfl rfl hP
      · have hP := hP.2 c
        refine ⟨fun c => ?_, fun c => ?_⟩
        · have hP := hP.1 c
          show bz_J G κ kX11_riderOf (d + 1) F bc bs 77 [some (.inr (some a0)), some (.inl x1), some (.inl x2), some (.inr (some a_5))] [] h_9
          refine bz_aload_n (pc := 77) dX11_riderOf_77 rfl rfl ?_
          refine bz_rw_rI (pc := 78) dX11_riderOf_78 fl_X11_188 hP (fun x_11 hP => ?_)
          exact bz_retI (pc := 81) dX11_riderOf_81 rfl rfl hP
        · have hP := hP.2 c
          refine ⟨fun c => ?_, fun c => ?_⟩
          · have hP := hP.1 c
            show bz_J G κ kX11_riderOf (d + 1) F bc bs 82 [some (.inr (some a0)), some (.inl x1), some (.inl x2), some (.inr (some a_5))] [] h_9
            refine bz_aload_n (pc := 82) dX11_riderOf_82 rfl rfl ?_
            refine bz_rw_rI (pc := 83) dX11_riderOf_83 fl_X11_191 hP (fun x_12 hP => ?_)
            exact bz_retI (pc := 86) dX11_riderOf_86 rfl rfl hP
          · have hP := hP.2 c
            refine ⟨fun c => ?_, fun c => ?_⟩
            · have hP := hP.1 c
              show bz_J G κ kX11_riderOf (d + 1) F bc bs 87 [some (.inr (some a0)), some (.inl x1), some (.inl x2), some (.inr (some a_5))] [] h_9
              refine bz_aload_n (pc := 87) dX11_riderOf_87 rfl rfl ?_
              refine bz_rw_rI (pc := 88) dX11_riderOf_88 fl_X11_194 hP (fun x_13 hP => ?_)
              exact bz_retI (pc := 91) dX11_riderOf_91 rfl rfl hP
            · have hP := hP.2 c
              refine ⟨fun c => ?_, fun c => ?_⟩
              · have hP := hP.1 c
                show bz_J G κ kX11_riderOf (d + 1) F bc bs 92 [some (.inr (some a0)), some (.inl x1), some (.inl x2), some (.inr (some a_5))] [] h_9
                refine bz_aload_n (pc := 92) dX11_riderOf_92 rfl rfl ?_
                refine bz_rw_rR (pc := 93) dX11_riderOf_93 fl_X11_12 hP (fun r_14 hP => ?_)
                refine bz_iload_n (pc := 96) dX11_riderOf_96 rfl rfl ?_
                obtain ⟨a_17, rfl, hP⟩ := hP
                refine bz_kIV (as := [.inl x1]) (st := []) (ci := 10) (pc := 97) dX11_riderOf_97 sc_X10_engagedOf ml_X11_197 im_X10_engagedOf se_X10_engagedOf rfl rfl rfl (by decide) hP (fun x_15 h_16 hP => ?_)
                exact bz_retI (pc := 100) dX11_riderOf_100 rfl rfl hP
              · have hP := hP.2 c
                refine ⟨fun c => ?_, fun c => ?_⟩
                · have hP := hP.1 c
                  show bz_J G κ kX11_riderOf (d + 1) F bc bs 101 [some (.inr (some a0)), some (.inl x1), some (.inl x2), some (.inr (some a_5))] [] h_9
                  refine bz_aload_n (pc := 101) dX11_riderOf_101 rfl rfl ?_
                  refine bz_rw_rR (pc := 102) dX11_riderOf_102 fl_X11_12 hP (fun r_18 hP => ?_)
                  refine bz_iload_n (pc := 105) dX11_riderOf_105 rfl rfl ?_
                  obtain ⟨a_21, rfl, hP⟩ := hP
                  refine bz_kIV (as := [.inl x1]) (st := []) (ci := 10) (pc := 106) dX11_riderOf_106 sc_X10_payOfRider ml_X11_200 im_X10_payOfRider se_X10_payOfRider rfl rfl rfl (by decide) hP (fun x_19 h_20 hP => ?_)
                  exact bz_retI (pc := 109) dX11_riderOf_109 rfl rfl hP
                · have hP := hP.2 c
                  refine ⟨fun c => ?_, fun c => ?_⟩
                  · have hP := hP.1 c
                    show bz_J G κ kX11_riderOf (d + 1) F bc bs 110 [some (.inr (some a0)), some (.inl x1), some (.inl x2), some (.inr (some a_5))] [] h_9
                    refine bz_aload_n (pc := 110) dX11_riderOf_110 rfl rfl ?_
                    refine bz_rw_rR (pc := 111) dX11_riderOf_111 fl_X11_12 hP (fun r_22 hP => ?_)
                    refine bz_iload_n (pc := 114) dX11_riderOf_114 rfl rfl ?_
                    obtain ⟨a_25, rfl, hP⟩ := hP
                    refine bz_kIV (as := [.inl x1]) (st := []) (ci := 10) (pc := 115) dX11_riderOf_115 sc_X10_ratingOfRider ml_X11_203 im_X10_ratingOfRider se_X10_ratingOfRider rfl rfl rfl (by decide) hP (fun x_23 h_24 hP => ?_)
                    exact bz_retI (pc := 118) dX11_riderOf_118 rfl rfl hP
                  · have hP := hP.2 c
                    show bz_J G κ kX11_riderOf (d + 1) F bc bs 119 [some (.inr (some a0)), some (.inl x1), some (.inl x2), some (.inr (some a_5))] [] h_9
                    refine bz_aload_n (pc := 119) dX11_riderOf_119 rfl rfl ?_
                    refine bz_rw_rI (pc := 120) dX11_riderOf_120 fl_X11_206 hP (fun x_26 hP => ?_)
                    exact bz_retI (pc := 123) dX11_riderOf_123 rfl rfl hP
    · have hP := hP.2 c
      refine bz_aload_n (pc := 23) dX11_riderOf_23 rfl rfl ?_
      refine bz_ldc (pc := 24) dX11_riderOf_24 ct_X11_78 ?_
      refine bz_kIV (as := [.inl (-1000001)]) (st := []) (ci := 11) (pc := 26) dX11_riderOf_26 sc_X11_finding ml_X11_79 im_X11_finding se_X11_finding rfl rfl rfl (by decide) hP (fun x_27 h_28 hP => ?_)
      exact bz_retI (pc := 29) dX11_riderOf_29 rfl rfl hP
theorem m_X11_riderOf {G : bz_G} {l : Launch} {d mc ms : Nat} {F : Option bz_V → bz_H → Prop} (a0 : Nat) (x1 : Int32) (x2 : Int32) (h : bz_H) (hP : bz_rR h a0 11 0 (fun r_1 => bz_nn r_1 (fun a_4 => bz_rc h a_4 10 (bz_cR G l d kX10_riderAt [.inr (some a_4), .inl x1] h 0 0 (fun r_2 h_3 => (r_2 = none → bz_rc h_3 a0 11 (bz_cI G l d kX11_finding [.inr (some a0), .inl (-1000001)] h_3 0 0 (fun x_6 h_7 => F (some (.inl x_6)) h_7))) ∧ (∀ a_5, r_2 = some a_5 → bz_cI G l d kX11_isWithin [.inl x2, .inl 0, .inl 7] h_3 0 0 (fun x_8 h_9 => (¬ x_8 = 0 → (x2 = 0 → bz_rI h_9 a_5 3 1 (fun x_10 => F (some (.inl x_10)) h_9)) ∧ (¬ x2 = 0 → (x2 = 1 → bz_rI h_9 a_5 3 4 (fun x_11 => F (some (.inl x_11)) h_9)) ∧ (¬ x2 = 1 → (x2 = 2 → bz_rI h_9 a_5 3 5 (fun x_12 => F (some (.inl x_12)) h_9)) ∧ (¬ x2 = 2 → (x2 = 3 → bz_rI h_9 a_5 3 6 (fun x_13 => F (some (.inl x_13)) h_9)) ∧ (¬ x2 = 3 → (x2 = 4 → bz_rR h_9 a0 11 0 (fun r_14 => bz_nn r_14 (fun a_17 => bz_rc h_9 a_17 10 (bz_cI G l d kX10_engagedOf [.inr (some a_17), .inl x1] h_9 0 0 (fun x_15 h_16 => F (some (.inl x_15)) h_16))))) ∧ (¬ x2 = 4 → (x2 = 5 → bz_rR h_9 a0 11 0 (fun r_18 => bz_nn r_18 (fun a_21 => bz_rc h_9 a_21 10 (bz_cI G l d kX10_payOfRider [.inr (some a_21), .inl x1] h_9 0 0 (fun x_19 h_20 => F (some (.inl x_19)) h_20))))) ∧ (¬ x2 = 5 → (x2 = 6 → bz_rR h_9 a0 11 0 (fun r_22 => bz_nn r_22 (fun a_25 => bz_rc h_9 a_25 10 (bz_cI G l d kX10_ratingOfRider [.inr (some a_25), .inl x1] h_9 0 0 (fun x_23 h_24 => F (some (.inl x_23)) h_24))))) ∧ (¬ x2 = 6 → bz_rI h_9 a_5 3 7 (fun x_26 => F (some (.inl x_26)) h_9))))))))) ∧ (x_8 = 0 → bz_rc h_9 a0 11 (bz_cI G l d kX11_finding [.inr (some a0), .inl (-1000001)] h_9 0 0 (fun x_27 h_28 => F (some (.inl x_27)) h_28)))))))))) : bz_Call G l (d + 1) kX11_riderOf [.inr (some a0), .inl x1, .inl x2] h mc ms F :=
  bz_body (by decide) (by decide) (fun κ hl => g_X11_riderOf_0 hl a0 x1 x2 h hP)
set_option maxRecDepth 20000 in
set_option maxHeartbeats 4000000 in
theorem g_X11_rider_0 {G : bz_G} {κ : bz_K} {l : Launch} {d : Nat} {F : Option bz_V → bz_H → Prop} {bc bs : Nat} (hl : κ.2.1 = l) (a0 : Nat) (x1 : Int32) (x2 : Int32) (h : bz_H) (hP : bz_cI G l d kX11_isWithin [.inl x1, .inl 0, .inl 6] h 0 0 (fun x_1 h_2 => (x_1 = 0 → bz_rc h_2 a0 11 (bz_cI G l d kX11_finding [.inr (some a0), .inl (-1000001)] h_2 0 0 (fun x_3 h_4 => F (some (.inl x_3)) h_4))) ∧ (¬ (x_1 = 0) → bz_cI G l d kX11_isCrossing [.inl x2] h_2 0 0 (fun x_5 h_6 => (¬ x_5 = 0 → bz_rR h_6 a0 11 0 (fun r_7 => bz_nn r_7 (fun a_8 => bz_rI h_6 a_8 10 10 (fun x_9 => (x_9 < 12 → bz_rR h_6 a0 11 0 (fun r_10 => bz_nn r_10 (fun a_13 => bz_rc h_6 a_13 10 (bz_cV G l d kX10_addRider [.inr (some a_13), .inl x1, .inl x2] h_6 0 0 (fun h_12 => bz_rR h_12 a0 11 0 (fun r_14 => bz_nn r_14 (fun a_15 => bz_rI h_12 a_15 10 10 (fun x_16 => F (some (.inl (x_16 - 1))) h_12)))))))) ∧ (¬ (x_9 < 12) → bz_rc h_6 a0 11 (bz_cI G l d kX11_finding [.inr (some a0), .inl (-1000002)] h_6 0 0 (fun x_17 h_18 => F (some (.inl x_17)) h_18))))))) ∧ (x_5 = 0 → bz_rc h_6 a0 11 (bz_cI G l d kX11_finding [.inr (some a0), .inl (-1000001)] h_6 0 0 (fun x_19 h_20 => F (some (.inl x_19)) h_20))))))) : bz_J G κ kX11_rider (d + 1) F bc bs 0 [some (.inr (some a0)), some (.inl x1), some (.inl x2)] [] h := by
  subst hl
  refine bz_iload_n (pc := 0) dX11_rider_0 rfl rfl ?_
  refine bz_iconst (v := 0) (pc := 1) dX11_rider_1 (by decide) ?_
  refine bz_bipush (v := 6) (pc := 2) dX11_rider_2 (by decide) ?_
  refine bz_kIS (as := [.inl x1, .inl 0, .inl 6]) (st := []) (pc := 4) dX11_rider_4 sc_X11_isWithin ml_X11_74 ss_X11_isWithin rfl (by decide) hP (fun x_1 h_2 hP => ?_)
  refine bz_if_eq (tgt := 17) (pc := 7) dX11_rider_7 (by decide) (fun c => ?_) (fun c => ?_)
  · have hP := hP.1 c
    refine bz_aload_n (pc := 17) dX11_rider_17 rfl rfl ?_
    refine bz_ldc (pc := 18) dX11_rider_18 ct_X11_78 ?_
    refine bz_kIV (as := [.inl (-1000001)]) (st := []) (ci := 11) (pc := 20) dX11_rider_20 sc_X11_finding ml_X11_79 im_X11_finding se_X11_finding rfl rfl rfl (by decide) hP (fun x_3 h_4 hP => ?_)
    exact bz_retI (pc := 23) dX11_rider_23 rfl rfl hP
  · have hP := hP.2 c
    refine bz_iload_n (pc := 10) dX11_rider_10 rfl rfl ?_
    refine bz_kIS (as := [.inl x2]) (st := []) (pc := 11) dX11_rider_11 sc_X11_isCrossing ml_X11_70 ss_X11_isCrossing rfl (by decide) hP (fun x_5 h_6 hP => ?_)
    refine bz_if_ne (tgt := 24) (pc := 14) dX11_rider_14 (by decide) (fun c => ?_) (fun c => ?_)
    · have hP := hP.1 c
      refine bz_aload_n (pc := 24) dX11_rider_24 rfl rfl ?_
      refine bz_rw_rR (pc := 25) dX11_rider_25 fl_X11_12 hP (fun r_7 hP => ?_)
      obtain ⟨a_8, rfl, hP⟩ := hP
      refine bz_rw_rI (pc := 28) dX11_rider_28 fl_X11_172 hP (fun x_9 hP => ?_)
      refine bz_bipush (v := 12) (pc := 31) dX11_rider_31 (by decide) ?_
      refine bz_icmp_lt (tgt := 43) (pc := 33) dX11_rider_33 (by decide) (fun c => ?_) (fun c => ?_)
      · have hP := hP.1 c
        refine bz_aload_n (pc := 43) dX11_rider_43 rfl rfl ?_
        refine bz_rw_rR (pc := 44) dX11_rider_44 fl_X11_12 hP (fun r_10 hP => ?_)
        refine bz_iload_n (pc := 47) dX11_rider_47 rfl rfl ?_
        refine bz_iload_n (pc := 48) dX11_rider_48 rfl rfl ?_
        obtain ⟨a_13, rfl, hP⟩ := hP
        refine bz_kVV (as := [.inl x1, .inl x2]) (st := []) (ci := 10) (pc := 49) dX11_rider_49 sc_X10_addRider ml_X11_175 im_X10_addRider se_X10_addRider rfl rfl rfl (by decide) hP (fun h_12 hP => ?_)
        refine bz_aload_n (pc := 52) dX11_rider_52 rfl rfl ?_
        refine bz_rw_rR (pc := 53) dX11_rider_53 fl_X11_12 hP (fun r_14 hP => ?_)
        obtain ⟨a_15, rfl, hP⟩ := hP
        refine bz_rw_rI (pc := 56) dX11_rider_56 fl_X11_172 hP (fun x_16 hP => ?_)
        refine bz_iconst (v := 1) (pc := 59) dX11_rider_59 (by decide) ?_
        refine bz_isub (pc := 60) dX11_rider_60 ?_
        exact bz_retI (pc := 61) dX11_rider_61 rfl rfl hP
      · have hP := hP.2 c
        refine bz_aload_n (pc := 36) dX11_rider_36 rfl rfl ?_
        refine bz_ldc (pc := 37) dX11_rider_37 ct_X11_118 ?_
        refine bz_kIV (as := [.inl (-1000002)]) (st := []) (ci := 11) (pc := 39) dX11_rider_39 sc_X11_finding ml_X11_79 im_X11_finding se_X11_finding rfl rfl rfl (by decide) hP (fun x_17 h_18 hP => ?_)
        exact bz_retI (pc := 42) dX11_rider_42 rfl rfl hP
    · have hP := hP.2 c
      refine bz_aload_n (pc := 17) dX11_rider_17 rfl rfl ?_
      refine bz_ldc (pc := 18) dX11_rider_18 ct_X11_78 ?_
      refine bz_kIV (as := [.inl (-1000001)]) (st := []) (ci := 11) (pc := 20) dX11_rider_20 sc_X11_finding ml_X11_79 im_X11_finding se_X11_finding rfl rfl rfl (by decide) hP (fun x_19 h_20 hP => ?_)
      exact bz_retI (pc := 23) dX11_rider_23 rfl rfl hP
theorem m_X11_rider {G : bz_G} {l : Launch} {d mc ms : Nat} {F : Option bz_V → bz_H → Prop} (a0 : Nat) (x1 : Int32) (x2 : Int32) (h : bz_H) (hP : bz_cI G l d kX11_isWithin [.inl x1, .inl 0, .inl 6] h 0 0 (fun x_1 h_2 => (x_1 = 0 → bz_rc h_2 a0 11 (bz_cI G l d kX11_finding [.inr (some a0), .inl (-1000001)] h_2 0 0 (fun x_3 h_4 => F (some (.inl x_3)) h_4))) ∧ (¬ (x_1 = 0) → bz_cI G l d kX11_isCrossing [.inl x2] h_2 0 0 (fun x_5 h_6 => (¬ x_5 = 0 → bz_rR h_6 a0 11 0 (fun r_7 => bz_nn r_7 (fun a_8 => bz_rI h_6 a_8 10 10 (fun x_9 => (x_9 < 12 → bz_rR h_6 a0 11 0 (fun r_10 => bz_nn r_10 (fun a_13 => bz_rc h_6 a_13 10 (bz_cV G l d kX10_addRider [.inr (some a_13), .inl x1, .inl x2] h_6 0 0 (fun h_12 => bz_rR h_12 a0 11 0 (fun r_14 => bz_nn r_14 (fun a_15 => bz_rI h_12 a_15 10 10 (fun x_16 => F (some (.inl (x_16 - 1))) h_12)))))))) ∧ (¬ (x_9 < 12) → bz_rc h_6 a0 11 (bz_cI G l d kX11_finding [.inr (some a0), .inl (-1000002)] h_6 0 0 (fun x_17 h_18 => F (some (.inl x_17)) h_18))))))) ∧ (x_5 = 0 → bz_rc h_6 a0 11 (bz_cI G l d kX11_finding [.inr (some a0), .inl (-1000001)] h_6 0 0 (fun x_19 h_20 => F (some (.inl x_19)) h_20))))))) : bz_Call G l (d + 1) kX11_rider [.inr (some a0), .inl x1, .inl x2] h mc ms F :=
  bz_body (by decide) (by decide) (fun κ hl => g_X11_rider_0 hl a0 x1 x2 h hP)
set_option maxRecDepth 20000 in
set_option maxHeartbeats 4000000 in
theorem g_X11_road_0 {G : bz_G} {κ : bz_K} {l : Launch} {d : Nat} {F : Option bz_V → bz_H → Prop} {bc bs : Nat} (hl : κ.2.1 = l) (a0 : Nat) (x1 : Int32) (x2 : Int32) (x3 : Int32) (h : bz_H) (hP : bz_cI G l d kX11_isRoad [.inl x1, .inl x2, .inl x3] h 0 0 (fun x_1 h_2 => (¬ x_1 = 0 → bz_rR h_2 a0 11 0 (fun r_3 => bz_nn r_3 (fun a_4 => bz_rR h_2 a_4 10 0 (fun r_5 => bz_nn r_5 (fun a_8 => bz_rc h_2 a_8 8 (bz_cI G l d kX8_addRoad [.inr (some a_8), .inl x1, .inl x2, .inl x3] h_2 0 0 (fun x_6 h_7 => F (some (.inl x_6)) h_7))))))) ∧ (x_1 = 0 → bz_rc h_2 a0 11 (bz_cI G l d kX11_finding [.inr (some a0), .inl (-1000001)] h_2 0 0 (fun x_9 h_10 => F (some (.inl x_9)) h_10))))) : bz_J G κ kX11_road (d + 1) F bc bs 0 [some (.inr (some a0)), some (.inl x1), some (.inl x2), some (.inl x3)] [] h := by
  subst hl
  refine bz_iload_n (pc := 0) dX11_road_0 rfl rfl ?_
  refine bz_iload_n (pc := 1) dX11_road_1 rfl rfl ?_
  refine bz_iload_n (pc := 2) dX11_road_2 rfl rfl ?_
  refine bz_kIS (as := [.inl x1, .inl x2, .inl x3]) (st := []) (pc := 3) dX11_road_3 sc_X11_isRoad ml_X11_92 ss_X11_isRoad rfl (by decide) hP (fun x_1 h_2 hP => ?_)
  refine bz_if_ne (tgt := 16) (pc := 6) dX11_road_6 (by decide) (fun c => ?_) (fun c => ?_)
  · have hP := hP.1 c
    refine bz_aload_n (pc := 16) dX11_road_16 rfl rfl ?_
    refine bz_rw_rR (pc := 17) dX11_road_17 fl_X11_12 hP (fun r_3 hP => ?_)
    obtain ⟨a_4, rfl, hP⟩ := hP
    refine bz_rw_rR (pc := 20) dX11_road_20 fl_X11_43 hP (fun r_5 hP => ?_)
    refine bz_iload_n (pc := 23) dX11_road_23 rfl rfl ?_
    refine bz_iload_n (pc := 24) dX11_road_24 rfl rfl ?_
    refine bz_iload_n (pc := 25) dX11_road_25 rfl rfl ?_
    obtain ⟨a_8, rfl, hP⟩ := hP
    refine bz_kIV (as := [.inl x1, .inl x2, .inl x3]) (st := []) (ci := 8) (pc := 26) dX11_road_26 sc_X8_addRoad ml_X11_95 im_X8_addRoad se_X8_addRoad rfl rfl rfl (by decide) hP (fun x_6 h_7 hP => ?_)
    exact bz_retI (pc := 29) dX11_road_29 rfl rfl hP
  · have hP := hP.2 c
    refine bz_aload_n (pc := 9) dX11_road_9 rfl rfl ?_
    refine bz_ldc (pc := 10) dX11_road_10 ct_X11_78 ?_
    refine bz_kIV (as := [.inl (-1000001)]) (st := []) (ci := 11) (pc := 12) dX11_road_12 sc_X11_finding ml_X11_79 im_X11_finding se_X11_finding rfl rfl rfl (by decide) hP (fun x_9 h_10 hP => ?_)
    exact bz_retI (pc := 15) dX11_road_15 rfl rfl hP
theorem m_X11_road {G : bz_G} {l : Launch} {d mc ms : Nat} {F : Option bz_V → bz_H → Prop} (a0 : Nat) (x1 : Int32) (x2 : Int32) (x3 : Int32) (h : bz_H) (hP : bz_cI G l d kX11_isRoad [.inl x1, .inl x2, .inl x3] h 0 0 (fun x_1 h_2 => (¬ x_1 = 0 → bz_rR h_2 a0 11 0 (fun r_3 => bz_nn r_3 (fun a_4 => bz_rR h_2 a_4 10 0 (fun r_5 => bz_nn r_5 (fun a_8 => bz_rc h_2 a_8 8 (bz_cI G l d kX8_addRoad [.inr (some a_8), .inl x1, .inl x2, .inl x3] h_2 0 0 (fun x_6 h_7 => F (some (.inl x_6)) h_7))))))) ∧ (x_1 = 0 → bz_rc h_2 a0 11 (bz_cI G l d kX11_finding [.inr (some a0), .inl (-1000001)] h_2 0 0 (fun x_9 h_10 => F (some (.inl x_9)) h_10))))) : bz_Call G l (d + 1) kX11_road [.inr (some a0), .inl x1, .inl x2, .inl x3] h mc ms F :=
  bz_body (by decide) (by decide) (fun κ hl => g_X11_road_0 hl a0 x1 x2 x3 h hP)
set_option maxRecDepth 20000 in
set_option maxHeartbeats 4000000 in
theorem g_X11_roads_0 {G : bz_G} {κ : bz_K} {l : Launch} {d : Nat} {F : Option bz_V → bz_H → Prop} {bc bs : Nat} (hl : κ.2.1 = l) (a0 : Nat) (x1 : Int32) (h : bz_H) (hP : bz_rc h a0 11 (bz_cR G l d kX11_sheetAt [.inr (some a0), .inl x1] h 0 0 (fun r_1 h_2 => (∀ a_3, r_1 = some a_3 → bz_rc h_2 a_3 5 (bz_cI G l d kX5_isMissing [.inr (some a_3)] h_2 0 0 (fun x_6 h_7 => (x_6 = 0 → bz_J G κ kX11_roads (d + 1) F bc bs 37 [some (.inr (some a0)), some (.inl x1), some (.inr (some a_3)), some (.inl 0), some (.inl 0), none, none, none] [] h_7) ∧ (¬ (x_6 = 0) → bz_rc h_7 a0 11 (bz_cI G l d kX11_finding [.inr (some a0), .inl (-1000006)] h_7 0 0 (fun x_8 h_9 => F (some (.inl x_8)) h_9)))))) ∧ (r_1 = none → bz_rc h_2 a0 11 (bz_cI G l d kX11_finding [.inr (some a0), .inl (-1000001)] h_2 0 0 (fun x_4 h_5 => F (some (.inl x_4)) h_5)))))) : bz_J G κ kX11_roads (d + 1) F bc bs 0 [some (.inr (some a0)), some (.inl x1), none, none, none, none, none, none] [] h := by
  subst hl
  refine bz_aload_n (pc := 0) dX11_roads_0 rfl rfl ?_
  refine bz_iload_n (pc := 1) dX11_roads_1 rfl rfl ?_
  refine bz_kRV (as := [.inl x1]) (st := []) (ci := 11) (pc := 2) dX11_roads_2 sc_X11_sheetAt ml_X11_380 im_X11_sheetAt se_X11_sheetAt rfl rfl rfl (by decide) hP (fun r_1 h_2 hP => ?_)
  refine bz_s_astore_n (pc := 5) dX11_roads_5 rfl (by decide) [some (.inr (some a0)), some (.inl x1), some (.inr r_1), none, none, none, none, none] rfl ?_
  refine bz_aload_n (pc := 6) dX11_roads_6 rfl rfl ?_
  refine bz_ifnonnull (tgt := 17) (pc := 7) dX11_roads_7 (by decide) (fun a_3 c => ?_) (fun c => ?_)
  · have hP := hP.1 a_3 c
    subst c
    refine bz_aload_n (pc := 17) dX11_roads_17 rfl rfl ?_
    refine bz_kIV (as := []) (st := []) (ci := 5) (pc := 18) dX11_roads_18 sc_X5_isMissing ml_X11_389 im_X5_isMissing se_X5_isMissing rfl rfl rfl (by decide) hP (fun x_6 h_7 hP => ?_)
    refine bz_if_eq (tgt := 32) (pc := 21) dX11_roads_21 (by decide) (fun c => ?_) (fun c => ?_)
    · have hP := hP.1 c
      refine bz_iconst (v := 0) (pc := 32) dX11_roads_32 (by decide) ?_
      refine bz_s_istore_n (pc := 33) dX11_roads_33 rfl (by decide) [some (.inr (some a0)), some (.inl x1), some (.inr (some a_3)), some (.inl 0), none, none, none, none] rfl ?_
      refine bz_iconst (v := 0) (pc := 34) dX11_roads_34 (by decide) ?_
      refine bz_s_istore (pc := 35) dX11_roads_35 (by decide) [some (.inr (some a0)), some (.inl x1), some (.inr (some a_3)), some (.inl 0), some (.inl 0), none, none, none] rfl ?_
      exact hP
    · have hP := hP.2 c
      refine bz_aload_n (pc := 24) dX11_roads_24 rfl rfl ?_
      refine bz_ldcw (pc := 25) dX11_roads_25 ct_X11_374 ?_
      refine bz_kIV (as := [.inl (-1000006)]) (st := []) (ci := 11) (pc := 28) dX11_roads_28 sc_X11_finding ml_X11_79 im_X11_finding se_X11_finding rfl rfl rfl (by decide) hP (fun x_8 h_9 hP => ?_)
      exact bz_retI (pc := 31) dX11_roads_31 rfl rfl hP
  · have hP := hP.2 c
    subst c
    refine bz_aload_n (pc := 10) dX11_roads_10 rfl rfl ?_
    refine bz_ldc (pc := 11) dX11_roads_11 ct_X11_78 ?_
    refine bz_kIV (as := [.inl (-1000001)]) (st := []) (ci := 11) (pc := 13) dX11_roads_13 sc_X11_finding ml_X11_79 im_X11_finding se_X11_finding rfl rfl rfl (by decide) hP (fun x_4 h_5 hP => ?_)
    exact bz_retI (pc := 16) dX11_roads_16 rfl rfl hP
set_option maxRecDepth 20000 in
set_option maxHeartbeats 4000000 in
theorem g_X11_roads_37 {G : bz_G} {κ : bz_K} {l : Launch} {d : Nat} {F : Option bz_V → bz_H → Prop} {bc bs : Nat} (hl : κ.2.1 = l) (a0 : Nat) (x1 : Int32) (r2 : Option Nat) (x3 : Int32) (x4 : Int32) (u5 : Option bz_V) (u6 : Option bz_V) (u7 : Option bz_V) (h : bz_H) (hP : bz_nn r2 (fun a_10 => bz_rI h a_10 5 2 (fun x_11 => (x_11 ≤ (x4 + 2) → F (some (.inl x3)) h) ∧ (¬ (x_11 ≤ (x4 + 2)) → bz_rR h a_10 5 0 (fun r_12 => bz_nn r_12 (fun a_13 => bz_rA h a_13 x4 (fun x_14 => bz_rR h a_10 5 0 (fun r_15 => bz_nn r_15 (fun a_16 => bz_rA h a_16 (x4 + 1) (fun x_17 => bz_rR h a_10 5 0 (fun r_18 => bz_nn r_18 (fun a_19 => bz_rA h a_19 (x4 + 2) (fun x_20 => bz_cI G l d kX11_isRoad [.inl x_14, .inl x_17, .inl x_20] h 0 0 (fun x_21 h_22 => (¬ x_21 = 0 → bz_rR h_22 a0 11 0 (fun r_23 => bz_nn r_23 (fun a_24 => bz_rR h_22 a_24 10 0 (fun r_25 => bz_nn r_25 (fun a_28 => bz_rc h_22 a_28 8 (bz_cI G l d kX8_addRoad [.inr (some a_28), .inl x_14, .inl x_17, .inl x_20] h_22 0 0 (fun x_26 h_27 => bz_J G κ kX11_roads (d + 1) F bc bs 37 [some (.inr (some a0)), some (.inl x1), some (.inr (some a_10)), some (.inl (x3 + 1)), some (.inl (x4 + 3)), some (.inl x_14), some (.inl x_17), some (.inl x_20)] [] h_27))))))) ∧ (x_21 = 0 → F (some (.inl x3)) h_22))))))))))))))) : bz_J G κ kX11_roads (d + 1) F bc bs 37 [some (.inr (some a0)), some (.inl x1), some (.inr r2), some (.inl x3), some (.inl x4), u5, u6, u7] [] h := by
  subst hl
  refine bz_iload (pc := 37) dX11_roads_37 rfl ?_
  refine bz_iconst (v := 2) (pc := 39) dX11_roads_39 (by decide) ?_
  refine bz_iadd (pc := 40) dX11_roads_40 ?_
  refine bz_aload_n (pc := 41) dX11_roads_41 rfl rfl ?_
  obtain ⟨a_10, rfl, hP⟩ := hP
  refine bz_rw_rI (pc := 42) dX11_roads_42 fl_X11_388 hP (fun x_11 hP => ?_)
  refine bz_icmp_ge (tgt := 120) (pc := 45) dX11_roads_45 (by decide) (fun c => ?_) (fun c => ?_)
  · have hP := hP.1 c
    refine bz_iload_n (pc := 120) dX11_roads_120 rfl rfl ?_
    exact bz_retI (pc := 121) dX11_roads_121 rfl rfl hP
  · have hP := hP.2 c
    refine bz_aload_n (pc := 48) dX11_roads_48 rfl rfl ?_
    refine bz_rw_rR (pc := 49) dX11_roads_49 fl_X11_401 hP (fun r_12 hP => ?_)
    refine bz_iload (pc := 52) dX11_roads_52 rfl ?_
    obtain ⟨a_13, rfl, hP⟩ := hP
    refine bz_rw_rA (pc := 54) dX11_roads_54 hP (fun x_14 hP => ?_)
    refine bz_s_istore (pc := 55) dX11_roads_55 (by decide) [some (.inr (some a0)), some (.inl x1), some (.inr (some a_10)), some (.inl x3), some (.inl x4), some (.inl x_14), u6, u7] rfl ?_
    refine bz_aload_n (pc := 57) dX11_roads_57 rfl rfl ?_
    refine bz_rw_rR (pc := 58) dX11_roads_58 fl_X11_401 hP (fun r_15 hP => ?_)
    refine bz_iload (pc := 61) dX11_roads_61 rfl ?_
    refine bz_iconst (v := 1) (pc := 63) dX11_roads_63 (by decide) ?_
    refine bz_iadd (pc := 64) dX11_roads_64 ?_
    obtain ⟨a_16, rfl, hP⟩ := hP
    refine bz_rw_rA (pc := 65) dX11_roads_65 hP (fun x_17 hP => ?_)
    refine bz_s_istore (pc := 66) dX11_roads_66 (by decide) [some (.inr (some a0)), some (.inl x1), some (.inr (some a_10)), some (.inl x3), some (.inl x4), some (.inl x_14), some (.inl x_17), u7] rfl ?_
    refine bz_aload_n (pc := 68) dX11_roads_68 rfl rfl ?_
    refine bz_rw_rR (pc := 69) dX11_roads_69 fl_X11_401 hP (fun r_18 hP => ?_)
    refine bz_iload (pc := 72) dX11_roads_72 rfl ?_
    refine bz_iconst (v := 2) (pc := 74) dX11_roads_74 (by decide) ?_
    refine bz_iadd (pc := 75) dX11_roads_75 ?_
    obtain ⟨a_19, rfl, hP⟩ := hP
    refine bz_rw_rA (pc := 76) dX11_roads_76 hP (fun x_20 hP => ?_)
    refine bz_s_istore (pc := 77) dX11_roads_77 (by decide) [some (.inr (some a0)), some (.inl x1), some (.inr (some a_10)), some (.inl x3), some (.inl x4), some (.inl x_14), some (.inl x_17), some (.inl x_20)] rfl ?_
    refine bz_iload (pc := 79) dX11_roads_79 rfl ?_
    refine bz_iload (pc := 81) dX11_roads_81 rfl ?_
    refine bz_iload (pc := 83) dX11_roads_83 rfl ?_
    refine bz_kIS (as := [.inl x_14, .inl x_17, .inl x_20]) (st := []) (pc := 85) dX11_roads_85 sc_X11_isRoad ml_X11_92 ss_X11_isRoad rfl (by decide) hP (fun x_21 h_22 hP => ?_)
    refine bz_if_ne (tgt := 94) (pc := 88) dX11_roads_88 (by decide) (fun c => ?_) (fun c => ?_)
    · have hP := hP.1 c
      refine bz_aload_n (pc := 94) dX11_roads_94 rfl rfl ?_
      refine bz_rw_rR (pc := 95) dX11_roads_95 fl_X11_12 hP (fun r_23 hP => ?_)
      obtain ⟨a_24, rfl, hP⟩ := hP
      refine bz_rw_rR (pc := 98) dX11_roads_98 fl_X11_43 hP (fun r_25 hP => ?_)
      refine bz_iload (pc := 101) dX11_roads_101 rfl ?_
      refine bz_iload (pc := 103) dX11_roads_103 rfl ?_
      refine bz_iload (pc := 105) dX11_roads_105 rfl ?_
      obtain ⟨a_28, rfl, hP⟩ := hP
      refine bz_kIV (as := [.inl x_14, .inl x_17, .inl x_20]) (st := []) (ci := 8) (pc := 107) dX11_roads_107 sc_X8_addRoad ml_X11_95 im_X8_addRoad se_X8_addRoad rfl rfl rfl (by decide) hP (fun x_26 h_27 hP => ?_)
      refine bz_pop (pc := 110) dX11_roads_110 ?_
      refine bz_s_iinc (pc := 111) dX11_roads_111 (by decide) rfl rfl [some (.inr (some a0)), some (.inl x1), some (.inr (some a_10)), some (.inl (x3 + 1)), some (.inl x4), some (.inl x_14), some (.inl x_17), some (.inl x_20)] rfl ?_
      refine bz_s_iinc (pc := 114) dX11_roads_114 (by decide) rfl rfl [some (.inr (some a0)), some (.inl x1), some (.inr (some a_10)), some (.inl (x3 + 1)), some (.inl (x4 + 3)), some (.inl x_14), some (.inl x_17), some (.inl x_20)] rfl ?_
      refine bz_goto (tgt := 37) (pc := 117) dX11_roads_117 (by decide) ?_
      exact hP
    · have hP := hP.2 c
      refine bz_goto (tgt := 120) (pc := 91) dX11_roads_91 (by decide) ?_
      refine bz_iload_n (pc := 120) dX11_roads_120 rfl rfl ?_
      exact bz_retI (pc := 121) dX11_roads_121 rfl rfl hP
theorem m_X11_roads {G : bz_G} {l : Launch} {d mc ms : Nat} {F : Option bz_V → bz_H → Prop} (a0 : Nat) (x1 : Int32) (h : bz_H) (hP : ∀ (κ : bz_K) (bc bs : Nat), κ.2.1 = l → bz_rc h a0 11 (bz_cR G l d kX11_sheetAt [.inr (some a0), .inl x1] h 0 0 (fun r_1 h_2 => (∀ a_3, r_1 = some a_3 → bz_rc h_2 a_3 5 (bz_cI G l d kX5_isMissing [.inr (some a_3)] h_2 0 0 (fun x_6 h_7 => (x_6 = 0 → bz_J G κ kX11_roads (d + 1) F bc bs 37 [some (.inr (some a0)), some (.inl x1), some (.inr (some a_3)), some (.inl 0), some (.inl 0), none, none, none] [] h_7) ∧ (¬ (x_6 = 0) → bz_rc h_7 a0 11 (bz_cI G l d kX11_finding [.inr (some a0), .inl (-1000006)] h_7 0 0 (fun x_8 h_9 => F (some (.inl x_8)) h_9)))))) ∧ (r_1 = none → bz_rc h_2 a0 11 (bz_cI G l d kX11_finding [.inr (some a0), .inl (-1000001)] h_2 0 0 (fun x_4 h_5 => F (some (.inl x_4)) h_5)))))) : bz_Call G l (d + 1) kX11_roads [.inr (some a0), .inl x1] h mc ms F :=
  bz_body (by decide) (by decide) (fun κ hl => g_X11_roads_0 hl a0 x1 h (hP κ mc ms hl))
set_option maxRecDepth 20000 in
set_option maxHeartbeats 4000000 in
theorem g_X11_says_0 {G : bz_G} {κ : bz_K} {l : Launch} {d : Nat} {F : Option bz_V → bz_H → Prop} {bc bs : Nat} (hl : κ.2.1 = l) (a0 : Nat) (x1 : Int32) (x2 : Int32) (x3 : Int32) (h : bz_H) (hP : bz_rR h a0 11 0 (fun r_1 => bz_nn r_1 (fun a_4 => bz_rc h a_4 10 (bz_cR G l d kX10_textAt [.inr (some a_4), .inl x1] h 0 0 (fun r_2 h_3 => bz_rR h_3 a0 11 0 (fun r_5 => bz_nn r_5 (fun a_8 => bz_rc h_3 a_8 10 (bz_cR G l d kX10_riderAt [.inr (some a_8), .inl x2] h_3 0 0 (fun r_6 h_7 => bz_rR h_7 a0 11 0 (fun r_9 => bz_nn r_9 (fun a_12 => bz_rc h_7 a_12 10 (bz_cR G l d kX10_orderAt [.inr (some a_12), .inl x3] h_7 0 0 (fun r_10 h_11 => (r_2 = none → bz_rc h_11 a0 11 (bz_cI G l d kX11_finding [.inr (some a0), .inl (-1000001)] h_11 0 0 (fun x_14 h_15 => F (some (.inl x_14)) h_15))) ∧ (∀ a_13, r_2 = some a_13 → (r_6 = none → bz_rc h_11 a0 11 (bz_cI G l d kX11_finding [.inr (some a0), .inl (-1000001)] h_11 0 0 (fun x_17 h_18 => F (some (.inl x_17)) h_18))) ∧ (∀ a_16, r_6 = some a_16 → (∀ a_19, r_10 = some a_19 → bz_rR h_11 a0 11 0 (fun r_22 => bz_rR h_11 a0 11 7 (fun r_23 => bz_nn r_22 (fun a_26 => bz_rc h_11 a_26 10 (bz_cV G l d kX10_nameRider [.inr (some a_26), .inr r_23, .inl x2, .inr (some a_19)] h_11 0 0 (fun h_25 => bz_rI h_25 a_19 2 7 (fun x_27 => (¬ x_27 = 1 → bz_rR h_25 a0 11 6 (fun r_28 => bz_rI h_25 a_16 3 1 (fun x_29 => bz_rI h_25 a_16 3 4 (fun x_30 => bz_rR h_25 a0 11 0 (fun r_31 => bz_nn r_31 (fun a_32 => bz_rI h_25 a_32 10 12 (fun x_33 => bz_rc h_25 a_16 3 (bz_cI G l d kX3_startFrom [.inr (some a_16), .inl x_33] h_25 0 0 (fun x_34 h_35 => bz_nn r_28 (fun a_38 => bz_rc h_35 a_38 9 (bz_cI G l d kX9_planOne [.inr (some a_38), .inl x_29, .inl x_30, .inl x_34, .inr (some a_19)] h_35 0 0 (fun x_36 h_37 => bz_rR h_37 a0 11 7 (fun r_39 => bz_rR h_37 a0 11 0 (fun r_40 => bz_nn r_40 (fun a_41 => bz_rI h_37 a_41 10 12 (fun x_42 => bz_rI h_37 a_19 2 3 (fun x_43 => (x_36 = 0 → bz_nn r_39 (fun a_46 => bz_rc h_37 a_46 0 (bz_cV G l d kX0_putTimes [.inr (some a_46), .inl (x_42 - x_43), .inl 0] h_37 0 0 (fun h_45 => bz_rR h_45 a0 11 7 (fun r_47 => bz_nn r_47 (fun a_50 => bz_rc h_45 a_50 0 (bz_cI G l d kX0_worthOf [.inr (some a_50), .inr (some a_13)] h_45 0 0 (fun x_48 h_49 => F (some (.inl x_48)) h_49)))))))) ∧ (¬ (x_36 = 0) → bz_rR h_37 a0 11 6 (fun r_51 => bz_nn r_51 (fun a_52 => bz_rI h_37 a_52 9 10 (fun x_53 => bz_nn r_39 (fun a_56 => bz_rc h_37 a_56 0 (bz_cV G l d kX0_putTimes [.inr (some a_56), .inl (x_42 - x_43), .inl x_53] h_37 0 0 (fun h_55 => bz_rR h_55 a0 11 7 (fun r_57 => bz_nn r_57 (fun a_60 => bz_rc h_55 a_60 0 (bz_cI G l d kX0_worthOf [.inr (some a_60), .inr (some a_13)] h_55 0 0 (fun x_58 h_59 => F (some (.inl x_58)) h_59)))))))))))))))))))))))))))) ∧ (x_27 = 1 → bz_rR h_25 a0 11 7 (fun r_61 => bz_rI h_25 a_19 2 9 (fun x_62 => bz_rI h_25 a_19 2 3 (fun x_63 => bz_rI h_25 a_19 2 11 (fun x_64 => bz_nn r_61 (fun a_67 => bz_rc h_25 a_67 0 (bz_cV G l d kX0_putTimes [.inr (some a_67), .inl (x_62 - x_63), .inl x_64] h_25 0 0 (fun h_66 => bz_rR h_66 a0 11 7 (fun r_68 => bz_nn r_68 (fun a_71 => bz_rc h_66 a_71 0 (bz_cI G l d kX0_worthOf [.inr (some a_71), .inr (some a_13)] h_66 0 0 (fun x_69 h_70 => F (some (.inl x_69)) h_70))))))))))))))))))) ∧ (r_10 = none → bz_rc h_11 a0 11 (bz_cI G l d kX11_finding [.inr (some a0), .inl (-1000001)] h_11 0 0 (fun x_20 h_21 => F (some (.inl x_20)) h_21)))))))))))))))))) : bz_J G κ kX11_says (d + 1) F bc bs 0 [some (.inr (some a0)), some (.inl x1), some (.inl x2), some (.inl x3), none, none, none, none] [] h := by
  subst hl
  refine bz_aload_n (pc := 0) dX11_says_0 rfl rfl ?_
  refine bz_rw_rR (pc := 1) dX11_says_1 fl_X11_12 hP (fun r_1 hP => ?_)
  refine bz_iload_n (pc := 4) dX11_says_4 rfl rfl ?_
  obtain ⟨a_4, rfl, hP⟩ := hP
  refine bz_kRV (as := [.inl x1]) (st := []) (ci := 10) (pc := 5) dX11_says_5 sc_X10_textAt ml_X11_281 im_X10_textAt se_X10_textAt rfl rfl rfl (by decide) hP (fun r_2 h_3 hP => ?_)
  refine bz_s_astore (pc := 8) dX11_says_8 (by decide) [some (.inr (some a0)), some (.inl x1), some (.inl x2), some (.inl x3), some (.inr r_2), none, none, none] rfl ?_
  refine bz_aload_n (pc := 10) dX11_says_10 rfl rfl ?_
  refine bz_rw_rR (pc := 11) dX11_says_11 fl_X11_12 hP (fun r_5 hP => ?_)
  refine bz_iload_n (pc := 14) dX11_says_14 rfl rfl ?_
  obtain ⟨a_8, rfl, hP⟩ := hP
  refine bz_kRV (as := [.inl x2]) (st := []) (ci := 10) (pc := 15) dX11_says_15 sc_X10_riderAt ml_X11_179 im_X10_riderAt se_X10_riderAt rfl rfl rfl (by decide) hP (fun r_6 h_7 hP => ?_)
  refine bz_s_astore (pc := 18) dX11_says_18 (by decide) [some (.inr (some a0)), some (.inl x1), some (.inl x2), some (.inl x3), some (.inr r_2), some (.inr r_6), none, none] rfl ?_
  refine bz_aload_n (pc := 20) dX11_says_20 rfl rfl ?_
  refine bz_rw_rR (pc := 21) dX11_says_21 fl_X11_12 hP (fun r_9 hP => ?_)
  refine bz_iload_n (pc := 24) dX11_says_24 rfl rfl ?_
  obtain ⟨a_12, rfl, hP⟩ := hP
  refine bz_kRV (as := [.inl x3]) (st := []) (ci := 10) (pc := 25) dX11_says_25 sc_X10_orderAt ml_X11_132 im_X10_orderAt se_X10_orderAt rfl rfl rfl (by decide) hP (fun r_10 h_11 hP => ?_)
  refine bz_s_astore (pc := 28) dX11_says_28 (by decide) [some (.inr (some a0)), some (.inl x1), some (.inl x2), some (.inl x3), some (.inr r_2), some (.inr r_6), some (.inr r_10), none] rfl ?_
  refine bz_aload (pc := 30) dX11_says_30 rfl ?_
  refine bz_ifnull (tgt := 45) (pc := 32) dX11_says_32 (by decide) (fun c => ?_) (fun a_13 c => ?_)
  · have hP := hP.1 c
    subst c
    refine bz_aload_n (pc := 45) dX11_says_45 rfl rfl ?_
    refine bz_ldc (pc := 46) dX11_says_46 ct_X11_78 ?_
    refine bz_kIV (as := [.inl (-1000001)]) (st := []) (ci := 11) (pc := 48) dX11_says_48 sc_X11_finding ml_X11_79 im_X11_finding se_X11_finding rfl rfl rfl (by decide) hP (fun x_14 h_15 hP => ?_)
    exact bz_retI (pc := 51) dX11_says_51 rfl rfl hP
  · have hP := hP.2 a_13 c
    subst c
    refine bz_aload (pc := 35) dX11_says_35 rfl ?_
    refine bz_ifnull (tgt := 45) (pc := 37) dX11_says_37 (by decide) (fun c => ?_) (fun a_16 c => ?_)
    · have hP := hP.1 c
      subst c
      refine bz_aload_n (pc := 45) dX11_says_45 rfl rfl ?_
      refine bz_ldc (pc := 46) dX11_says_46 ct_X11_78 ?_
      refine bz_kIV (as := [.inl (-1000001)]) (st := []) (ci := 11) (pc := 48) dX11_says_48 sc_X11_finding ml_X11_79 im_X11_finding se_X11_finding rfl rfl rfl (by decide) hP (fun x_17 h_18 hP => ?_)
      exact bz_retI (pc := 51) dX11_says_51 rfl rfl hP
    · have hP := hP.2 a_16 c
      subst c
      refine bz_aload (pc := 40) dX11_says_40 rfl ?_
      refine bz_ifnonnull (tgt := 52) (pc := 42) dX11_says_42 (by decide) (fun a_19 c => ?_) (fun c => ?_)
      · have hP := hP.1 a_19 c
        subst c
        refine bz_aload_n (pc := 52) dX11_says_52 rfl rfl ?_
        refine bz_rw_rR (pc := 53) dX11_says_53 fl_X11_12 hP (fun r_22 hP => ?_)
        refine bz_aload_n (pc := 56) dX11_says_56 rfl rfl ?_
        refine bz_rw_rR (pc := 57) dX11_says_57 fl_X11_57 hP (fun r_23 hP => ?_)
        refine bz_iload_n (pc := 60) dX11_says_60 rfl rfl ?_
        refine bz_aload (pc := 61) dX11_says_61 rfl ?_
        obtain ⟨a_26, rfl, hP⟩ := hP
        refine bz_kVV (as := [.inr r_23, .inl x2, .inr (some a_19)]) (st := []) (ci := 10) (pc := 63) dX11_says_63 sc_X10_nameRider ml_X11_285 im_X10_nameRider se_X10_nameRider rfl rfl rfl (by decide) hP (fun h_25 hP => ?_)
        refine bz_aload (pc := 66) dX11_says_66 rfl ?_
        refine bz_rw_rI (pc := 68) dX11_says_68 fl_X11_136 hP (fun x_27 hP => ?_)
        refine bz_iconst (v := 1) (pc := 71) dX11_says_71 (by decide) ?_
        refine bz_icmp_ne (tgt := 101) (pc := 72) dX11_says_72 (by decide) (fun c => ?_) (fun c => ?_)
        · have hP := hP.1 c
          refine bz_aload_n (pc := 101) dX11_says_101 rfl rfl ?_
          refine bz_rw_rR (pc := 102) dX11_says_102 fl_X11_50 hP (fun r_28 hP => ?_)
          refine bz_aload (pc := 105) dX11_says_105 rfl ?_
          refine bz_rw_rI (pc := 107) dX11_says_107 fl_X11_183 hP (fun x_29 hP => ?_)
          refine bz_aload (pc := 110) dX11_says_110 rfl ?_
          refine bz_rw_rI (pc := 112) dX11_says_112 fl_X11_188 hP (fun x_30 hP => ?_)
          refine bz_aload (pc := 115) dX11_says_115 rfl ?_
          refine bz_aload_n (pc := 117) dX11_says_117 rfl rfl ?_
          refine bz_rw_rR (pc := 118) dX11_says_118 fl_X11_12 hP (fun r_31 hP => ?_)
          obtain ⟨a_32, rfl, hP⟩ := hP
          refine bz_rw_rI (pc := 121) dX11_says_121 fl_X11_103 hP (fun x_33 hP => ?_)
          refine bz_kIV (as := [.inl x_33]) (st := [.inl x_30, .inl x_29, .inr r_28]) (ci := 3) (pc := 124) dX11_says_124 sc_X3_startFrom ml_X11_212 im_X3_startFrom se_X3_startFrom rfl rfl rfl (by decide) hP (fun x_34 h_35 hP => ?_)
          refine bz_aload (pc := 127) dX11_says_127 rfl ?_
          obtain ⟨a_38, rfl, hP⟩ := hP
          refine bz_kIV (as := [.inl x_29, .inl x_30, .inl x_34, .inr (some a_19)]) (st := []) (ci := 9) (pc := 129) dX11_says_129 sc_X9_planOne ml_X11_215 im_X9_planOne se_X9_planOne rfl rfl rfl (by decide) hP (fun x_36 h_37 hP => ?_)
          refine bz_s_istore (pc := 132) dX11_says_132 (by decide) [some (.inr (some a0)), some (.inl x1), some (.inl x2), some (.inl x3), some (.inr (some a_13)), some (.inr (some a_16)), some (.inr (some a_19)), some (.inl x_36)] rfl ?_
          refine bz_aload_n (pc := 134) dX11_says_134 rfl rfl ?_
          refine bz_rw_rR (pc := 135) dX11_says_135 fl_X11_57 hP (fun r_39 hP => ?_)
          refine bz_aload_n (pc := 138) dX11_says_138 rfl rfl ?_
          refine bz_rw_rR (pc := 139) dX11_says_139 fl_X11_12 hP (fun r_40 hP => ?_)
          obtain ⟨a_41, rfl, hP⟩ := hP
          refine bz_rw_rI (pc := 142) dX11_says_142 fl_X11_103 hP (fun x_42 hP => ?_)
          refine bz_aload (pc := 145) dX11_says_145 rfl ?_
          refine bz_rw_rI (pc := 147) dX11_says_147 fl_X11_147 hP (fun x_43 hP => ?_)
          refine bz_isub (pc := 150) dX11_says_150 ?_
          refine bz_iload (pc := 151) dX11_says_151 rfl ?_
          refine bz_if_eq (tgt := 166) (pc := 153) dX11_says_153 (by decide) (fun c => ?_) (fun c => ?_)
          · have hP := hP.1 c
            refine bz_iconst (v := 0) (pc := 166) dX11_says_166 (by decide) ?_
            obtain ⟨a_46, rfl, hP⟩ := hP
            refine bz_kVV (as := [.inl (x_42 - x_43), .inl 0]) (st := []) (ci := 0) (pc := 167) dX11_says_167 sc_X0_putTimes ml_X11_289 im_X0_putTimes se_X0_putTimes rfl rfl rfl (by decide) hP (fun h_45 hP => ?_)
            refine bz_aload_n (pc := 170) dX11_says_170 rfl rfl ?_
            refine bz_rw_rR (pc := 171) dX11_says_171 fl_X11_57 hP (fun r_47 hP => ?_)
            refine bz_aload (pc := 174) dX11_says_174 rfl ?_
            obtain ⟨a_50, rfl, hP⟩ := hP
            refine bz_kIV (as := [.inr (some a_13)]) (st := []) (ci := 0) (pc := 176) dX11_says_176 sc_X0_worthOf ml_X11_292 im_X0_worthOf se_X0_worthOf rfl rfl rfl (by decide) hP (fun x_48 h_49 hP => ?_)
            exact bz_retI (pc := 179) dX11_says_179 rfl rfl hP
          · have hP := hP.2 c
            refine bz_aload_n (pc := 156) dX11_says_156 rfl rfl ?_
            refine bz_rw_rR (pc := 157) dX11_says_157 fl_X11_50 hP (fun r_51 hP => ?_)
            obtain ⟨a_52, rfl, hP⟩ := hP
            refine bz_rw_rI (pc := 160) dX11_says_160 fl_X11_222 hP (fun x_53 hP => ?_)
            refine bz_goto (tgt := 167) (pc := 163) dX11_says_163 (by decide) ?_
            obtain ⟨a_56, rfl, hP⟩ := hP
            refine bz_kVV (as := [.inl (x_42 - x_43), .inl x_53]) (st := []) (ci := 0) (pc := 167) dX11_says_167 sc_X0_putTimes ml_X11_289 im_X0_putTimes se_X0_putTimes rfl rfl rfl (by decide) hP (fun h_55 hP => ?_)
            refine bz_aload_n (pc := 170) dX11_says_170 rfl rfl ?_
            refine bz_rw_rR (pc := 171) dX11_says_171 fl_X11_57 hP (fun r_57 hP => ?_)
            refine bz_aload (pc := 174) dX11_says_174 rfl ?_
            obtain ⟨a_60, rfl, hP⟩ := hP
            refine bz_kIV (as := [.inr (some a_13)]) (st := []) (ci := 0) (pc := 176) dX11_says_176 sc_X0_worthOf ml_X11_292 im_X0_worthOf se_X0_worthOf rfl rfl rfl (by decide) hP (fun x_58 h_59 hP => ?_)
            exact bz_retI (pc := 179) dX11_says_179 rfl rfl hP
        · have hP := hP.2 c
          refine bz_aload_n (pc := 75) dX11_says_75 rfl rfl ?_
          refine bz_rw_rR (pc := 76) dX11_says_76 fl_X11_57 hP (fun r_61 hP => ?_)
          refine bz_aload (pc := 79) dX11_says_79 rfl ?_
          refine bz_rw_rI (pc := 81) dX11_says_81 fl_X11_156 hP (fun x_62 hP => ?_)
          refine bz_aload (pc := 84) dX11_says_84 rfl ?_
          refine bz_rw_rI (pc := 86) dX11_says_86 fl_X11_147 hP (fun x_63 hP => ?_)
          refine bz_isub (pc := 89) dX11_says_89 ?_
          refine bz_aload (pc := 90) dX11_says_90 rfl ?_
          refine bz_rw_rI (pc := 92) dX11_says_92 fl_X11_162 hP (fun x_64 hP => ?_)
          obtain ⟨a_67, rfl, hP⟩ := hP
          refine bz_kVV (as := [.inl (x_62 - x_63), .inl x_64]) (st := []) (ci := 0) (pc := 95) dX11_says_95 sc_X0_putTimes ml_X11_289 im_X0_putTimes se_X0_putTimes rfl rfl rfl (by decide) hP (fun h_66 hP => ?_)
          refine bz_goto (tgt := 170) (pc := 98) dX11_says_98 (by decide) ?_
          refine bz_aload_n (pc := 170) dX11_says_170 rfl rfl ?_
          refine bz_rw_rR (pc := 171) dX11_says_171 fl_X11_57 hP (fun r_68 hP => ?_)
          refine bz_aload (pc := 174) dX11_says_174 rfl ?_
          obtain ⟨a_71, rfl, hP⟩ := hP
          refine bz_kIV (as := [.inr (some a_13)]) (st := []) (ci := 0) (pc := 176) dX11_says_176 sc_X0_worthOf ml_X11_292 im_X0_worthOf se_X0_worthOf rfl rfl rfl (by decide) hP (fun x_69 h_70 hP => ?_)
          exact bz_retI (pc := 179) dX11_says_179 rfl rfl hP
      · have hP := hP.2 c
        subst c
        refine bz_aload_n (pc := 45) dX11_says_45 rfl rfl ?_
        refine bz_ldc (pc := 46) dX11_says_46 ct_X11_78 ?_
        refine bz_kIV (as := [.inl (-1000001)]) (st := []) (ci := 11) (pc := 48) dX11_says_48 sc_X11_finding ml_X11_79 im_X11_finding se_X11_finding rfl rfl rfl (by decide) hP (fun x_20 h_21 hP => ?_)
        exact bz_retI (pc := 51) dX11_says_51 rfl rfl hP
theorem m_X11_says {G : bz_G} {l : Launch} {d mc ms : Nat} {F : Option bz_V → bz_H → Prop} (a0 : Nat) (x1 : Int32) (x2 : Int32) (x3 : Int32) (h : bz_H) (hP : bz_rR h a0 11 0 (fun r_1 => bz_nn r_1 (fun a_4 => bz_rc h a_4 10 (bz_cR G l d kX10_textAt [.inr (some a_4), .inl x1] h 0 0 (fun r_2 h_3 => bz_rR h_3 a0 11 0 (fun r_5 => bz_nn r_5 (fun a_8 => bz_rc h_3 a_8 10 (bz_cR G l d kX10_riderAt [.inr (some a_8), .inl x2] h_3 0 0 (fun r_6 h_7 => bz_rR h_7 a0 11 0 (fun r_9 => bz_nn r_9 (fun a_12 => bz_rc h_7 a_12 10 (bz_cR G l d kX10_orderAt [.inr (some a_12), .inl x3] h_7 0 0 (fun r_10 h_11 => (r_2 = none → bz_rc h_11 a0 11 (bz_cI G l d kX11_finding [.inr (some a0), .inl (-1000001)] h_11 0 0 (fun x_14 h_15 => F (some (.inl x_14)) h_15))) ∧ (∀ a_13, r_2 = some a_13 → (r_6 = none → bz_rc h_11 a0 11 (bz_cI G l d kX11_finding [.inr (some a0), .inl (-1000001)] h_11 0 0 (fun x_17 h_18 => F (some (.inl x_17)) h_18))) ∧ (∀ a_16, r_6 = some a_16 → (∀ a_19, r_10 = some a_19 → bz_rR h_11 a0 11 0 (fun r_22 => bz_rR h_11 a0 11 7 (fun r_23 => bz_nn r_22 (fun a_26 => bz_rc h_11 a_26 10 (bz_cV G l d kX10_nameRider [.inr (some a_26), .inr r_23, .inl x2, .inr (some a_19)] h_11 0 0 (fun h_25 => bz_rI h_25 a_19 2 7 (fun x_27 => (¬ x_27 = 1 → bz_rR h_25 a0 11 6 (fun r_28 => bz_rI h_25 a_16 3 1 (fun x_29 => bz_rI h_25 a_16 3 4 (fun x_30 => bz_rR h_25 a0 11 0 (fun r_31 => bz_nn r_31 (fun a_32 => bz_rI h_25 a_32 10 12 (fun x_33 => bz_rc h_25 a_16 3 (bz_cI G l d kX3_startFrom [.inr (some a_16), .inl x_33] h_25 0 0 (fun x_34 h_35 => bz_nn r_28 (fun a_38 => bz_rc h_35 a_38 9 (bz_cI G l d kX9_planOne [.inr (some a_38), .inl x_29, .inl x_30, .inl x_34, .inr (some a_19)] h_35 0 0 (fun x_36 h_37 => bz_rR h_37 a0 11 7 (fun r_39 => bz_rR h_37 a0 11 0 (fun r_40 => bz_nn r_40 (fun a_41 => bz_rI h_37 a_41 10 12 (fun x_42 => bz_rI h_37 a_19 2 3 (fun x_43 => (x_36 = 0 → bz_nn r_39 (fun a_46 => bz_rc h_37 a_46 0 (bz_cV G l d kX0_putTimes [.inr (some a_46), .inl (x_42 - x_43), .inl 0] h_37 0 0 (fun h_45 => bz_rR h_45 a0 11 7 (fun r_47 => bz_nn r_47 (fun a_50 => bz_rc h_45 a_50 0 (bz_cI G l d kX0_worthOf [.inr (some a_50), .inr (some a_13)] h_45 0 0 (fun x_48 h_49 => F (some (.inl x_48)) h_49)))))))) ∧ (¬ (x_36 = 0) → bz_rR h_37 a0 11 6 (fun r_51 => bz_nn r_51 (fun a_52 => bz_rI h_37 a_52 9 10 (fun x_53 => bz_nn r_39 (fun a_56 => bz_rc h_37 a_56 0 (bz_cV G l d kX0_putTimes [.inr (some a_56), .inl (x_42 - x_43), .inl x_53] h_37 0 0 (fun h_55 => bz_rR h_55 a0 11 7 (fun r_57 => bz_nn r_57 (fun a_60 => bz_rc h_55 a_60 0 (bz_cI G l d kX0_worthOf [.inr (some a_60), .inr (some a_13)] h_55 0 0 (fun x_58 h_59 => F (some (.inl x_58)) h_59)))))))))))))))))))))))))))) ∧ (x_27 = 1 → bz_rR h_25 a0 11 7 (fun r_61 => bz_rI h_25 a_19 2 9 (fun x_62 => bz_rI h_25 a_19 2 3 (fun x_63 => bz_rI h_25 a_19 2 11 (fun x_64 => bz_nn r_61 (fun a_67 => bz_rc h_25 a_67 0 (bz_cV G l d kX0_putTimes [.inr (some a_67), .inl (x_62 - x_63), .inl x_64] h_25 0 0 (fun h_66 => bz_rR h_66 a0 11 7 (fun r_68 => bz_nn r_68 (fun a_71 => bz_rc h_66 a_71 0 (bz_cI G l d kX0_worthOf [.inr (some a_71), .inr (some a_13)] h_66 0 0 (fun x_69 h_70 => F (some (.inl x_69)) h_70))))))))))))))))))) ∧ (r_10 = none → bz_rc h_11 a0 11 (bz_cI G l d kX11_finding [.inr (some a0), .inl (-1000001)] h_11 0 0 (fun x_20 h_21 => F (some (.inl x_20)) h_21)))))))))))))))))) : bz_Call G l (d + 1) kX11_says [.inr (some a0), .inl x1, .inl x2, .inl x3] h mc ms F :=
  bz_body (by decide) (by decide) (fun κ hl => g_X11_says_0 hl a0 x1 x2 x3 h hP)
set_option maxRecDepth 20000 in
set_option maxHeartbeats 4000000 in
theorem g_X11_seen_0 {G : bz_G} {κ : bz_K} {l : Launch} {d : Nat} {F : Option bz_V → bz_H → Prop} {bc bs : Nat} (hl : κ.2.1 = l) (a0 : Nat) (x1 : Int32) (x2 : Int32) (x3 : Int32) (h : bz_H) (hP : bz_rR h a0 11 0 (fun r_1 => bz_nn r_1 (fun a_4 => bz_rc h a_4 10 (bz_cR G l d kX10_riderAt [.inr (some a_4), .inl x1] h 0 0 (fun r_2 h_3 => (r_2 = none → bz_rc h_3 a0 11 (bz_cI G l d kX11_finding [.inr (some a0), .inl (-1000001)] h_3 0 0 (fun x_6 h_7 => F (some (.inl x_6)) h_7))) ∧ (∀ a_5, r_2 = some a_5 → bz_cI G l d kX11_isCrossing [.inl x2] h_3 0 0 (fun x_8 h_9 => (x_8 = 0 → bz_rc h_9 a0 11 (bz_cI G l d kX11_finding [.inr (some a0), .inl (-1000001)] h_9 0 0 (fun x_10 h_11 => F (some (.inl x_10)) h_11))) ∧ (¬ (x_8 = 0) → bz_cI G l d kX11_isMinute [.inl x3] h_9 0 0 (fun x_12 h_13 => (¬ x_12 = 0 → bz_rR h_13 a0 11 0 (fun r_14 => bz_nn r_14 (fun a_15 => bz_rR h_13 a_15 10 7 (fun r_16 => bz_nn r_16 (fun a_19 => bz_rc h_13 a_19 4 (bz_cI G l d kX4_isFull [.inr (some a_19)] h_13 0 0 (fun x_17 h_18 => (x_17 = 0 → bz_rR h_18 a0 11 0 (fun r_20 => bz_nn r_20 (fun a_21 => bz_rR h_18 a_21 10 7 (fun r_22 => bz_nn r_22 (fun a_25 => bz_rc h_18 a_25 4 (bz_cI G l d kX4_add [.inr (some a_25), .inl x1, .inl x2, .inl x3] h_18 0 0 (fun x_23 h_24 => F (some (.inl x_23)) h_24))))))) ∧ (¬ (x_17 = 0) → bz_rc h_18 a0 11 (bz_cI G l d kX11_finding [.inr (some a0), .inl (-1000002)] h_18 0 0 (fun x_26 h_27 => F (some (.inl x_26)) h_27)))))))))) ∧ (x_12 = 0 → bz_rc h_13 a0 11 (bz_cI G l d kX11_finding [.inr (some a0), .inl (-1000001)] h_13 0 0 (fun x_28 h_29 => F (some (.inl x_28)) h_29)))))))))))) : bz_J G κ kX11_seen (d + 1) F bc bs 0 [some (.inr (some a0)), some (.inl x1), some (.inl x2), some (.inl x3)] [] h := by
  subst hl
  refine bz_aload_n (pc := 0) dX11_seen_0 rfl rfl ?_
  refine bz_rw_rR (pc := 1) dX11_seen_1 fl_X11_12 hP (fun r_1 hP => ?_)
  refine bz_iload_n (pc := 4) dX11_seen_4 rfl rfl ?_
  obtain ⟨a_4, rfl, hP⟩ := hP
  refine bz_kRV (as := [.inl x1]) (st := []) (ci := 10) (pc := 5) dX11_seen_5 sc_X10_riderAt ml_X11_179 im_X10_riderAt se_X10_riderAt rfl rfl rfl (by decide) hP (fun r_2 h_3 hP => ?_)
  refine bz_ifnull (tgt := 25) (pc := 8) dX11_seen_8 (by decide) (fun c => ?_) (fun a_5 c => ?_)
  · have hP := hP.1 c
    subst c
    refine bz_aload_n (pc := 25) dX11_seen_25 rfl rfl ?_
    refine bz_ldc (pc := 26) dX11_seen_26 ct_X11_78 ?_
    refine bz_kIV (as := [.inl (-1000001)]) (st := []) (ci := 11) (pc := 28) dX11_seen_28 sc_X11_finding ml_X11_79 im_X11_finding se_X11_finding rfl rfl rfl (by decide) hP (fun x_6 h_7 hP => ?_)
    exact bz_retI (pc := 31) dX11_seen_31 rfl rfl hP
  · have hP := hP.2 a_5 c
    subst c
    refine bz_iload_n (pc := 11) dX11_seen_11 rfl rfl ?_
    refine bz_kIS (as := [.inl x2]) (st := []) (pc := 12) dX11_seen_12 sc_X11_isCrossing ml_X11_70 ss_X11_isCrossing rfl (by decide) hP (fun x_8 h_9 hP => ?_)
    refine bz_if_eq (tgt := 25) (pc := 15) dX11_seen_15 (by decide) (fun c => ?_) (fun c => ?_)
    · have hP := hP.1 c
      refine bz_aload_n (pc := 25) dX11_seen_25 rfl rfl ?_
      refine bz_ldc (pc := 26) dX11_seen_26 ct_X11_78 ?_
      refine bz_kIV (as := [.inl (-1000001)]) (st := []) (ci := 11) (pc := 28) dX11_seen_28 sc_X11_finding ml_X11_79 im_X11_finding se_X11_finding rfl rfl rfl (by decide) hP (fun x_10 h_11 hP => ?_)
      exact bz_retI (pc := 31) dX11_seen_31 rfl rfl hP
    · have hP := hP.2 c
      refine bz_iload_n (pc := 18) dX11_seen_18 rfl rfl ?_
      refine bz_kIS (as := [.inl x3]) (st := []) (pc := 19) dX11_seen_19 sc_X11_isMinute ml_X11_313 ss_X11_isMinute rfl (by decide) hP (fun x_12 h_13 hP => ?_)
      refine bz_if_ne (tgt := 32) (pc := 22) dX11_seen_22 (by decide) (fun c => ?_) (fun c => ?_)
      · have hP := hP.1 c
        refine bz_aload_n (pc := 32) dX11_seen_32 rfl rfl ?_
        refine bz_rw_rR (pc := 33) dX11_seen_33 fl_X11_12 hP (fun r_14 hP => ?_)
        obtain ⟨a_15, rfl, hP⟩ := hP
        refine bz_rw_rR (pc := 36) dX11_seen_36 fl_X11_340 hP (fun r_16 hP => ?_)
        obtain ⟨a_19, rfl, hP⟩ := hP
        refine bz_kIV (as := []) (st := []) (ci := 4) (pc := 39) dX11_seen_39 sc_X4_isFull ml_X11_112 im_X4_isFull se_X4_isFull rfl rfl rfl (by decide) hP (fun x_17 h_18 hP => ?_)
        refine bz_if_eq (tgt := 52) (pc := 42) dX11_seen_42 (by decide) (fun c => ?_) (fun c => ?_)
        · have hP := hP.1 c
          refine bz_aload_n (pc := 52) dX11_seen_52 rfl rfl ?_
          refine bz_rw_rR (pc := 53) dX11_seen_53 fl_X11_12 hP (fun r_20 hP => ?_)
          obtain ⟨a_21, rfl, hP⟩ := hP
          refine bz_rw_rR (pc := 56) dX11_seen_56 fl_X11_340 hP (fun r_22 hP => ?_)
          refine bz_iload_n (pc := 59) dX11_seen_59 rfl rfl ?_
          refine bz_iload_n (pc := 60) dX11_seen_60 rfl rfl ?_
          refine bz_iload_n (pc := 61) dX11_seen_61 rfl rfl ?_
          obtain ⟨a_25, rfl, hP⟩ := hP
          refine bz_kIV (as := [.inl x1, .inl x2, .inl x3]) (st := []) (ci := 4) (pc := 62) dX11_seen_62 sc_X4_add ml_X11_119 im_X4_add se_X4_add rfl rfl rfl (by decide) hP (fun x_23 h_24 hP => ?_)
          exact bz_retI (pc := 65) dX11_seen_65 rfl rfl hP
        · have hP := hP.2 c
          refine bz_aload_n (pc := 45) dX11_seen_45 rfl rfl ?_
          refine bz_ldc (pc := 46) dX11_seen_46 ct_X11_118 ?_
          refine bz_kIV (as := [.inl (-1000002)]) (st := []) (ci := 11) (pc := 48) dX11_seen_48 sc_X11_finding ml_X11_79 im_X11_finding se_X11_finding rfl rfl rfl (by decide) hP (fun x_26 h_27 hP => ?_)
          exact bz_retI (pc := 51) dX11_seen_51 rfl rfl hP
      · have hP := hP.2 c
        refine bz_aload_n (pc := 25) dX11_seen_25 rfl rfl ?_
        refine bz_ldc (pc := 26) dX11_seen_26 ct_X11_78 ?_
        refine bz_kIV (as := [.inl (-1000001)]) (st := []) (ci := 11) (pc := 28) dX11_seen_28 sc_X11_finding ml_X11_79 im_X11_finding se_X11_finding rfl rfl rfl (by decide) hP (fun x_28 h_29 hP => ?_)
        exact bz_retI (pc := 31) dX11_seen_31 rfl rfl hP
theorem m_X11_seen {G : bz_G} {l : Launch} {d mc ms : Nat} {F : Option bz_V → bz_H → Prop} (a0 : Nat) (x1 : Int32) (x2 : Int32) (x3 : Int32) (h : bz_H) (hP : bz_rR h a0 11 0 (fun r_1 => bz_nn r_1 (fun a_4 => bz_rc h a_4 10 (bz_cR G l d kX10_riderAt [.inr (some a_4), .inl x1] h 0 0 (fun r_2 h_3 => (r_2 = none → bz_rc h_3 a0 11 (bz_cI G l d kX11_finding [.inr (some a0), .inl (-1000001)] h_3 0 0 (fun x_6 h_7 => F (some (.inl x_6)) h_7))) ∧ (∀ a_5, r_2 = some a_5 → bz_cI G l d kX11_isCrossing [.inl x2] h_3 0 0 (fun x_8 h_9 => (x_8 = 0 → bz_rc h_9 a0 11 (bz_cI G l d kX11_finding [.inr (some a0), .inl (-1000001)] h_9 0 0 (fun x_10 h_11 => F (some (.inl x_10)) h_11))) ∧ (¬ (x_8 = 0) → bz_cI G l d kX11_isMinute [.inl x3] h_9 0 0 (fun x_12 h_13 => (¬ x_12 = 0 → bz_rR h_13 a0 11 0 (fun r_14 => bz_nn r_14 (fun a_15 => bz_rR h_13 a_15 10 7 (fun r_16 => bz_nn r_16 (fun a_19 => bz_rc h_13 a_19 4 (bz_cI G l d kX4_isFull [.inr (some a_19)] h_13 0 0 (fun x_17 h_18 => (x_17 = 0 → bz_rR h_18 a0 11 0 (fun r_20 => bz_nn r_20 (fun a_21 => bz_rR h_18 a_21 10 7 (fun r_22 => bz_nn r_22 (fun a_25 => bz_rc h_18 a_25 4 (bz_cI G l d kX4_add [.inr (some a_25), .inl x1, .inl x2, .inl x3] h_18 0 0 (fun x_23 h_24 => F (some (.inl x_23)) h_24))))))) ∧ (¬ (x_17 = 0) → bz_rc h_18 a0 11 (bz_cI G l d kX11_finding [.inr (some a0), .inl (-1000002)] h_18 0 0 (fun x_26 h_27 => F (some (.inl x_26)) h_27)))))))))) ∧ (x_12 = 0 → bz_rc h_13 a0 11 (bz_cI G l d kX11_finding [.inr (some a0), .inl (-1000001)] h_13 0 0 (fun x_28 h_29 => F (some (.inl x_28)) h_29)))))))))))) : bz_Call G l (d + 1) kX11_seen [.inr (some a0), .inl x1, .inl x2, .inl x3] h mc ms F :=
  bz_body (by decide) (by decide) (fun κ hl => g_X11_seen_0 hl a0 x1 x2 x3 h hP)
set_option maxRecDepth 20000 in
set_option maxHeartbeats 4000000 in
theorem g_X11_sheetAt_0 {G : bz_G} {κ : bz_K} {l : Launch} {d : Nat} {F : Option bz_V → bz_H → Prop} {bc bs : Nat} (hl : κ.2.1 = l) (a0 : Nat) (x1 : Int32) (h : bz_H) (hP : bz_cI G l d kX11_isWithin [.inl x1, .inl 0, .inl 3] h 0 0 (fun x_1 h_2 => (x_1 = 0 → F (some (.inr none)) h_2) ∧ (¬ (x_1 = 0) → bz_rR h_2 a0 11 4 (fun r_3 => bz_nn r_3 (fun a_4 => bz_rQ h_2 a_4 x1 (fun r_5 => F (some (.inr r_5)) h_2)))))) : bz_J G κ kX11_sheetAt (d + 1) F bc bs 0 [some (.inr (some a0)), some (.inl x1)] [] h := by
  subst hl
  refine bz_iload_n (pc := 0) dX11_sheetAt_0 rfl rfl ?_
  refine bz_iconst (v := 0) (pc := 1) dX11_sheetAt_1 (by decide) ?_
  refine bz_iconst (v := 3) (pc := 2) dX11_sheetAt_2 (by decide) ?_
  refine bz_kIS (as := [.inl x1, .inl 0, .inl 3]) (st := []) (pc := 3) dX11_sheetAt_3 sc_X11_isWithin ml_X11_74 ss_X11_isWithin rfl (by decide) hP (fun x_1 h_2 hP => ?_)
  refine bz_if_eq (tgt := 18) (pc := 6) dX11_sheetAt_6 (by decide) (fun c => ?_) (fun c => ?_)
  · have hP := hP.1 c
    refine bz_null (pc := 18) dX11_sheetAt_18 ?_
    exact bz_retR (pc := 19) dX11_sheetAt_19 rfl (by first | exact Or.inl ⟨_, rfl⟩ | exact Or.inr ⟨_, rfl⟩) hP
  · have hP := hP.2 c
    refine bz_aload_n (pc := 9) dX11_sheetAt_9 rfl rfl ?_
    refine bz_rw_rR (pc := 10) dX11_sheetAt_10 fl_X11_32 hP (fun r_3 hP => ?_)
    refine bz_iload_n (pc := 13) dX11_sheetAt_13 rfl rfl ?_
    obtain ⟨a_4, rfl, hP⟩ := hP
    refine bz_rw_ldq (pc := 14) dX11_sheetAt_14 hP (fun r_5 hP => ?_)
    refine bz_goto (tgt := 19) (pc := 15) dX11_sheetAt_15 (by decide) ?_
    exact bz_retR (pc := 19) dX11_sheetAt_19 rfl (by first | exact Or.inl ⟨_, rfl⟩ | exact Or.inr ⟨_, rfl⟩) hP
theorem m_X11_sheetAt {G : bz_G} {l : Launch} {d mc ms : Nat} {F : Option bz_V → bz_H → Prop} (a0 : Nat) (x1 : Int32) (h : bz_H) (hP : bz_cI G l d kX11_isWithin [.inl x1, .inl 0, .inl 3] h 0 0 (fun x_1 h_2 => (x_1 = 0 → F (some (.inr none)) h_2) ∧ (¬ (x_1 = 0) → bz_rR h_2 a0 11 4 (fun r_3 => bz_nn r_3 (fun a_4 => bz_rQ h_2 a_4 x1 (fun r_5 => F (some (.inr r_5)) h_2)))))) : bz_Call G l (d + 1) kX11_sheetAt [.inr (some a0), .inl x1] h mc ms F :=
  bz_body (by decide) (by decide) (fun κ hl => g_X11_sheetAt_0 hl a0 x1 h hP)
set_option maxRecDepth 20000 in
set_option maxHeartbeats 4000000 in
theorem g_X11_sheet_0 {G : bz_G} {κ : bz_K} {l : Launch} {d : Nat} {F : Option bz_V → bz_H → Prop} {bc bs : Nat} (hl : κ.2.1 = l) (a0 : Nat) (x1 : Int32) (x2 : Int32) (x3 : Int32) (h : bz_H) (hP : bz_rc h a0 11 (bz_cR G l d kX11_sheetAt [.inr (some a0), .inl x1] h 0 0 (fun r_1 h_2 => (r_1 = none → bz_rc h_2 a0 11 (bz_cI G l d kX11_finding [.inr (some a0), .inl (-1000001)] h_2 0 0 (fun x_4 h_5 => F (some (.inl x_4)) h_5))) ∧ (∀ a_3, r_1 = some a_3 → (x2 = 0 → (0 ≤ x3 → (x3 ≤ 60 → bz_rc h_2 a_3 5 (bz_cV G l d kX5_begin [.inr (some a_3), .inl x2, .inl x3] h_2 0 0 (fun h_7 => bz_rI h_7 a_3 5 2 (fun x_8 => F (some (.inl x_8)) h_7)))) ∧ (¬ (x3 ≤ 60) → bz_rc h_2 a0 11 (bz_cI G l d kX11_finding [.inr (some a0), .inl (-1000001)] h_2 0 0 (fun x_9 h_10 => F (some (.inl x_9)) h_10)))) ∧ (¬ (0 ≤ x3) → bz_rc h_2 a0 11 (bz_cI G l d kX11_finding [.inr (some a0), .inl (-1000007)] h_2 0 0 (fun x_11 h_12 => F (some (.inl x_11)) h_12)))) ∧ (¬ (x2 = 0) → (x2 = 8 → (0 ≤ x3 → (x3 ≤ 60 → bz_rc h_2 a_3 5 (bz_cV G l d kX5_begin [.inr (some a_3), .inl x2, .inl x3] h_2 0 0 (fun h_14 => bz_rI h_14 a_3 5 2 (fun x_15 => F (some (.inl x_15)) h_14)))) ∧ (¬ (x3 ≤ 60) → bz_rc h_2 a0 11 (bz_cI G l d kX11_finding [.inr (some a0), .inl (-1000001)] h_2 0 0 (fun x_16 h_17 => F (some (.inl x_16)) h_17)))) ∧ (¬ (0 ≤ x3) → bz_rc h_2 a0 11 (bz_cI G l d kX11_finding [.inr (some a0), .inl (-1000007)] h_2 0 0 (fun x_18 h_19 => F (some (.inl x_18)) h_19)))) ∧ (¬ (x2 = 8) → (x2 = 16 → (0 ≤ x3 → (x3 ≤ 60 → bz_rc h_2 a_3 5 (bz_cV G l d kX5_begin [.inr (some a_3), .inl x2, .inl x3] h_2 0 0 (fun h_21 => bz_rI h_21 a_3 5 2 (fun x_22 => F (some (.inl x_22)) h_21)))) ∧ (¬ (x3 ≤ 60) → bz_rc h_2 a0 11 (bz_cI G l d kX11_finding [.inr (some a0), .inl (-1000001)] h_2 0 0 (fun x_23 h_24 => F (some (.inl x_23)) h_24)))) ∧ (¬ (0 ≤ x3) → bz_rc h_2 a0 11 (bz_cI G l d kX11_finding [.inr (some a0), .inl (-1000007)] h_2 0 0 (fun x_25 h_26 => F (some (.inl x_25)) h_26)))) ∧ (¬ (x2 = 16) → (x2 = 32 → (0 ≤ x3 → (x3 ≤ 60 → bz_rc h_2 a_3 5 (bz_cV G l d kX5_begin [.inr (some a_3), .inl x2, .inl x3] h_2 0 0 (fun h_28 => bz_rI h_28 a_3 5 2 (fun x_29 => F (some (.inl x_29)) h_28)))) ∧ (¬ (x3 ≤ 60) → bz_rc h_2 a0 11 (bz_cI G l d kX11_finding [.inr (some a0), .inl (-1000001)] h_2 0 0 (fun x_30 h_31 => F (some (.inl x_30)) h_31)))) ∧ (¬ (0 ≤ x3) → bz_rc h_2 a0 11 (bz_cI G l d kX11_finding [.inr (some a0), .inl (-1000007)] h_2 0 0 (fun x_32 h_33 => F (some (.inl x_32)) h_33)))) ∧ (¬ (x2 = 32) → bz_rc h_2 a0 11 (bz_cI G l d kX11_finding [.inr (some a0), .inl (-1000001)] h_2 0 0 (fun x_34 h_35 => F (some (.inl x_34)) h_35)))))))))) : bz_J G κ kX11_sheet (d + 1) F bc bs 0 [some (.inr (some a0)), some (.inl x1), some (.inl x2), some (.inl x3), none] [] h := by
  subst hl
  refine bz_aload_n (pc := 0) dX11_sheet_0 rfl rfl ?_
  refine bz_iload_n (pc := 1) dX11_sheet_1 rfl rfl ?_
  refine bz_kRV (as := [.inl x1]) (st := []) (ci := 11) (pc := 2) dX11_sheet_2 sc_X11_sheetAt ml_X11_380 im_X11_sheetAt se_X11_sheetAt rfl rfl rfl (by decide) hP (fun r_1 h_2 hP => ?_)
  refine bz_s_astore (pc := 5) dX11_sheet_5 (by decide) [some (.inr (some a0)), some (.inl x1), some (.inl x2), some (.inl x3), some (.inr r_1)] rfl ?_
  refine bz_aload (pc := 7) dX11_sheet_7 rfl ?_
  refine bz_ifnull (tgt := 34) (pc := 9) dX11_sheet_9 (by decide) (fun c => ?_) (fun a_3 c => ?_)
  · have hP := hP.1 c
    subst c
    refine bz_aload_n (pc := 34) dX11_sheet_34 rfl rfl ?_
    refine bz_ldc (pc := 35) dX11_sheet_35 ct_X11_78 ?_
    refine bz_kIV (as := [.inl (-1000001)]) (st := []) (ci := 11) (pc := 37) dX11_sheet_37 sc_X11_finding ml_X11_79 im_X11_finding se_X11_finding rfl rfl rfl (by decide) hP (fun x_4 h_5 hP => ?_)
    exact bz_retI (pc := 40) dX11_sheet_40 rfl rfl hP
  · have hP := hP.2 a_3 c
    subst c
    refine bz_iload_n (pc := 12) dX11_sheet_12 rfl rfl ?_
    refine bz_if_eq (tgt := 41) (pc := 13) dX11_sheet_13 (by decide) (fun c => ?_) (fun c => ?_)
    · have hP := hP.1 c
      refine bz_iload_n (pc := 41) dX11_sheet_41 rfl rfl ?_
      refine bz_if_ge (tgt := 53) (pc := 42) dX11_sheet_42 (by decide) (fun c => ?_) (fun c => ?_)
      · have hP := hP.1 c
        refine bz_iload_n (pc := 53) dX11_sheet_53 rfl rfl ?_
        refine bz_bipush (v := 60) (pc := 54) dX11_sheet_54 (by decide) ?_
        refine bz_icmp_le (tgt := 66) (pc := 56) dX11_sheet_56 (by decide) (fun c => ?_) (fun c => ?_)
        · have hP := hP.1 c
          refine bz_aload (pc := 66) dX11_sheet_66 rfl ?_
          refine bz_iload_n (pc := 68) dX11_sheet_68 rfl rfl ?_
          refine bz_iload_n (pc := 69) dX11_sheet_69 rfl rfl ?_
          refine bz_kVV (as := [.inl x2, .inl x3]) (st := []) (ci := 5) (pc := 70) dX11_sheet_70 sc_X5_begin ml_X11_385 im_X5_begin se_X5_begin rfl rfl rfl (by decide) hP (fun h_7 hP => ?_)
          refine bz_aload (pc := 73) dX11_sheet_73 rfl ?_
          refine bz_rw_rI (pc := 75) dX11_sheet_75 fl_X11_388 hP (fun x_8 hP => ?_)
          exact bz_retI (pc := 78) dX11_sheet_78 rfl rfl hP
        · have hP := hP.2 c
          refine bz_aload_n (pc := 59) dX11_sheet_59 rfl rfl ?_
          refine bz_ldc (pc := 60) dX11_sheet_60 ct_X11_78 ?_
          refine bz_kIV (as := [.inl (-1000001)]) (st := []) (ci := 11) (pc := 62) dX11_sheet_62 sc_X11_finding ml_X11_79 im_X11_finding se_X11_finding rfl rfl rfl (by decide) hP (fun x_9 h_10 hP => ?_)
          exact bz_retI (pc := 65) dX11_sheet_65 rfl rfl hP
      · have hP := hP.2 c
        refine bz_aload_n (pc := 45) dX11_sheet_45 rfl rfl ?_
        refine bz_ldcw (pc := 46) dX11_sheet_46 ct_X11_384 ?_
        refine bz_kIV (as := [.inl (-1000007)]) (st := []) (ci := 11) (pc := 49) dX11_sheet_49 sc_X11_finding ml_X11_79 im_X11_finding se_X11_finding rfl rfl rfl (by decide) hP (fun x_11 h_12 hP => ?_)
        exact bz_retI (pc := 52) dX11_sheet_52 rfl rfl hP
    · have hP := hP.2 c
      refine bz_iload_n (pc := 16) dX11_sheet_16 rfl rfl ?_
      refine bz_bipush (v := 8) (pc := 17) dX11_sheet_17 (by decide) ?_
      refine bz_icmp_eq (tgt := 41) (pc := 19) dX11_sheet_19 (by decide) (fun c => ?_) (fun c => ?_)
      · have hP := hP.1 c
        refine bz_iload_n (pc := 41) dX11_sheet_41 rfl rfl ?_
        refine bz_if_ge (tgt := 53) (pc := 42) dX11_sheet_42 (by decide) (fun c => ?_) (fun c => ?_)
        · have hP := hP.1 c
          refine bz_iload_n (pc := 53) dX11_sheet_53 rfl rfl ?_
          refine bz_bipush (v := 60) (pc := 54) dX11_sheet_54 (by decide) ?_
          refine bz_icmp_le (tgt := 66) (pc := 56) dX11_sheet_56 (by decide) (fun c => ?_) (fun c => ?_)
          · have hP := hP.1 c
            refine bz_aload (pc := 66) dX11_sheet_66 rfl ?_
            refine bz_iload_n (pc := 68) dX11_sheet_68 rfl rfl ?_
            refine bz_iload_n (pc := 69) dX11_sheet_69 rfl rfl ?_
            refine bz_kVV (as := [.inl x2, .inl x3]) (st := []) (ci := 5) (pc := 70) dX11_sheet_70 sc_X5_begin ml_X11_385 im_X5_begin se_X5_begin rfl rfl rfl (by decide) hP (fun h_14 hP => ?_)
            refine bz_aload (pc := 73) dX11_sheet_73 rfl ?_
            refine bz_rw_rI (pc := 75) dX11_sheet_75 fl_X11_388 hP (fun x_15 hP => ?_)
            exact bz_retI (pc := 78) dX11_sheet_78 rfl rfl hP
          · have hP := hP.2 c
            refine bz_aload_n (pc := 59) dX11_sheet_59 rfl rfl ?_
            refine bz_ldc (pc := 60) dX11_sheet_60 ct_X11_78 ?_
            refine bz_kIV (as := [.inl (-1000001)]) (st := []) (ci := 11) (pc := 62) dX11_sheet_62 sc_X11_finding ml_X11_79 im_X11_finding se_X11_finding rfl rfl rfl (by decide) hP (fun x_16 h_17 hP => ?_)
            exact bz_retI (pc := 65) dX11_sheet_65 rfl rfl hP
        · have hP := hP.2 c
          refine bz_aload_n (pc := 45) dX11_sheet_45 rfl rfl ?_
          refine bz_ldcw (pc := 46) dX11_sheet_46 ct_X11_384 ?_
          refine bz_kIV (as := [.inl (-1000007)]) (st := []) (ci := 11) (pc := 49) dX11_sheet_49 sc_X11_finding ml_X11_79 im_X11_finding se_X11_finding rfl rfl rfl (by decide) hP (fun x_18 h_19 hP => ?_)
          exact bz_retI (pc := 52) dX11_sheet_52 rfl rfl hP
      · have hP := hP.2 c
        refine bz_iload_n (pc := 22) dX11_sheet_22 rfl rfl ?_
        refine bz_bipush (v := 16) (pc := 23) dX11_sheet_23 (by decide) ?_
        refine bz_icmp_eq (tgt := 41) (pc := 25) dX11_sheet_25 (by decide) (fun c => ?_) (fun c => ?_)
        · have hP := hP.1 c
          refine bz_iload_n (pc := 41) dX11_sheet_41 rfl rfl ?_
          refine bz_if_ge (tgt := 53) (pc := 42) dX11_sheet_42 (by decide) (fun c => ?_) (fun c => ?_)
          · have hP := hP.1 c
            refine bz_iload_n (pc := 53) dX11_sheet_53 rfl rfl ?_
            refine bz_bipush (v := 60) (pc := 54) dX11_sheet_54 (by decide) ?_
            refine bz_icmp_le (tgt := 66) (pc := 56) dX11_sheet_56 (by decide) (fun c => ?_) (fun c => ?_)
            · have hP := hP.1 c
              refine bz_aload (pc := 66) dX11_sheet_66 rfl ?_
              refine bz_iload_n (pc := 68) dX11_sheet_68 rfl rfl ?_
              refine bz_iload_n (pc := 69) dX11_sheet_69 rfl rfl ?_
              refine bz_kVV (as := [.inl x2, .inl x3]) (st := []) (ci := 5) (pc := 70) dX11_sheet_70 sc_X5_begin ml_X11_385 im_X5_begin se_X5_begin rfl rfl rfl (by decide) hP (fun h_21 hP => ?_)
              refine bz_aload (pc := 73) dX11_sheet_73 rfl ?_
              refine bz_rw_rI (pc := 75) dX11_sheet_75 fl_X11_388 hP (fun x_22 hP => ?_)
              exact bz_retI (pc := 78) dX11_sheet_78 rfl rfl hP
            · have hP := hP.2 c
              refine bz_aload_n (pc := 59) dX11_sheet_59 rfl rfl ?_
              refine bz_ldc (pc := 60) dX11_sheet_60 ct_X11_78 ?_
              refine bz_kIV (as := [.inl (-1000001)]) (st := []) (ci := 11) (pc := 62) dX11_sheet_62 sc_X11_finding ml_X11_79 im_X11_finding se_X11_finding rfl rfl rfl (by decide) hP (fun x_23 h_24 hP => ?_)
              exact bz_retI (pc := 65) dX11_sheet_65 rfl rfl hP
          · have hP := hP.2 c
            refine bz_aload_n (pc := 45) dX11_sheet_45 rfl rfl ?_
            refine bz_ldcw (pc := 46) dX11_sheet_46 ct_X11_384 ?_
            refine bz_kIV (as := [.inl (-1000007)]) (st := []) (ci := 11) (pc := 49) dX11_sheet_49 sc_X11_finding ml_X11_79 im_X11_finding se_X11_finding rfl rfl rfl (by decide) hP (fun x_25 h_26 hP => ?_)
            exact bz_retI (pc := 52) dX11_sheet_52 rfl rfl hP
        · have hP := hP.2 c
          refine bz_iload_n (pc := 28) dX11_sheet_28 rfl rfl ?_
          refine bz_bipush (v := 32) (pc := 29) dX11_sheet_29 (by decide) ?_
          refine bz_icmp_eq (tgt := 41) (pc := 31) dX11_sheet_31 (by decide) (fun c => ?_) (fun c => ?_)
          · have hP := hP.1 c
            refine bz_iload_n (pc := 41) dX11_sheet_41 rfl rfl ?_
            refine bz_if_ge (tgt := 53) (pc := 42) dX11_sheet_42 (by decide) (fun c => ?_) (fun c => ?_)
            · have hP := hP.1 c
              refine bz_iload_n (pc := 53) dX11_sheet_53 rfl rfl ?_
              refine bz_bipush (v := 60) (pc := 54) dX11_sheet_54 (by decide) ?_
              refine bz_icmp_le (tgt := 66) (pc := 56) dX11_sheet_56 (by decide) (fun c => ?_) (fun c => ?_)
              · have hP := hP.1 c
                refine bz_aload (pc := 66) dX11_sheet_66 rfl ?_
                refine bz_iload_n (pc := 68) dX11_sheet_68 rfl rfl ?_
                refine bz_iload_n (pc := 69) dX11_sheet_69 rfl rfl ?_
                refine bz_kVV (as := [.inl x2, .inl x3]) (st := []) (ci := 5) (pc := 70) dX11_sheet_70 sc_X5_begin ml_X11_385 im_X5_begin se_X5_begin rfl rfl rfl (by decide) hP (fun h_28 hP => ?_)
                refine bz_aload (pc := 73) dX11_sheet_73 rfl ?_
                refine bz_rw_rI (pc := 75) dX11_sheet_75 fl_X11_388 hP (fun x_29 hP => ?_)
                exact bz_retI (pc := 78) dX11_sheet_78 rfl rfl hP
              · have hP := hP.2 c
                refine bz_aload_n (pc := 59) dX11_sheet_59 rfl rfl ?_
                refine bz_ldc (pc := 60) dX11_sheet_60 ct_X11_78 ?_
                refine bz_kIV (as := [.inl (-1000001)]) (st := []) (ci := 11) (pc := 62) dX11_sheet_62 sc_X11_finding ml_X11_79 im_X11_finding se_X11_finding rfl rfl rfl (by decide) hP (fun x_30 h_31 hP => ?_)
                exact bz_retI (pc := 65) dX11_sheet_65 rfl rfl hP
            · have hP := hP.2 c
              refine bz_aload_n (pc := 45) dX11_sheet_45 rfl rfl ?_
              refine bz_ldcw (pc := 46) dX11_sheet_46 ct_X11_384 ?_
              refine bz_kIV (as := [.inl (-1000007)]) (st := []) (ci := 11) (pc := 49) dX11_sheet_49 sc_X11_finding ml_X11_79 im_X11_finding se_X11_finding rfl rfl rfl (by decide) hP (fun x_32 h_33 hP => ?_)
              exact bz_retI (pc := 52) dX11_sheet_52 rfl rfl hP
          · have hP := hP.2 c
            refine bz_aload_n (pc := 34) dX11_sheet_34 rfl rfl ?_
            refine bz_ldc (pc := 35) dX11_sheet_35 ct_X11_78 ?_
            refine bz_kIV (as := [.inl (-1000001)]) (st := []) (ci := 11) (pc := 37) dX11_sheet_37 sc_X11_finding ml_X11_79 im_X11_finding se_X11_finding rfl rfl rfl (by decide) hP (fun x_34 h_35 hP => ?_)
            exact bz_retI (pc := 40) dX11_sheet_40 rfl rfl hP
theorem m_X11_sheet {G : bz_G} {l : Launch} {d mc ms : Nat} {F : Option bz_V → bz_H → Prop} (a0 : Nat) (x1 : Int32) (x2 : Int32) (x3 : Int32) (h : bz_H) (hP : bz_rc h a0 11 (bz_cR G l d kX11_sheetAt [.inr (some a0), .inl x1] h 0 0 (fun r_1 h_2 => (r_1 = none → bz_rc h_2 a0 11 (bz_cI G l d kX11_finding [.inr (some a0), .inl (-1000001)] h_2 0 0 (fun x_4 h_5 => F (some (.inl x_4)) h_5))) ∧ (∀ a_3, r_1 = some a_3 → (x2 = 0 → (0 ≤ x3 → (x3 ≤ 60 → bz_rc h_2 a_3 5 (bz_cV G l d kX5_begin [.inr (some a_3), .inl x2, .inl x3] h_2 0 0 (fun h_7 => bz_rI h_7 a_3 5 2 (fun x_8 => F (some (.inl x_8)) h_7)))) ∧ (¬ (x3 ≤ 60) → bz_rc h_2 a0 11 (bz_cI G l d kX11_finding [.inr (some a0), .inl (-1000001)] h_2 0 0 (fun x_9 h_10 => F (some (.inl x_9)) h_10)))) ∧ (¬ (0 ≤ x3) → bz_rc h_2 a0 11 (bz_cI G l d kX11_finding [.inr (some a0), .inl (-1000007)] h_2 0 0 (fun x_11 h_12 => F (some (.inl x_11)) h_12)))) ∧ (¬ (x2 = 0) → (x2 = 8 → (0 ≤ x3 → (x3 ≤ 60 → bz_rc h_2 a_3 5 (bz_cV G l d kX5_begin [.inr (some a_3), .inl x2, .inl x3] h_2 0 0 (fun h_14 => bz_rI h_14 a_3 5 2 (fun x_15 => F (some (.inl x_15)) h_14)))) ∧ (¬ (x3 ≤ 60) → bz_rc h_2 a0 11 (bz_cI G l d kX11_finding [.inr (some a0), .inl (-1000001)] h_2 0 0 (fun x_16 h_17 => F (some (.inl x_16)) h_17)))) ∧ (¬ (0 ≤ x3) → bz_rc h_2 a0 11 (bz_cI G l d kX11_finding [.inr (some a0), .inl (-1000007)] h_2 0 0 (fun x_18 h_19 => F (some (.inl x_18)) h_19)))) ∧ (¬ (x2 = 8) → (x2 = 16 → (0 ≤ x3 → (x3 ≤ 60 → bz_rc h_2 a_3 5 (bz_cV G l d kX5_begin [.inr (some a_3), .inl x2, .inl x3] h_2 0 0 (fun h_21 => bz_rI h_21 a_3 5 2 (fun x_22 => F (some (.inl x_22)) h_21)))) ∧ (¬ (x3 ≤ 60) → bz_rc h_2 a0 11 (bz_cI G l d kX11_finding [.inr (some a0), .inl (-1000001)] h_2 0 0 (fun x_23 h_24 => F (some (.inl x_23)) h_24)))) ∧ (¬ (0 ≤ x3) → bz_rc h_2 a0 11 (bz_cI G l d kX11_finding [.inr (some a0), .inl (-1000007)] h_2 0 0 (fun x_25 h_26 => F (some (.inl x_25)) h_26)))) ∧ (¬ (x2 = 16) → (x2 = 32 → (0 ≤ x3 → (x3 ≤ 60 → bz_rc h_2 a_3 5 (bz_cV G l d kX5_begin [.inr (some a_3), .inl x2, .inl x3] h_2 0 0 (fun h_28 => bz_rI h_28 a_3 5 2 (fun x_29 => F (some (.inl x_29)) h_28)))) ∧ (¬ (x3 ≤ 60) → bz_rc h_2 a0 11 (bz_cI G l d kX11_finding [.inr (some a0), .inl (-1000001)] h_2 0 0 (fun x_30 h_31 => F (some (.inl x_30)) h_31)))) ∧ (¬ (0 ≤ x3) → bz_rc h_2 a0 11 (bz_cI G l d kX11_finding [.inr (some a0), .inl (-1000007)] h_2 0 0 (fun x_32 h_33 => F (some (.inl x_32)) h_33)))) ∧ (¬ (x2 = 32) → bz_rc h_2 a0 11 (bz_cI G l d kX11_finding [.inr (some a0), .inl (-1000001)] h_2 0 0 (fun x_34 h_35 => F (some (.inl x_34)) h_35)))))))))) : bz_Call G l (d + 1) kX11_sheet [.inr (some a0), .inl x1, .inl x2, .inl x3] h mc ms F :=
  bz_body (by decide) (by decide) (fun κ hl => g_X11_sheet_0 hl a0 x1 x2 x3 h hP)
set_option maxRecDepth 20000 in
set_option maxHeartbeats 4000000 in
theorem g_X11_starves_0 {G : bz_G} {κ : bz_K} {l : Launch} {d : Nat} {F : Option bz_V → bz_H → Prop} {bc bs : Nat} (hl : κ.2.1 = l) (a0 : Nat) (x1 : Int32) (h : bz_H) (hP : bz_cI G l d kX11_isMinute [.inl x1] h 0 0 (fun x_1 h_2 => (¬ x_1 = 0 → bz_J G κ kX11_starves (d + 1) F bc bs 21 [some (.inr (some a0)), some (.inl x1), some (.inl (-1)), some (.inl 0), some (.inl 0), none] [] h_2) ∧ (x_1 = 0 → bz_rc h_2 a0 11 (bz_cI G l d kX11_finding [.inr (some a0), .inl (-1000001)] h_2 0 0 (fun x_3 h_4 => F (some (.inl x_3)) h_4))))) : bz_J G κ kX11_starves (d + 1) F bc bs 0 [some (.inr (some a0)), some (.inl x1), none, none, none, none] [] h := by
  subst hl
  refine bz_iload_n (pc := 0) dX11_starves_0 rfl rfl ?_
  refine bz_kIS (as := [.inl x1]) (st := []) (pc := 1) dX11_starves_1 sc_X11_isMinute ml_X11_313 ss_X11_isMinute rfl (by decide) hP (fun x_1 h_2 hP => ?_)
  refine bz_if_ne (tgt := 14) (pc := 4) dX11_starves_4 (by decide) (fun c => ?_) (fun c => ?_)
  · have hP := hP.1 c
    refine bz_iconst (v := (-1)) (pc := 14) dX11_starves_14 (by decide) ?_
    refine bz_s_istore_n (pc := 15) dX11_starves_15 rfl (by decide) [some (.inr (some a0)), some (.inl x1), some (.inl (-1)), none, none, none] rfl ?_
    refine bz_iconst (v := 0) (pc := 16) dX11_starves_16 (by decide) ?_
    refine bz_s_istore_n (pc := 17) dX11_starves_17 rfl (by decide) [some (.inr (some a0)), some (.inl x1), some (.inl (-1)), some (.inl 0), none, none] rfl ?_
    refine bz_iconst (v := 0) (pc := 18) dX11_starves_18 (by decide) ?_
    refine bz_s_istore (pc := 19) dX11_starves_19 (by decide) [some (.inr (some a0)), some (.inl x1), some (.inl (-1)), some (.inl 0), some (.inl 0), none] rfl ?_
    exact hP
  · have hP := hP.2 c
    refine bz_aload_n (pc := 7) dX11_starves_7 rfl rfl ?_
    refine bz_ldc (pc := 8) dX11_starves_8 ct_X11_78 ?_
    refine bz_kIV (as := [.inl (-1000001)]) (st := []) (ci := 11) (pc := 10) dX11_starves_10 sc_X11_finding ml_X11_79 im_X11_finding se_X11_finding rfl rfl rfl (by decide) hP (fun x_3 h_4 hP => ?_)
    exact bz_retI (pc := 13) dX11_starves_13 rfl rfl hP
set_option maxRecDepth 20000 in
set_option maxHeartbeats 4000000 in
theorem g_X11_starves_21 {G : bz_G} {κ : bz_K} {l : Launch} {d : Nat} {F : Option bz_V → bz_H → Prop} {bc bs : Nat} (hl : κ.2.1 = l) (a0 : Nat) (x1 : Int32) (x2 : Int32) (x3 : Int32) (x4 : Int32) (u5 : Option bz_V) (h : bz_H) (hP : (4 ≤ x4 → (0 ≤ x2 → F (some (.inl x2)) h) ∧ (¬ (0 ≤ x2) → bz_rc h a0 11 (bz_cI G l d kX11_finding [.inr (some a0), .inl (-1000004)] h 0 0 (fun x_5 h_6 => F (some (.inl x_5)) h_6)))) ∧ (¬ (4 ≤ x4) → bz_rR h a0 11 0 (fun r_7 => bz_nn r_7 (fun a_10 => bz_rc h a_10 10 (bz_cI G l d kX10_waitingIn [.inr (some a_10), .inl x4, .inl x1] h 0 0 (fun x_8 h_9 => (x_8 ≤ x3 → bz_J G κ kX11_starves (d + 1) F bc bs 21 [some (.inr (some a0)), some (.inl x1), some (.inl x2), some (.inl x3), some (.inl (x4 + 1)), some (.inl x_8)] [] h_9) ∧ (¬ (x_8 ≤ x3) → bz_J G κ kX11_starves (d + 1) F bc bs 21 [some (.inr (some a0)), some (.inl x1), some (.inl x4), some (.inl x_8), some (.inl (x4 + 1)), some (.inl x_8)] [] h_9))))))) : bz_J G κ kX11_starves (d + 1) F bc bs 21 [some (.inr (some a0)), some (.inl x1), some (.inl x2), some (.inl x3), some (.inl x4), u5] [] h := by
  subst hl
  refine bz_iload (pc := 21) dX11_starves_21 rfl ?_
  refine bz_iconst (v := 4) (pc := 23) dX11_starves_23 (by decide) ?_
  refine bz_icmp_ge (tgt := 57) (pc := 24) dX11_starves_24 (by decide) (fun c => ?_) (fun c => ?_)
  · have hP := hP.1 c
    refine bz_iload_n (pc := 57) dX11_starves_57 rfl rfl ?_
    refine bz_if_ge (tgt := 70) (pc := 58) dX11_starves_58 (by decide) (fun c => ?_) (fun c => ?_)
    · have hP := hP.1 c
      refine bz_iload_n (pc := 70) dX11_starves_70 rfl rfl ?_
      exact bz_retI (pc := 71) dX11_starves_71 rfl rfl hP
    · have hP := hP.2 c
      refine bz_aload_n (pc := 61) dX11_starves_61 rfl rfl ?_
      refine bz_ldc (pc := 62) dX11_starves_62 ct_X11_102 ?_
      refine bz_kIV (as := [.inl (-1000004)]) (st := []) (ci := 11) (pc := 64) dX11_starves_64 sc_X11_finding ml_X11_79 im_X11_finding se_X11_finding rfl rfl rfl (by decide) hP (fun x_5 h_6 hP => ?_)
      refine bz_goto (tgt := 71) (pc := 67) dX11_starves_67 (by decide) ?_
      exact bz_retI (pc := 71) dX11_starves_71 rfl rfl hP
  · have hP := hP.2 c
    refine bz_aload_n (pc := 27) dX11_starves_27 rfl rfl ?_
    refine bz_rw_rR (pc := 28) dX11_starves_28 fl_X11_12 hP (fun r_7 hP => ?_)
    refine bz_iload (pc := 31) dX11_starves_31 rfl ?_
    refine bz_iload_n (pc := 33) dX11_starves_33 rfl rfl ?_
    obtain ⟨a_10, rfl, hP⟩ := hP
    refine bz_kIV (as := [.inl x4, .inl x1]) (st := []) (ci := 10) (pc := 34) dX11_starves_34 sc_X10_waitingIn ml_X11_349 im_X10_waitingIn se_X10_waitingIn rfl rfl rfl (by decide) hP (fun x_8 h_9 hP => ?_)
    refine bz_s_istore (pc := 37) dX11_starves_37 (by decide) [some (.inr (some a0)), some (.inl x1), some (.inl x2), some (.inl x3), some (.inl x4), some (.inl x_8)] rfl ?_
    refine bz_iload (pc := 39) dX11_starves_39 rfl ?_
    refine bz_iload_n (pc := 41) dX11_starves_41 rfl rfl ?_
    refine bz_icmp_le (tgt := 51) (pc := 42) dX11_starves_42 (by decide) (fun c => ?_) (fun c => ?_)
    · have hP := hP.1 c
      refine bz_s_iinc (pc := 51) dX11_starves_51 (by decide) rfl rfl [some (.inr (some a0)), some (.inl x1), some (.inl x2), some (.inl x3), some (.inl (x4 + 1)), some (.inl x_8)] rfl ?_
      refine bz_goto (tgt := 21) (pc := 54) dX11_starves_54 (by decide) ?_
      exact hP
    · have hP := hP.2 c
      refine bz_iload (pc := 45) dX11_starves_45 rfl ?_
      refine bz_s_istore_n (pc := 47) dX11_starves_47 rfl (by decide) [some (.inr (some a0)), some (.inl x1), some (.inl x2), some (.inl x_8), some (.inl x4), some (.inl x_8)] rfl ?_
      refine bz_iload (pc := 48) dX11_starves_48 rfl ?_
      refine bz_s_istore_n (pc := 50) dX11_starves_50 rfl (by decide) [some (.inr (some a0)), some (.inl x1), some (.inl x4), some (.inl x_8), some (.inl x4), some (.inl x_8)] rfl ?_
      refine bz_s_iinc (pc := 51) dX11_starves_51 (by decide) rfl rfl [some (.inr (some a0)), some (.inl x1), some (.inl x4), some (.inl x_8), some (.inl (x4 + 1)), some (.inl x_8)] rfl ?_
      refine bz_goto (tgt := 21) (pc := 54) dX11_starves_54 (by decide) ?_
      exact hP
theorem m_X11_starves {G : bz_G} {l : Launch} {d mc ms : Nat} {F : Option bz_V → bz_H → Prop} (a0 : Nat) (x1 : Int32) (h : bz_H) (hP : ∀ (κ : bz_K) (bc bs : Nat), κ.2.1 = l → bz_cI G l d kX11_isMinute [.inl x1] h 0 0 (fun x_1 h_2 => (¬ x_1 = 0 → bz_J G κ kX11_starves (d + 1) F bc bs 21 [some (.inr (some a0)), some (.inl x1), some (.inl (-1)), some (.inl 0), some (.inl 0), none] [] h_2) ∧ (x_1 = 0 → bz_rc h_2 a0 11 (bz_cI G l d kX11_finding [.inr (some a0), .inl (-1000001)] h_2 0 0 (fun x_3 h_4 => F (some (.inl x_3)) h_4))))) : bz_Call G l (d + 1) kX11_starves [.inr (some a0), .inl x1] h mc ms F :=
  bz_body (by decide) (by decide) (fun κ hl => g_X11_starves_0 hl a0 x1 h (hP κ mc ms hl))
set_option maxRecDepth 20000 in
set_option maxHeartbeats 4000000 in
theorem g_X11_status_0 {G : bz_G} {κ : bz_K} {l : Launch} {d : Nat} {F : Option bz_V → bz_H → Prop} {bc bs : Nat} (hl : κ.2.1 = l) (a0 : Nat) (x1 : Int32) (h : bz_H) (hP : bz_cI G l d kX11_isWithin [.inl x1, .inl (-1), .inl 6] h 0 0 (fun x_1 h_2 => (¬ x_1 = 0 → (x1 < 0 → bz_J G κ kX11_status (d + 1) F bc bs 32 [some (.inr (some a0)), some (.inl x1), some (.inl 0), some (.inl 0)] [] h_2) ∧ (¬ (x1 < 0) → bz_rR h_2 a0 11 5 (fun r_3 => bz_nn r_3 (fun a_4 => bz_rA h_2 a_4 x1 (fun x_5 => F (some (.inl x_5)) h_2))))) ∧ (x_1 = 0 → bz_rc h_2 a0 11 (bz_cI G l d kX11_finding [.inr (some a0), .inl (-1000001)] h_2 0 0 (fun x_6 h_7 => F (some (.inl x_6)) h_7))))) : bz_J G κ kX11_status (d + 1) F bc bs 0 [some (.inr (some a0)), some (.inl x1), none, none] [] h := by
  subst hl
  refine bz_iload_n (pc := 0) dX11_status_0 rfl rfl ?_
  refine bz_iconst (v := (-1)) (pc := 1) dX11_status_1 (by decide) ?_
  refine bz_bipush (v := 6) (pc := 2) dX11_status_2 (by decide) ?_
  refine bz_kIS (as := [.inl x1, .inl (-1), .inl 6]) (st := []) (pc := 4) dX11_status_4 sc_X11_isWithin ml_X11_74 ss_X11_isWithin rfl (by decide) hP (fun x_1 h_2 hP => ?_)
  refine bz_if_ne (tgt := 17) (pc := 7) dX11_status_7 (by decide) (fun c => ?_) (fun c => ?_)
  · have hP := hP.1 c
    refine bz_iload_n (pc := 17) dX11_status_17 rfl rfl ?_
    refine bz_if_lt (tgt := 28) (pc := 18) dX11_status_18 (by decide) (fun c => ?_) (fun c => ?_)
    · have hP := hP.1 c
      refine bz_iconst (v := 0) (pc := 28) dX11_status_28 (by decide) ?_
      refine bz_s_istore_n (pc := 29) dX11_status_29 rfl (by decide) [some (.inr (some a0)), some (.inl x1), some (.inl 0), none] rfl ?_
      refine bz_iconst (v := 0) (pc := 30) dX11_status_30 (by decide) ?_
      refine bz_s_istore_n (pc := 31) dX11_status_31 rfl (by decide) [some (.inr (some a0)), some (.inl x1), some (.inl 0), some (.inl 0)] rfl ?_
      exact hP
    · have hP := hP.2 c
      refine bz_aload_n (pc := 21) dX11_status_21 rfl rfl ?_
      refine bz_rw_rR (pc := 22) dX11_status_22 fl_X11_37 hP (fun r_3 hP => ?_)
      refine bz_iload_n (pc := 25) dX11_status_25 rfl rfl ?_
      obtain ⟨a_4, rfl, hP⟩ := hP
      refine bz_rw_rA (pc := 26) dX11_status_26 hP (fun x_5 hP => ?_)
      exact bz_retI (pc := 27) dX11_status_27 rfl rfl hP
  · have hP := hP.2 c
    refine bz_aload_n (pc := 10) dX11_status_10 rfl rfl ?_
    refine bz_ldc (pc := 11) dX11_status_11 ct_X11_78 ?_
    refine bz_kIV (as := [.inl (-1000001)]) (st := []) (ci := 11) (pc := 13) dX11_status_13 sc_X11_finding ml_X11_79 im_X11_finding se_X11_finding rfl rfl rfl (by decide) hP (fun x_6 h_7 hP => ?_)
    exact bz_retI (pc := 16) dX11_status_16 rfl rfl hP
set_option maxRecDepth 20000 in
set_option maxHeartbeats 4000000 in
theorem g_X11_status_32 {G : bz_G} {κ : bz_K} {l : Launch} {d : Nat} {F : Option bz_V → bz_H → Prop} {bc bs : Nat} (hl : κ.2.1 = l) (a0 : Nat) (x1 : Int32) (x2 : Int32) (x3 : Int32) (h : bz_H) (hP : (7 ≤ x3 → F (some (.inl x2)) h) ∧ (¬ (7 ≤ x3) → bz_rR h a0 11 5 (fun r_8 => bz_nn r_8 (fun a_9 => bz_rA h a_9 x3 (fun x_10 => bz_J G κ kX11_status (d + 1) F bc bs 32 [some (.inr (some a0)), some (.inl x1), some (.inl (x2 + x_10)), some (.inl (x3 + 1))] [] h))))) : bz_J G κ kX11_status (d + 1) F bc bs 32 [some (.inr (some a0)), some (.inl x1), some (.inl x2), some (.inl x3)] [] h := by
  subst hl
  refine bz_iload_n (pc := 32) dX11_status_32 rfl rfl ?_
  refine bz_bipush (v := 7) (pc := 33) dX11_status_33 (by decide) ?_
  refine bz_icmp_ge (tgt := 53) (pc := 35) dX11_status_35 (by decide) (fun c => ?_) (fun c => ?_)
  · have hP := hP.1 c
    refine bz_iload_n (pc := 53) dX11_status_53 rfl rfl ?_
    exact bz_retI (pc := 54) dX11_status_54 rfl rfl hP
  · have hP := hP.2 c
    refine bz_iload_n (pc := 38) dX11_status_38 rfl rfl ?_
    refine bz_aload_n (pc := 39) dX11_status_39 rfl rfl ?_
    refine bz_rw_rR (pc := 40) dX11_status_40 fl_X11_37 hP (fun r_8 hP => ?_)
    refine bz_iload_n (pc := 43) dX11_status_43 rfl rfl ?_
    obtain ⟨a_9, rfl, hP⟩ := hP
    refine bz_rw_rA (pc := 44) dX11_status_44 hP (fun x_10 hP => ?_)
    refine bz_iadd (pc := 45) dX11_status_45 ?_
    refine bz_s_istore_n (pc := 46) dX11_status_46 rfl (by decide) [some (.inr (some a0)), some (.inl x1), some (.inl (x2 + x_10)), some (.inl x3)] rfl ?_
    refine bz_s_iinc (pc := 47) dX11_status_47 (by decide) rfl rfl [some (.inr (some a0)), some (.inl x1), some (.inl (x2 + x_10)), some (.inl (x3 + 1))] rfl ?_
    refine bz_goto (tgt := 32) (pc := 50) dX11_status_50 (by decide) ?_
    exact hP
theorem m_X11_status {G : bz_G} {l : Launch} {d mc ms : Nat} {F : Option bz_V → bz_H → Prop} (a0 : Nat) (x1 : Int32) (h : bz_H) (hP : ∀ (κ : bz_K) (bc bs : Nat), κ.2.1 = l → bz_cI G l d kX11_isWithin [.inl x1, .inl (-1), .inl 6] h 0 0 (fun x_1 h_2 => (¬ x_1 = 0 → (x1 < 0 → bz_J G κ kX11_status (d + 1) F bc bs 32 [some (.inr (some a0)), some (.inl x1), some (.inl 0), some (.inl 0)] [] h_2) ∧ (¬ (x1 < 0) → bz_rR h_2 a0 11 5 (fun r_3 => bz_nn r_3 (fun a_4 => bz_rA h_2 a_4 x1 (fun x_5 => F (some (.inl x_5)) h_2))))) ∧ (x_1 = 0 → bz_rc h_2 a0 11 (bz_cI G l d kX11_finding [.inr (some a0), .inl (-1000001)] h_2 0 0 (fun x_6 h_7 => F (some (.inl x_6)) h_7))))) : bz_Call G l (d + 1) kX11_status [.inr (some a0), .inl x1] h mc ms F :=
  bz_body (by decide) (by decide) (fun κ hl => g_X11_status_0 hl a0 x1 h (hP κ mc ms hl))
set_option maxRecDepth 20000 in
set_option maxHeartbeats 4000000 in
theorem g_X11_tear_0 {G : bz_G} {κ : bz_K} {l : Launch} {d : Nat} {F : Option bz_V → bz_H → Prop} {bc bs : Nat} (hl : κ.2.1 = l) (a0 : Nat) (h : bz_H) (hP : bz_rI h a0 11 2 (fun x_1 => bz_b 0 (bz_wI h a0 11 2 0 (fun h_2 => F (some (.inl (if x_1 = 0 then 0 else 1))) h_2)))) : bz_J G κ kX11_tear (d + 1) F bc bs 0 [some (.inr (some a0)), none] [] h := by
  subst hl
  refine bz_aload_n (pc := 0) dX11_tear_0 rfl rfl ?_
  refine bz_rw_rI (pc := 1) dX11_tear_1 fl_X11_19 hP (fun x_1 hP => ?_)
  have hJ : bz_J G κ kX11_tear (d + 1) F bc bs 12 [some (.inr (some a0)), none] [.inl (if x_1 = 0 then 0 else 1)] h := by
    refine bz_s_istore_n (pc := 12) dX11_tear_12 rfl (by decide) [some (.inr (some a0)), some (.inl (if x_1 = 0 then 0 else 1))] rfl ?_
    refine bz_aload_n (pc := 13) dX11_tear_13 rfl rfl ?_
    refine bz_iconst (v := 0) (pc := 14) dX11_tear_14 (by decide) ?_
    refine bz_rw_wZ (pc := 15) dX11_tear_15 fl_X11_19 (fun q h9 => by cases h9; rfl) rfl hP (fun h_2 hP => ?_)
    refine bz_iload_n (pc := 18) dX11_tear_18 rfl rfl ?_
    exact bz_retI (pc := 19) dX11_tear_19 rfl rfl hP
  refine bz_if_eq (tgt := 11) (pc := 4) dX11_tear_4 (by decide) (fun c => ?_) (fun c => ?_)
  · have e9 : ((if x_1 = 0 then 0 else 1) : Int32) = (0) := if_pos c
    rw [e9] at hJ
    refine bz_iconst (v := 0) (pc := 11) dX11_tear_11 (by decide) ?_
    exact hJ
  · have e9 : ((if x_1 = 0 then 0 else 1) : Int32) = (1) := if_neg c
    rw [e9] at hJ
    refine bz_iconst (v := 1) (pc := 7) dX11_tear_7 (by decide) ?_
    refine bz_goto (tgt := 12) (pc := 8) dX11_tear_8 (by decide) ?_
    exact hJ
theorem m_X11_tear {G : bz_G} {l : Launch} {d mc ms : Nat} {F : Option bz_V → bz_H → Prop} (a0 : Nat) (h : bz_H) (hP : bz_rI h a0 11 2 (fun x_1 => bz_b 0 (bz_wI h a0 11 2 0 (fun h_2 => F (some (.inl (if x_1 = 0 then 0 else 1))) h_2)))) : bz_Call G l (d + 1) kX11_tear [.inr (some a0)] h mc ms F :=
  bz_body (by decide) (by decide) (fun κ hl => g_X11_tear_0 hl a0 h hP)
