set_option maxRecDepth 20000 in
set_option maxHeartbeats 4000000 in
theorem g_X12_tear_0 {G : bz_G} {κ : bz_K} {l : Launch} {d : Nat} {F : Option bz_V → bz_H → Prop} {bc bs : Nat} (hl : κ.2.1 = l) (a0 : Nat) (h : bz_H) (hP : bz_rI h a0 12 2 (fun x_1 => bz_b 0 (bz_wI h a0 12 2 0 (fun h_2 => F (some (.inl (if x_1 = 0 then 0 else 1))) h_2)))) : bz_J G κ kX12_tear (d + 1) F bc bs 0 [some (.inr (some a0)), none] [] h := by
  subst hl
  refine bz_aload_n (pc := 0) dX12_tear_0 rfl rfl ?_
  refine bz_rw_rI (pc := 1) dX12_tear_1 fl_X12_344 hP (fun x_1 hP => ?_)
  have hJ : bz_J G κ kX12_tear (d + 1) F bc bs 12 [some (.inr (some a0)), none] [.inl (if x_1 = 0 then 0 else 1)] h := by
    refine bz_s_istore_n (pc := 12) dX12_tear_12 rfl (by decide) [some (.inr (some a0)), some (.inl (if x_1 = 0 then 0 else 1))] rfl ?_
    refine bz_aload_n (pc := 13) dX12_tear_13 rfl rfl ?_
    refine bz_iconst (v := 0) (pc := 14) dX12_tear_14 (by decide) ?_
    refine bz_rw_wZ (pc := 15) dX12_tear_15 fl_X12_344 (fun q h9 => by cases h9; rfl) rfl hP (fun h_2 hP => ?_)
    refine bz_iload_n (pc := 18) dX12_tear_18 rfl rfl ?_
    exact bz_retI (pc := 19) dX12_tear_19 rfl rfl hP
  refine bz_if_eq (tgt := 11) (pc := 4) dX12_tear_4 (by decide) (fun c => ?_) (fun c => ?_)
  · have e9 : ((if x_1 = 0 then 0 else 1) : Int32) = (0) := if_pos c
    rw [e9] at hJ
    refine bz_iconst (v := 0) (pc := 11) dX12_tear_11 (by decide) ?_
    exact hJ
  · have e9 : ((if x_1 = 0 then 0 else 1) : Int32) = (1) := if_neg c
    rw [e9] at hJ
    refine bz_iconst (v := 1) (pc := 7) dX12_tear_7 (by decide) ?_
    refine bz_goto (tgt := 12) (pc := 8) dX12_tear_8 (by decide) ?_
    exact hJ
theorem m_X12_tear {G : bz_G} {l : Launch} {d mc ms : Nat} {F : Option bz_V → bz_H → Prop} (a0 : Nat) (h : bz_H) (hP : bz_rI h a0 12 2 (fun x_1 => bz_b 0 (bz_wI h a0 12 2 0 (fun h_2 => F (some (.inl (if x_1 = 0 then 0 else 1))) h_2)))) : bz_Call G l (d + 1) kX12_tear [.inr (some a0)] h mc ms F :=
  bz_body (by decide) (by decide) (fun κ hl => g_X12_tear_0 hl a0 h hP)
set_option maxRecDepth 20000 in
set_option maxHeartbeats 4000000 in
theorem g_X12_term_0 {G : bz_G} {κ : bz_K} {l : Launch} {d : Nat} {F : Option bz_V → bz_H → Prop} {bc bs : Nat} (hl : κ.2.1 = l) (a0 : Nat) (h : bz_H) (hP : bz_rc h a0 12 (bz_cI G l d kX12_one [.inr (some a0)] h 0 0 (fun x_1 h_2 => (¬ x_1 = 0 → bz_J G κ kX12_term (d + 1) F bc bs 9 [some (.inr (some a0)), none] [] h_2) ∧ (x_1 = 0 → F (some (.inl 0)) h_2)))) : bz_J G κ kX12_term (d + 1) F bc bs 0 [some (.inr (some a0)), none] [] h := by
  subst hl
  refine bz_aload_n (pc := 0) dX12_term_0 rfl rfl ?_
  refine bz_kIV (as := []) (st := []) (ci := 12) (pc := 1) dX12_term_1 sc_X12_one ml_X12_281 im_X12_one se_X12_one rfl rfl rfl (by decide) hP (fun x_1 h_2 hP => ?_)
  refine bz_if_ne (tgt := 9) (pc := 4) dX12_term_4 (by decide) (fun c => ?_) (fun c => ?_)
  · have hP := hP.1 c
    exact hP
  · have hP := hP.2 c
    refine bz_iconst (v := 0) (pc := 7) dX12_term_7 (by decide) ?_
    exact bz_retI (pc := 8) dX12_term_8 rfl rfl hP
set_option maxRecDepth 20000 in
set_option maxHeartbeats 4000000 in
theorem g_X12_term_9 {G : bz_G} {κ : bz_K} {l : Launch} {d : Nat} {F : Option bz_V → bz_H → Prop} {bc bs : Nat} (hl : κ.2.1 = l) (a0 : Nat) (u1 : Option bz_V) (h : bz_H) (hP : bz_rc h a0 12 (bz_cI G l d kX12_isSign [.inr (some a0), .inl 42] h 0 0 (fun x_3 h_4 => (¬ x_3 = 0 → bz_rI h_4 a0 12 18 (fun x_5 => bz_rc h_4 a0 12 (bz_cV G l d kX12_next [.inr (some a0)] h_4 0 0 (fun h_7 => bz_rc h_7 a0 12 (bz_cI G l d kX12_one [.inr (some a0)] h_7 0 0 (fun x_8 h_9 => (¬ x_8 = 0 → bz_rc h_9 a0 12 (bz_cV G l d kX12_lays [.inr (some a0), .inl 3, .inl x_5] h_9 0 0 (fun h_11 => bz_J G κ kX12_term (d + 1) F bc bs 9 [some (.inr (some a0)), some (.inl x_5)] [] h_11))) ∧ (x_8 = 0 → F (some (.inl 0)) h_9))))))) ∧ (x_3 = 0 → bz_rc h_4 a0 12 (bz_cI G l d kX12_isSign [.inr (some a0), .inl 47] h_4 0 0 (fun x_12 h_13 => (x_12 = 0 → F (some (.inl 1)) h_13) ∧ (¬ (x_12 = 0) → bz_rI h_13 a0 12 18 (fun x_14 => bz_rc h_13 a0 12 (bz_cV G l d kX12_next [.inr (some a0)] h_13 0 0 (fun h_16 => bz_rc h_16 a0 12 (bz_cI G l d kX12_one [.inr (some a0)] h_16 0 0 (fun x_17 h_18 => (¬ x_17 = 0 → bz_rc h_18 a0 12 (bz_cV G l d kX12_lays [.inr (some a0), .inl 3, .inl x_14] h_18 0 0 (fun h_20 => bz_J G κ kX12_term (d + 1) F bc bs 9 [some (.inr (some a0)), some (.inl x_14)] [] h_20))) ∧ (x_17 = 0 → F (some (.inl 0)) h_18))))))))))))) : bz_J G κ kX12_term (d + 1) F bc bs 9 [some (.inr (some a0)), u1] [] h := by
  subst hl
  refine bz_aload_n (pc := 9) dX12_term_9 rfl rfl ?_
  refine bz_bipush (v := 42) (pc := 10) dX12_term_10 (by decide) ?_
  refine bz_kIV (as := [.inl 42]) (st := []) (ci := 12) (pc := 12) dX12_term_12 sc_X12_isSign ml_X12_272 im_X12_isSign se_X12_isSign rfl rfl rfl (by decide) hP (fun x_3 h_4 hP => ?_)
  refine bz_if_ne (tgt := 27) (pc := 15) dX12_term_15 (by decide) (fun c => ?_) (fun c => ?_)
  · have hP := hP.1 c
    refine bz_aload_n (pc := 27) dX12_term_27 rfl rfl ?_
    refine bz_rw_rI (pc := 28) dX12_term_28 fl_X12_247 hP (fun x_5 hP => ?_)
    refine bz_s_istore_n (pc := 31) dX12_term_31 rfl (by decide) [some (.inr (some a0)), some (.inl x_5)] rfl ?_
    refine bz_aload_n (pc := 32) dX12_term_32 rfl rfl ?_
    refine bz_kVV (as := []) (st := []) (ci := 12) (pc := 33) dX12_term_33 sc_X12_next ml_X12_265 im_X12_next se_X12_next rfl rfl rfl (by decide) hP (fun h_7 hP => ?_)
    refine bz_aload_n (pc := 36) dX12_term_36 rfl rfl ?_
    refine bz_kIV (as := []) (st := []) (ci := 12) (pc := 37) dX12_term_37 sc_X12_one ml_X12_281 im_X12_one se_X12_one rfl rfl rfl (by decide) hP (fun x_8 h_9 hP => ?_)
    refine bz_if_ne (tgt := 45) (pc := 40) dX12_term_40 (by decide) (fun c => ?_) (fun c => ?_)
    · have hP := hP.1 c
      refine bz_aload_n (pc := 45) dX12_term_45 rfl rfl ?_
      refine bz_iconst (v := 3) (pc := 46) dX12_term_46 (by decide) ?_
      refine bz_iload_n (pc := 47) dX12_term_47 rfl rfl ?_
      refine bz_kVV (as := [.inl 3, .inl x_5]) (st := []) (ci := 12) (pc := 48) dX12_term_48 sc_X12_lays ml_X12_275 im_X12_lays se_X12_lays rfl rfl rfl (by decide) hP (fun h_11 hP => ?_)
      refine bz_goto (tgt := 9) (pc := 51) dX12_term_51 (by decide) ?_
      exact hP
    · have hP := hP.2 c
      refine bz_iconst (v := 0) (pc := 43) dX12_term_43 (by decide) ?_
      exact bz_retI (pc := 44) dX12_term_44 rfl rfl hP
  · have hP := hP.2 c
    refine bz_aload_n (pc := 18) dX12_term_18 rfl rfl ?_
    refine bz_bipush (v := 47) (pc := 19) dX12_term_19 (by decide) ?_
    refine bz_kIV (as := [.inl 47]) (st := []) (ci := 12) (pc := 21) dX12_term_21 sc_X12_isSign ml_X12_272 im_X12_isSign se_X12_isSign rfl rfl rfl (by decide) hP (fun x_12 h_13 hP => ?_)
    refine bz_if_eq (tgt := 54) (pc := 24) dX12_term_24 (by decide) (fun c => ?_) (fun c => ?_)
    · have hP := hP.1 c
      refine bz_iconst (v := 1) (pc := 54) dX12_term_54 (by decide) ?_
      exact bz_retI (pc := 55) dX12_term_55 rfl rfl hP
    · have hP := hP.2 c
      refine bz_aload_n (pc := 27) dX12_term_27 rfl rfl ?_
      refine bz_rw_rI (pc := 28) dX12_term_28 fl_X12_247 hP (fun x_14 hP => ?_)
      refine bz_s_istore_n (pc := 31) dX12_term_31 rfl (by decide) [some (.inr (some a0)), some (.inl x_14)] rfl ?_
      refine bz_aload_n (pc := 32) dX12_term_32 rfl rfl ?_
      refine bz_kVV (as := []) (st := []) (ci := 12) (pc := 33) dX12_term_33 sc_X12_next ml_X12_265 im_X12_next se_X12_next rfl rfl rfl (by decide) hP (fun h_16 hP => ?_)
      refine bz_aload_n (pc := 36) dX12_term_36 rfl rfl ?_
      refine bz_kIV (as := []) (st := []) (ci := 12) (pc := 37) dX12_term_37 sc_X12_one ml_X12_281 im_X12_one se_X12_one rfl rfl rfl (by decide) hP (fun x_17 h_18 hP => ?_)
      refine bz_if_ne (tgt := 45) (pc := 40) dX12_term_40 (by decide) (fun c => ?_) (fun c => ?_)
      · have hP := hP.1 c
        refine bz_aload_n (pc := 45) dX12_term_45 rfl rfl ?_
        refine bz_iconst (v := 3) (pc := 46) dX12_term_46 (by decide) ?_
        refine bz_iload_n (pc := 47) dX12_term_47 rfl rfl ?_
        refine bz_kVV (as := [.inl 3, .inl x_14]) (st := []) (ci := 12) (pc := 48) dX12_term_48 sc_X12_lays ml_X12_275 im_X12_lays se_X12_lays rfl rfl rfl (by decide) hP (fun h_20 hP => ?_)
        refine bz_goto (tgt := 9) (pc := 51) dX12_term_51 (by decide) ?_
        exact hP
      · have hP := hP.2 c
        refine bz_iconst (v := 0) (pc := 43) dX12_term_43 (by decide) ?_
        exact bz_retI (pc := 44) dX12_term_44 rfl rfl hP
theorem m_X12_term {G : bz_G} {l : Launch} {d mc ms : Nat} {F : Option bz_V → bz_H → Prop} (a0 : Nat) (h : bz_H) (hP : ∀ (κ : bz_K) (bc bs : Nat), κ.2.1 = l → bz_rc h a0 12 (bz_cI G l d kX12_one [.inr (some a0)] h 0 0 (fun x_1 h_2 => (¬ x_1 = 0 → bz_J G κ kX12_term (d + 1) F bc bs 9 [some (.inr (some a0)), none] [] h_2) ∧ (x_1 = 0 → F (some (.inl 0)) h_2)))) : bz_Call G l (d + 1) kX12_term [.inr (some a0)] h mc ms F :=
  bz_body (by decide) (by decide) (fun κ hl => g_X12_term_0 hl a0 h (hP κ mc ms hl))
set_option maxRecDepth 20000 in
set_option maxHeartbeats 4000000 in
theorem g_X12_text_0 {G : bz_G} {κ : bz_K} {l : Launch} {d : Nat} {F : Option bz_V → bz_H → Prop} {bc bs : Nat} (hl : κ.2.1 = l) (a0 : Nat) (h : bz_H) (hP : bz_rR h a0 12 0 (fun r_1 => bz_nn r_1 (fun a_2 => bz_rA h a_2 4 (fun x_3 => (¬ x_3 = 8 → bz_wI h a0 12 17 0 (fun h_4 => bz_wI h_4 a0 12 19 0 (fun h_5 => bz_wI h_5 a0 12 20 0 (fun h_6 => bz_rc h_6 a0 12 (bz_cV G l d kX12_next [.inr (some a0)] h_6 0 0 (fun h_8 => bz_rc h_8 a0 12 (bz_cI G l d kX12_whole [.inr (some a0)] h_8 0 0 (fun x_9 h_10 => (x_9 = 0 → bz_wI h_10 a0 12 14 0 (fun h_11 => (¬ 0 = 0 → bz_rR h_11 a0 12 0 (fun r_12 => bz_nn r_12 (fun a_13 => bz_rA h_11 a_13 4 (fun x_14 => bz_rR h_11 a0 12 0 (fun r_15 => bz_rI h_11 a0 12 20 (fun x_16 => bz_nn r_15 (fun a_17 => bz_wA h_11 a_17 (976 + (165 * x_14)) x_16 (fun h_18 => bz_J G κ kX12_text (d + 1) F bc bs 99 [some (.inr (some a0)), some (.inl 0), some (.inl (976 + (165 * x_14))), some (.inl 0)] [] h_18)))))))) ∧ (0 = 0 → bz_rI h_11 a0 12 16 (fun x_19 => F (some (.inl ((-1) - x_19))) h_11)))) ∧ (¬ (x_9 = 0) → bz_rI h_10 a0 12 15 (fun x_20 => bz_wI h_10 a0 12 14 0 (fun h_21 => (¬ (if x_20 = 0 then 1 else 0) = 0 → bz_rR h_21 a0 12 0 (fun r_22 => bz_nn r_22 (fun a_23 => bz_rA h_21 a_23 4 (fun x_24 => bz_rR h_21 a0 12 0 (fun r_25 => bz_rI h_21 a0 12 20 (fun x_26 => bz_nn r_25 (fun a_27 => bz_wA h_21 a_27 (976 + (165 * x_24)) x_26 (fun h_28 => bz_J G κ kX12_text (d + 1) F bc bs 99 [some (.inr (some a0)), some (.inl (if x_20 = 0 then 1 else 0)), some (.inl (976 + (165 * x_24))), some (.inl 0)] [] h_28)))))))) ∧ ((if x_20 = 0 then 1 else 0) = 0 → bz_rI h_21 a0 12 16 (fun x_29 => F (some (.inl ((-1) - x_29))) h_21))))))))))))) ∧ (x_3 = 8 → bz_rc h a0 12 (bz_cI G l d kX12_finding [.inr (some a0), .inl 1] h 0 0 (fun x_30 h_31 => F (some (.inl x_30)) h_31))))))) : bz_J G κ kX12_text (d + 1) F bc bs 0 [some (.inr (some a0)), none, none, none] [] h := by
  subst hl
  refine bz_aload_n (pc := 0) dX12_text_0 rfl rfl ?_
  refine bz_rw_rR (pc := 1) dX12_text_1 fl_X12_7 hP (fun r_1 hP => ?_)
  refine bz_iconst (v := 4) (pc := 4) dX12_text_4 (by decide) ?_
  obtain ⟨a_2, rfl, hP⟩ := hP
  refine bz_rw_rA (pc := 5) dX12_text_5 hP (fun x_3 hP => ?_)
  refine bz_bipush (v := 8) (pc := 6) dX12_text_6 (by decide) ?_
  refine bz_icmp_ne (tgt := 17) (pc := 8) dX12_text_8 (by decide) (fun c => ?_) (fun c => ?_)
  · have hP := hP.1 c
    refine bz_aload_n (pc := 17) dX12_text_17 rfl rfl ?_
    refine bz_iconst (v := 0) (pc := 18) dX12_text_18 (by decide) ?_
    refine bz_rw_wI (pc := 19) dX12_text_19 fl_X12_238 (fun q h9 => by cases h9; rfl) rfl hP (fun h_4 hP => ?_)
    refine bz_aload_n (pc := 22) dX12_text_22 rfl rfl ?_
    refine bz_iconst (v := 0) (pc := 23) dX12_text_23 (by decide) ?_
    refine bz_rw_wI (pc := 24) dX12_text_24 fl_X12_262 (fun q h9 => by cases h9; rfl) rfl hP (fun h_5 hP => ?_)
    refine bz_aload_n (pc := 27) dX12_text_27 rfl rfl ?_
    refine bz_iconst (v := 0) (pc := 28) dX12_text_28 (by decide) ?_
    refine bz_rw_wI (pc := 29) dX12_text_29 fl_X12_259 (fun q h9 => by cases h9; rfl) rfl hP (fun h_6 hP => ?_)
    refine bz_aload_n (pc := 32) dX12_text_32 rfl rfl ?_
    refine bz_kVV (as := []) (st := []) (ci := 12) (pc := 33) dX12_text_33 sc_X12_next ml_X12_265 im_X12_next se_X12_next rfl rfl rfl (by decide) hP (fun h_8 hP => ?_)
    refine bz_aload_n (pc := 36) dX12_text_36 rfl rfl ?_
    refine bz_kIV (as := []) (st := []) (ci := 12) (pc := 37) dX12_text_37 sc_X12_whole ml_X12_287 im_X12_whole se_X12_whole rfl rfl rfl (by decide) hP (fun x_9 h_10 hP => ?_)
    refine bz_if_eq (tgt := 54) (pc := 40) dX12_text_40 (by decide) (fun c => ?_) (fun c => ?_)
    · have hP := hP.1 c
      refine bz_iconst (v := 0) (pc := 54) dX12_text_54 (by decide) ?_
      refine bz_s_istore_n (pc := 55) dX12_text_55 rfl (by decide) [some (.inr (some a0)), some (.inl 0), none, none] rfl ?_
      refine bz_aload_n (pc := 56) dX12_text_56 rfl rfl ?_
      refine bz_iconst (v := 0) (pc := 57) dX12_text_57 (by decide) ?_
      refine bz_rw_wI (pc := 58) dX12_text_58 fl_X12_235 (fun q h9 => by cases h9; rfl) rfl hP (fun h_11 hP => ?_)
      refine bz_iload_n (pc := 61) dX12_text_61 rfl rfl ?_
      refine bz_if_ne (tgt := 72) (pc := 62) dX12_text_62 (by decide) (fun c => ?_) (fun c => ?_)
      · have hP := hP.1 c
        refine bz_sipush (v := 976) (pc := 72) dX12_text_72 (by decide) ?_
        refine bz_sipush (v := 165) (pc := 75) dX12_text_75 (by decide) ?_
        refine bz_aload_n (pc := 78) dX12_text_78 rfl rfl ?_
        refine bz_rw_rR (pc := 79) dX12_text_79 fl_X12_7 hP (fun r_12 hP => ?_)
        refine bz_iconst (v := 4) (pc := 82) dX12_text_82 (by decide) ?_
        obtain ⟨a_13, rfl, hP⟩ := hP
        refine bz_rw_rA (pc := 83) dX12_text_83 hP (fun x_14 hP => ?_)
        refine bz_imul (pc := 84) dX12_text_84 ?_
        refine bz_iadd (pc := 85) dX12_text_85 ?_
        refine bz_s_istore_n (pc := 86) dX12_text_86 rfl (by decide) [some (.inr (some a0)), some (.inl 0), some (.inl (976 + (165 * x_14))), none] rfl ?_
        refine bz_aload_n (pc := 87) dX12_text_87 rfl rfl ?_
        refine bz_rw_rR (pc := 88) dX12_text_88 fl_X12_7 hP (fun r_15 hP => ?_)
        refine bz_iload_n (pc := 91) dX12_text_91 rfl rfl ?_
        refine bz_aload_n (pc := 92) dX12_text_92 rfl rfl ?_
        refine bz_rw_rI (pc := 93) dX12_text_93 fl_X12_259 hP (fun x_16 hP => ?_)
        obtain ⟨a_17, rfl, hP⟩ := hP
        refine bz_rw_wA (pc := 96) dX12_text_96 hP (fun h_18 hP => ?_)
        refine bz_iconst (v := 0) (pc := 97) dX12_text_97 (by decide) ?_
        refine bz_s_istore_n (pc := 98) dX12_text_98 rfl (by decide) [some (.inr (some a0)), some (.inl 0), some (.inl (976 + (165 * x_14))), some (.inl 0)] rfl ?_
        exact hP
      · have hP := hP.2 c
        refine bz_iconst (v := (-1)) (pc := 65) dX12_text_65 (by decide) ?_
        refine bz_aload_n (pc := 66) dX12_text_66 rfl rfl ?_
        refine bz_rw_rI (pc := 67) dX12_text_67 fl_X12_241 hP (fun x_19 hP => ?_)
        refine bz_isub (pc := 70) dX12_text_70 ?_
        exact bz_retI (pc := 71) dX12_text_71 rfl rfl hP
    · have hP := hP.2 c
      refine bz_aload_n (pc := 43) dX12_text_43 rfl rfl ?_
      refine bz_rw_rI (pc := 44) dX12_text_44 fl_X12_244 hP (fun x_20 hP => ?_)
      have hJ : bz_J G κ kX12_text (d + 1) F bc bs 55 [some (.inr (some a0)), none, none, none] [.inl (if x_20 = 0 then 1 else 0)] h_10 := by
        refine bz_s_istore_n (pc := 55) dX12_text_55 rfl (by decide) [some (.inr (some a0)), some (.inl (if x_20 = 0 then 1 else 0)), none, none] rfl ?_
        refine bz_aload_n (pc := 56) dX12_text_56 rfl rfl ?_
        refine bz_iconst (v := 0) (pc := 57) dX12_text_57 (by decide) ?_
        refine bz_rw_wI (pc := 58) dX12_text_58 fl_X12_235 (fun q h9 => by cases h9; rfl) rfl hP (fun h_21 hP => ?_)
        refine bz_iload_n (pc := 61) dX12_text_61 rfl rfl ?_
        refine bz_if_ne (tgt := 72) (pc := 62) dX12_text_62 (by decide) (fun c => ?_) (fun c => ?_)
        · have hP := hP.1 c
          refine bz_sipush (v := 976) (pc := 72) dX12_text_72 (by decide) ?_
          refine bz_sipush (v := 165) (pc := 75) dX12_text_75 (by decide) ?_
          refine bz_aload_n (pc := 78) dX12_text_78 rfl rfl ?_
          refine bz_rw_rR (pc := 79) dX12_text_79 fl_X12_7 hP (fun r_22 hP => ?_)
          refine bz_iconst (v := 4) (pc := 82) dX12_text_82 (by decide) ?_
          obtain ⟨a_23, rfl, hP⟩ := hP
          refine bz_rw_rA (pc := 83) dX12_text_83 hP (fun x_24 hP => ?_)
          refine bz_imul (pc := 84) dX12_text_84 ?_
          refine bz_iadd (pc := 85) dX12_text_85 ?_
          refine bz_s_istore_n (pc := 86) dX12_text_86 rfl (by decide) [some (.inr (some a0)), some (.inl (if x_20 = 0 then 1 else 0)), some (.inl (976 + (165 * x_24))), none] rfl ?_
          refine bz_aload_n (pc := 87) dX12_text_87 rfl rfl ?_
          refine bz_rw_rR (pc := 88) dX12_text_88 fl_X12_7 hP (fun r_25 hP => ?_)
          refine bz_iload_n (pc := 91) dX12_text_91 rfl rfl ?_
          refine bz_aload_n (pc := 92) dX12_text_92 rfl rfl ?_
          refine bz_rw_rI (pc := 93) dX12_text_93 fl_X12_259 hP (fun x_26 hP => ?_)
          obtain ⟨a_27, rfl, hP⟩ := hP
          refine bz_rw_wA (pc := 96) dX12_text_96 hP (fun h_28 hP => ?_)
          refine bz_iconst (v := 0) (pc := 97) dX12_text_97 (by decide) ?_
          refine bz_s_istore_n (pc := 98) dX12_text_98 rfl (by decide) [some (.inr (some a0)), some (.inl (if x_20 = 0 then 1 else 0)), some (.inl (976 + (165 * x_24))), some (.inl 0)] rfl ?_
          exact hP
        · have hP := hP.2 c
          refine bz_iconst (v := (-1)) (pc := 65) dX12_text_65 (by decide) ?_
          refine bz_aload_n (pc := 66) dX12_text_66 rfl rfl ?_
          refine bz_rw_rI (pc := 67) dX12_text_67 fl_X12_241 hP (fun x_29 hP => ?_)
          refine bz_isub (pc := 70) dX12_text_70 ?_
          exact bz_retI (pc := 71) dX12_text_71 rfl rfl hP
      refine bz_if_ne (tgt := 54) (pc := 47) dX12_text_47 (by decide) (fun c => ?_) (fun c => ?_)
      · have e9 : ((if x_20 = 0 then 1 else 0) : Int32) = (0) := if_neg c
        rw [e9] at hJ
        refine bz_iconst (v := 0) (pc := 54) dX12_text_54 (by decide) ?_
        exact hJ
      · have e9 : ((if x_20 = 0 then 1 else 0) : Int32) = (1) := if_pos c
        rw [e9] at hJ
        refine bz_iconst (v := 1) (pc := 50) dX12_text_50 (by decide) ?_
        refine bz_goto (tgt := 55) (pc := 51) dX12_text_51 (by decide) ?_
        exact hJ
  · have hP := hP.2 c
    refine bz_aload_n (pc := 11) dX12_text_11 rfl rfl ?_
    refine bz_iconst (v := 1) (pc := 12) dX12_text_12 (by decide) ?_
    refine bz_kIV (as := [.inl 1]) (st := []) (ci := 12) (pc := 13) dX12_text_13 sc_X12_finding ml_X12_73 im_X12_finding se_X12_finding rfl rfl rfl (by decide) hP (fun x_30 h_31 hP => ?_)
    exact bz_retI (pc := 16) dX12_text_16 rfl rfl hP
set_option maxRecDepth 20000 in
set_option maxHeartbeats 4000000 in
theorem g_X12_text_99 {G : bz_G} {κ : bz_K} {l : Launch} {d : Nat} {F : Option bz_V → bz_H → Prop} {bc bs : Nat} (hl : κ.2.1 = l) (a0 : Nat) (x1 : Int32) (x2 : Int32) (x3 : Int32) (h : bz_H) (hP : bz_rI h a0 12 20 (fun x_32 => ((2 * x_32) ≤ x3 → bz_rR h a0 12 0 (fun r_33 => bz_nn r_33 (fun a_34 => bz_rA h a_34 4 (fun x_35 => bz_wA h a_34 4 (x_35 + 1) (fun h_36 => bz_rR h_36 a0 12 0 (fun r_37 => bz_nn r_37 (fun a_38 => bz_rA h_36 a_38 4 (fun x_39 => F (some (.inl (x_39 - 1))) h_36)))))))) ∧ (¬ ((2 * x_32) ≤ x3) → bz_rR h a0 12 0 (fun r_40 => bz_rR h a0 12 21 (fun r_41 => bz_nn r_41 (fun a_42 => bz_rA h a_42 x3 (fun x_43 => bz_nn r_40 (fun a_44 => bz_wA h a_44 ((x2 + 1) + x3) x_43 (fun h_45 => bz_J G κ kX12_text (d + 1) F bc bs 99 [some (.inr (some a0)), some (.inl x1), some (.inl x2), some (.inl (x3 + 1))] [] h_45))))))))) : bz_J G κ kX12_text (d + 1) F bc bs 99 [some (.inr (some a0)), some (.inl x1), some (.inl x2), some (.inl x3)] [] h := by
  subst hl
  refine bz_iload_n (pc := 99) dX12_text_99 rfl rfl ?_
  refine bz_iconst (v := 2) (pc := 100) dX12_text_100 (by decide) ?_
  refine bz_aload_n (pc := 101) dX12_text_101 rfl rfl ?_
  refine bz_rw_rI (pc := 102) dX12_text_102 fl_X12_259 hP (fun x_32 hP => ?_)
  refine bz_imul (pc := 105) dX12_text_105 ?_
  refine bz_icmp_ge (tgt := 131) (pc := 106) dX12_text_106 (by decide) (fun c => ?_) (fun c => ?_)
  · have hP := hP.1 c
    refine bz_aload_n (pc := 131) dX12_text_131 rfl rfl ?_
    refine bz_rw_rR (pc := 132) dX12_text_132 fl_X12_7 hP (fun r_33 hP => ?_)
    refine bz_iconst (v := 4) (pc := 135) dX12_text_135 (by decide) ?_
    refine bz_dup2 (pc := 136) dX12_text_136 ?_
    obtain ⟨a_34, rfl, hP⟩ := hP
    refine bz_rw_rA (pc := 137) dX12_text_137 hP (fun x_35 hP => ?_)
    refine bz_iconst (v := 1) (pc := 138) dX12_text_138 (by decide) ?_
    refine bz_iadd (pc := 139) dX12_text_139 ?_
    refine bz_rw_wA (pc := 140) dX12_text_140 hP (fun h_36 hP => ?_)
    refine bz_aload_n (pc := 141) dX12_text_141 rfl rfl ?_
    refine bz_rw_rR (pc := 142) dX12_text_142 fl_X12_7 hP (fun r_37 hP => ?_)
    refine bz_iconst (v := 4) (pc := 145) dX12_text_145 (by decide) ?_
    obtain ⟨a_38, rfl, hP⟩ := hP
    refine bz_rw_rA (pc := 146) dX12_text_146 hP (fun x_39 hP => ?_)
    refine bz_iconst (v := 1) (pc := 147) dX12_text_147 (by decide) ?_
    refine bz_isub (pc := 148) dX12_text_148 ?_
    exact bz_retI (pc := 149) dX12_text_149 rfl rfl hP
  · have hP := hP.2 c
    refine bz_aload_n (pc := 109) dX12_text_109 rfl rfl ?_
    refine bz_rw_rR (pc := 110) dX12_text_110 fl_X12_7 hP (fun r_40 hP => ?_)
    refine bz_iload_n (pc := 113) dX12_text_113 rfl rfl ?_
    refine bz_iconst (v := 1) (pc := 114) dX12_text_114 (by decide) ?_
    refine bz_iadd (pc := 115) dX12_text_115 ?_
    refine bz_iload_n (pc := 116) dX12_text_116 rfl rfl ?_
    refine bz_iadd (pc := 117) dX12_text_117 ?_
    refine bz_aload_n (pc := 118) dX12_text_118 rfl rfl ?_
    refine bz_rw_rR (pc := 119) dX12_text_119 fl_X12_31 hP (fun r_41 hP => ?_)
    refine bz_iload_n (pc := 122) dX12_text_122 rfl rfl ?_
    obtain ⟨a_42, rfl, hP⟩ := hP
    refine bz_rw_rA (pc := 123) dX12_text_123 hP (fun x_43 hP => ?_)
    obtain ⟨a_44, rfl, hP⟩ := hP
    refine bz_rw_wA (pc := 124) dX12_text_124 hP (fun h_45 hP => ?_)
    refine bz_s_iinc (pc := 125) dX12_text_125 (by decide) rfl rfl [some (.inr (some a0)), some (.inl x1), some (.inl x2), some (.inl (x3 + 1))] rfl ?_
    refine bz_goto (tgt := 99) (pc := 128) dX12_text_128 (by decide) ?_
    exact hP
theorem m_X12_text {G : bz_G} {l : Launch} {d mc ms : Nat} {F : Option bz_V → bz_H → Prop} (a0 : Nat) (h : bz_H) (hP : ∀ (κ : bz_K) (bc bs : Nat), κ.2.1 = l → bz_rR h a0 12 0 (fun r_1 => bz_nn r_1 (fun a_2 => bz_rA h a_2 4 (fun x_3 => (¬ x_3 = 8 → bz_wI h a0 12 17 0 (fun h_4 => bz_wI h_4 a0 12 19 0 (fun h_5 => bz_wI h_5 a0 12 20 0 (fun h_6 => bz_rc h_6 a0 12 (bz_cV G l d kX12_next [.inr (some a0)] h_6 0 0 (fun h_8 => bz_rc h_8 a0 12 (bz_cI G l d kX12_whole [.inr (some a0)] h_8 0 0 (fun x_9 h_10 => (x_9 = 0 → bz_wI h_10 a0 12 14 0 (fun h_11 => (¬ 0 = 0 → bz_rR h_11 a0 12 0 (fun r_12 => bz_nn r_12 (fun a_13 => bz_rA h_11 a_13 4 (fun x_14 => bz_rR h_11 a0 12 0 (fun r_15 => bz_rI h_11 a0 12 20 (fun x_16 => bz_nn r_15 (fun a_17 => bz_wA h_11 a_17 (976 + (165 * x_14)) x_16 (fun h_18 => bz_J G κ kX12_text (d + 1) F bc bs 99 [some (.inr (some a0)), some (.inl 0), some (.inl (976 + (165 * x_14))), some (.inl 0)] [] h_18)))))))) ∧ (0 = 0 → bz_rI h_11 a0 12 16 (fun x_19 => F (some (.inl ((-1) - x_19))) h_11)))) ∧ (¬ (x_9 = 0) → bz_rI h_10 a0 12 15 (fun x_20 => bz_wI h_10 a0 12 14 0 (fun h_21 => (¬ (if x_20 = 0 then 1 else 0) = 0 → bz_rR h_21 a0 12 0 (fun r_22 => bz_nn r_22 (fun a_23 => bz_rA h_21 a_23 4 (fun x_24 => bz_rR h_21 a0 12 0 (fun r_25 => bz_rI h_21 a0 12 20 (fun x_26 => bz_nn r_25 (fun a_27 => bz_wA h_21 a_27 (976 + (165 * x_24)) x_26 (fun h_28 => bz_J G κ kX12_text (d + 1) F bc bs 99 [some (.inr (some a0)), some (.inl (if x_20 = 0 then 1 else 0)), some (.inl (976 + (165 * x_24))), some (.inl 0)] [] h_28)))))))) ∧ ((if x_20 = 0 then 1 else 0) = 0 → bz_rI h_21 a0 12 16 (fun x_29 => F (some (.inl ((-1) - x_29))) h_21))))))))))))) ∧ (x_3 = 8 → bz_rc h a0 12 (bz_cI G l d kX12_finding [.inr (some a0), .inl 1] h 0 0 (fun x_30 h_31 => F (some (.inl x_30)) h_31))))))) : bz_Call G l (d + 1) kX12_text [.inr (some a0)] h mc ms F :=
  bz_body (by decide) (by decide) (fun κ hl => g_X12_text_0 hl a0 h (hP κ mc ms hl))
set_option maxRecDepth 20000 in
set_option maxHeartbeats 4000000 in
theorem g_X12_tripFrom_0 {G : bz_G} {κ : bz_K} {l : Launch} {d : Nat} {F : Option bz_V → bz_H → Prop} {bc bs : Nat} (hl : κ.2.1 = l) (a0 : Nat) (x1 : Int32) (x2 : Int32) (x3 : Int32) (x4 : Int32) (h : bz_H) (hP : bz_rc h a0 12 (bz_cV G l d kX12_begin [.inr (some a0), .inl x2, .inl x3] h 0 0 (fun h_2 => bz_rc h_2 a0 12 (bz_cV G l d kX12_pickUp [.inr (some a0), .inl x1, .inl x4, .inl 0] h_2 0 0 (fun h_4 => bz_rc h_4 a0 12 (bz_cV G l d kX12_bring [.inr (some a0), .inl x1, .inl x4, .inl 0] h_4 0 0 (fun h_6 => bz_rI h_6 a0 12 8 (fun x_7 => (x_7 = 0 → F (some (.inl 0)) h_6) ∧ (¬ (x_7 = 0) → bz_rI h_6 a0 12 7 (fun x_8 => F (some (.inl (if 1439 < x_8 then 0 else 1))) h_6)))))))))) : bz_J G κ kX12_tripFrom (d + 1) F bc bs 0 [some (.inr (some a0)), some (.inl x1), some (.inl x2), some (.inl x3), some (.inl x4)] [] h := by
  subst hl
  refine bz_aload_n (pc := 0) dX12_tripFrom_0 rfl rfl ?_
  refine bz_iload_n (pc := 1) dX12_tripFrom_1 rfl rfl ?_
  refine bz_iload_n (pc := 2) dX12_tripFrom_2 rfl rfl ?_
  refine bz_kVV (as := [.inl x2, .inl x3]) (st := []) (ci := 12) (pc := 3) dX12_tripFrom_3 sc_X12_begin ml_X12_177 im_X12_begin se_X12_begin rfl rfl rfl (by decide) hP (fun h_2 hP => ?_)
  refine bz_aload_n (pc := 6) dX12_tripFrom_6 rfl rfl ?_
  refine bz_iload_n (pc := 7) dX12_tripFrom_7 rfl rfl ?_
  refine bz_iload (pc := 8) dX12_tripFrom_8 rfl ?_
  refine bz_iconst (v := 0) (pc := 10) dX12_tripFrom_10 (by decide) ?_
  refine bz_kVV (as := [.inl x1, .inl x4, .inl 0]) (st := []) (ci := 12) (pc := 11) dX12_tripFrom_11 sc_X12_pickUp ml_X12_180 im_X12_pickUp se_X12_pickUp rfl rfl rfl (by decide) hP (fun h_4 hP => ?_)
  refine bz_aload_n (pc := 14) dX12_tripFrom_14 rfl rfl ?_
  refine bz_iload_n (pc := 15) dX12_tripFrom_15 rfl rfl ?_
  refine bz_iload (pc := 16) dX12_tripFrom_16 rfl ?_
  refine bz_iconst (v := 0) (pc := 18) dX12_tripFrom_18 (by decide) ?_
  refine bz_kVV (as := [.inl x1, .inl x4, .inl 0]) (st := []) (ci := 12) (pc := 19) dX12_tripFrom_19 sc_X12_bring ml_X12_184 im_X12_bring se_X12_bring rfl rfl rfl (by decide) hP (fun h_6 hP => ?_)
  refine bz_aload_n (pc := 22) dX12_tripFrom_22 rfl rfl ?_
  refine bz_rw_rI (pc := 23) dX12_tripFrom_23 fl_X12_160 hP (fun x_7 hP => ?_)
  refine bz_if_eq (tgt := 43) (pc := 26) dX12_tripFrom_26 (by decide) (fun c => ?_) (fun c => ?_)
  · have hP := hP.1 c
    refine bz_iconst (v := 0) (pc := 43) dX12_tripFrom_43 (by decide) ?_
    exact bz_retI (pc := 44) dX12_tripFrom_44 rfl rfl hP
  · have hP := hP.2 c
    refine bz_aload_n (pc := 29) dX12_tripFrom_29 rfl rfl ?_
    refine bz_rw_rI (pc := 30) dX12_tripFrom_30 fl_X12_167 hP (fun x_8 hP => ?_)
    refine bz_sipush (v := 1439) (pc := 33) dX12_tripFrom_33 (by decide) ?_
    have hJ : bz_J G κ kX12_tripFrom (d + 1) F bc bs 44 [some (.inr (some a0)), some (.inl x1), some (.inl x2), some (.inl x3), some (.inl x4)] [.inl (if 1439 < x_8 then 0 else 1)] h_6 := by
      exact bz_retI (pc := 44) dX12_tripFrom_44 rfl (by (repeat' split) <;> rfl) hP
    refine bz_icmp_gt (tgt := 43) (pc := 36) dX12_tripFrom_36 (by decide) (fun c => ?_) (fun c => ?_)
    · have e9 : ((if 1439 < x_8 then 0 else 1) : Int32) = (0) := if_pos c
      rw [e9] at hJ
      refine bz_iconst (v := 0) (pc := 43) dX12_tripFrom_43 (by decide) ?_
      exact hJ
    · have e9 : ((if 1439 < x_8 then 0 else 1) : Int32) = (1) := if_neg c
      rw [e9] at hJ
      refine bz_iconst (v := 1) (pc := 39) dX12_tripFrom_39 (by decide) ?_
      refine bz_goto (tgt := 44) (pc := 40) dX12_tripFrom_40 (by decide) ?_
      exact hJ
theorem m_X12_tripFrom {G : bz_G} {l : Launch} {d mc ms : Nat} {F : Option bz_V → bz_H → Prop} (a0 : Nat) (x1 : Int32) (x2 : Int32) (x3 : Int32) (x4 : Int32) (h : bz_H) (hP : bz_rc h a0 12 (bz_cV G l d kX12_begin [.inr (some a0), .inl x2, .inl x3] h 0 0 (fun h_2 => bz_rc h_2 a0 12 (bz_cV G l d kX12_pickUp [.inr (some a0), .inl x1, .inl x4, .inl 0] h_2 0 0 (fun h_4 => bz_rc h_4 a0 12 (bz_cV G l d kX12_bring [.inr (some a0), .inl x1, .inl x4, .inl 0] h_4 0 0 (fun h_6 => bz_rI h_6 a0 12 8 (fun x_7 => (x_7 = 0 → F (some (.inl 0)) h_6) ∧ (¬ (x_7 = 0) → bz_rI h_6 a0 12 7 (fun x_8 => F (some (.inl (if 1439 < x_8 then 0 else 1))) h_6)))))))))) : bz_Call G l (d + 1) kX12_tripFrom [.inr (some a0), .inl x1, .inl x2, .inl x3, .inl x4] h mc ms F :=
  bz_body (by decide) (by decide) (fun κ hl => g_X12_tripFrom_0 hl a0 x1 x2 x3 x4 h hP)
set_option maxRecDepth 20000 in
set_option maxHeartbeats 4000000 in
theorem g_X12_tripNow_0 {G : bz_G} {κ : bz_K} {l : Launch} {d : Nat} {F : Option bz_V → bz_H → Prop} {bc bs : Nat} (hl : κ.2.1 = l) (a0 : Nat) (x1 : Int32) (x2 : Int32) (h : bz_H) (hP : bz_rc h a0 12 (bz_cI G l d kX12_ofRider [.inr (some a0), .inl x1, .inl 0] h 0 0 (fun x_1 h_2 => bz_rc h_2 a0 12 (bz_cI G l d kX12_ofRider [.inr (some a0), .inl x1, .inl 1] h_2 0 0 (fun x_3 h_4 => bz_rc h_4 a0 12 (bz_cI G l d kX12_beginsAt [.inr (some a0), .inl x1] h_4 0 0 (fun x_5 h_6 => bz_rc h_6 a0 12 (bz_cI G l d kX12_tripFrom [.inr (some a0), .inl x_1, .inl x_3, .inl x_5, .inl x2] h_6 0 0 (fun x_7 h_8 => bz_b x_7 (F (some (.inl x_7)) h_8)))))))))) : bz_J G κ kX12_tripNow (d + 1) F bc bs 0 [some (.inr (some a0)), some (.inl x1), some (.inl x2)] [] h := by
  subst hl
  refine bz_aload_n (pc := 0) dX12_tripNow_0 rfl rfl ?_
  refine bz_aload_n (pc := 1) dX12_tripNow_1 rfl rfl ?_
  refine bz_iload_n (pc := 2) dX12_tripNow_2 rfl rfl ?_
  refine bz_iconst (v := 0) (pc := 3) dX12_tripNow_3 (by decide) ?_
  refine bz_kIV (as := [.inl x1, .inl 0]) (st := [.inr (some a0)]) (ci := 12) (pc := 4) dX12_tripNow_4 sc_X12_ofRider ml_X12_136 im_X12_ofRider se_X12_ofRider rfl rfl rfl (by decide) hP (fun x_1 h_2 hP => ?_)
  refine bz_aload_n (pc := 7) dX12_tripNow_7 rfl rfl ?_
  refine bz_iload_n (pc := 8) dX12_tripNow_8 rfl rfl ?_
  refine bz_iconst (v := 1) (pc := 9) dX12_tripNow_9 (by decide) ?_
  refine bz_kIV (as := [.inl x1, .inl 1]) (st := [.inl x_1, .inr (some a0)]) (ci := 12) (pc := 10) dX12_tripNow_10 sc_X12_ofRider ml_X12_136 im_X12_ofRider se_X12_ofRider rfl rfl rfl (by decide) hP (fun x_3 h_4 hP => ?_)
  refine bz_aload_n (pc := 13) dX12_tripNow_13 rfl rfl ?_
  refine bz_iload_n (pc := 14) dX12_tripNow_14 rfl rfl ?_
  refine bz_kIV (as := [.inl x1]) (st := [.inl x_3, .inl x_1, .inr (some a0)]) (ci := 12) (pc := 15) dX12_tripNow_15 sc_X12_beginsAt ml_X12_187 im_X12_beginsAt se_X12_beginsAt rfl rfl rfl (by decide) hP (fun x_5 h_6 hP => ?_)
  refine bz_iload_n (pc := 18) dX12_tripNow_18 rfl rfl ?_
  refine bz_kIV (as := [.inl x_1, .inl x_3, .inl x_5, .inl x2]) (st := []) (ci := 12) (pc := 19) dX12_tripNow_19 sc_X12_tripFrom ml_X12_190 im_X12_tripFrom se_X12_tripFrom rfl rfl rfl (by decide) hP (fun x_7 h_8 hP => ?_)
  obtain ⟨hb, hP⟩ := hP
  exact bz_retI (pc := 22) dX12_tripNow_22 rfl (by rcases hb with hb | hb <;> rw [hb] <;> rfl) hP
theorem m_X12_tripNow {G : bz_G} {l : Launch} {d mc ms : Nat} {F : Option bz_V → bz_H → Prop} (a0 : Nat) (x1 : Int32) (x2 : Int32) (h : bz_H) (hP : bz_rc h a0 12 (bz_cI G l d kX12_ofRider [.inr (some a0), .inl x1, .inl 0] h 0 0 (fun x_1 h_2 => bz_rc h_2 a0 12 (bz_cI G l d kX12_ofRider [.inr (some a0), .inl x1, .inl 1] h_2 0 0 (fun x_3 h_4 => bz_rc h_4 a0 12 (bz_cI G l d kX12_beginsAt [.inr (some a0), .inl x1] h_4 0 0 (fun x_5 h_6 => bz_rc h_6 a0 12 (bz_cI G l d kX12_tripFrom [.inr (some a0), .inl x_1, .inl x_3, .inl x_5, .inl x2] h_6 0 0 (fun x_7 h_8 => bz_b x_7 (F (some (.inl x_7)) h_8)))))))))) : bz_Call G l (d + 1) kX12_tripNow [.inr (some a0), .inl x1, .inl x2] h mc ms F :=
  bz_body (by decide) (by decide) (fun κ hl => g_X12_tripNow_0 hl a0 x1 x2 h hP)
set_option maxRecDepth 20000 in
set_option maxHeartbeats 4000000 in
theorem g_X12_trip_0 {G : bz_G} {κ : bz_K} {l : Launch} {d : Nat} {F : Option bz_V → bz_H → Prop} {bc bs : Nat} (hl : κ.2.1 = l) (a0 : Nat) (x1 : Int32) (x2 : Int32) (x3 : Int32) (h : bz_H) (hP : bz_rc h a0 12 (bz_cI G l d kX12_isRider [.inr (some a0), .inl x1] h 0 0 (fun x_1 h_2 => (x_1 = 0 → bz_rc h_2 a0 12 (bz_cI G l d kX12_finding [.inr (some a0), .inl 0] h_2 0 0 (fun x_3 h_4 => F (some (.inl x_3)) h_4))) ∧ (¬ (x_1 = 0) → bz_rc h_2 a0 12 (bz_cI G l d kX12_isOrder [.inr (some a0), .inl x2] h_2 0 0 (fun x_5 h_6 => (x_5 = 0 → bz_rc h_6 a0 12 (bz_cI G l d kX12_finding [.inr (some a0), .inl 0] h_6 0 0 (fun x_7 h_8 => F (some (.inl x_7)) h_8))) ∧ (¬ (x_5 = 0) → bz_cI G l d kX12_in [.inl x3, .inl 0, .inl 2] h_6 0 0 (fun x_9 h_10 => (¬ x_9 = 0 → bz_rc h_10 a0 12 (bz_cI G l d kX12_isWaiting [.inr (some a0), .inl x2] h_10 0 0 (fun x_11 h_12 => (¬ x_11 = 0 → bz_rc h_12 a0 12 (bz_cI G l d kX12_tripNow [.inr (some a0), .inl x1, .inl x2] h_12 0 0 (fun x_13 h_14 => (¬ x_13 = 0 → (¬ x3 = 0 → (¬ x3 = 1 → bz_rR h_14 a0 12 10 (fun r_15 => bz_nn r_15 (fun a_16 => bz_rA h_14 a_16 0 (fun x_17 => bz_rc h_14 a0 12 (bz_cI G l d kX12_lateBy [.inr (some a0), .inl x2, .inl x_17] h_14 0 0 (fun x_18 h_19 => F (some (.inl x_18)) h_19)))))) ∧ (x3 = 1 → bz_rR h_14 a0 12 10 (fun r_20 => bz_nn r_20 (fun a_21 => bz_rA h_14 a_21 0 (fun x_22 => F (some (.inl x_22)) h_14))))) ∧ (x3 = 0 → bz_rR h_14 a0 12 9 (fun r_23 => bz_nn r_23 (fun a_24 => bz_rA h_14 a_24 0 (fun x_25 => F (some (.inl x_25)) h_14))))) ∧ (x_13 = 0 → bz_rc h_14 a0 12 (bz_cI G l d kX12_finding [.inr (some a0), .inl 3] h_14 0 0 (fun x_26 h_27 => F (some (.inl x_26)) h_27)))))) ∧ (x_11 = 0 → bz_rc h_12 a0 12 (bz_cI G l d kX12_finding [.inr (some a0), .inl 4] h_12 0 0 (fun x_28 h_29 => F (some (.inl x_28)) h_29)))))) ∧ (x_9 = 0 → bz_rc h_10 a0 12 (bz_cI G l d kX12_finding [.inr (some a0), .inl 0] h_10 0 0 (fun x_30 h_31 => F (some (.inl x_30)) h_31))))))))))) : bz_J G κ kX12_trip (d + 1) F bc bs 0 [some (.inr (some a0)), some (.inl x1), some (.inl x2), some (.inl x3)] [] h := by
  subst hl
  refine bz_aload_n (pc := 0) dX12_trip_0 rfl rfl ?_
  refine bz_iload_n (pc := 1) dX12_trip_1 rfl rfl ?_
  refine bz_kIV (as := [.inl x1]) (st := []) (ci := 12) (pc := 2) dX12_trip_2 sc_X12_isRider ml_X12_139 im_X12_isRider se_X12_isRider rfl rfl rfl (by decide) hP (fun x_1 h_2 hP => ?_)
  refine bz_if_eq (tgt := 25) (pc := 5) dX12_trip_5 (by decide) (fun c => ?_) (fun c => ?_)
  · have hP := hP.1 c
    refine bz_aload_n (pc := 25) dX12_trip_25 rfl rfl ?_
    refine bz_iconst (v := 0) (pc := 26) dX12_trip_26 (by decide) ?_
    refine bz_kIV (as := [.inl 0]) (st := []) (ci := 12) (pc := 27) dX12_trip_27 sc_X12_finding ml_X12_73 im_X12_finding se_X12_finding rfl rfl rfl (by decide) hP (fun x_3 h_4 hP => ?_)
    exact bz_retI (pc := 30) dX12_trip_30 rfl rfl hP
  · have hP := hP.2 c
    refine bz_aload_n (pc := 8) dX12_trip_8 rfl rfl ?_
    refine bz_iload_n (pc := 9) dX12_trip_9 rfl rfl ?_
    refine bz_kIV (as := [.inl x2]) (st := []) (ci := 12) (pc := 10) dX12_trip_10 sc_X12_isOrder ml_X12_117 im_X12_isOrder se_X12_isOrder rfl rfl rfl (by decide) hP (fun x_5 h_6 hP => ?_)
    refine bz_if_eq (tgt := 25) (pc := 13) dX12_trip_13 (by decide) (fun c => ?_) (fun c => ?_)
    · have hP := hP.1 c
      refine bz_aload_n (pc := 25) dX12_trip_25 rfl rfl ?_
      refine bz_iconst (v := 0) (pc := 26) dX12_trip_26 (by decide) ?_
      refine bz_kIV (as := [.inl 0]) (st := []) (ci := 12) (pc := 27) dX12_trip_27 sc_X12_finding ml_X12_73 im_X12_finding se_X12_finding rfl rfl rfl (by decide) hP (fun x_7 h_8 hP => ?_)
      exact bz_retI (pc := 30) dX12_trip_30 rfl rfl hP
    · have hP := hP.2 c
      refine bz_iload_n (pc := 16) dX12_trip_16 rfl rfl ?_
      refine bz_iconst (v := 0) (pc := 17) dX12_trip_17 (by decide) ?_
      refine bz_iconst (v := 2) (pc := 18) dX12_trip_18 (by decide) ?_
      refine bz_kIS (as := [.inl x3, .inl 0, .inl 2]) (st := []) (pc := 19) dX12_trip_19 sc_X12_in ml_X12_65 ss_X12_in rfl (by decide) hP (fun x_9 h_10 hP => ?_)
      refine bz_if_ne (tgt := 31) (pc := 22) dX12_trip_22 (by decide) (fun c => ?_) (fun c => ?_)
      · have hP := hP.1 c
        refine bz_aload_n (pc := 31) dX12_trip_31 rfl rfl ?_
        refine bz_iload_n (pc := 32) dX12_trip_32 rfl rfl ?_
        refine bz_kIV (as := [.inl x2]) (st := []) (ci := 12) (pc := 33) dX12_trip_33 sc_X12_isWaiting ml_X12_129 im_X12_isWaiting se_X12_isWaiting rfl rfl rfl (by decide) hP (fun x_11 h_12 hP => ?_)
        refine bz_if_ne (tgt := 45) (pc := 36) dX12_trip_36 (by decide) (fun c => ?_) (fun c => ?_)
        · have hP := hP.1 c
          refine bz_aload_n (pc := 45) dX12_trip_45 rfl rfl ?_
          refine bz_iload_n (pc := 46) dX12_trip_46 rfl rfl ?_
          refine bz_iload_n (pc := 47) dX12_trip_47 rfl rfl ?_
          refine bz_kIV (as := [.inl x1, .inl x2]) (st := []) (ci := 12) (pc := 48) dX12_trip_48 sc_X12_tripNow ml_X12_194 im_X12_tripNow se_X12_tripNow rfl rfl rfl (by decide) hP (fun x_13 h_14 hP => ?_)
          refine bz_if_ne (tgt := 60) (pc := 51) dX12_trip_51 (by decide) (fun c => ?_) (fun c => ?_)
          · have hP := hP.1 c
            refine bz_iload_n (pc := 60) dX12_trip_60 rfl rfl ?_
            refine bz_if_ne (tgt := 73) (pc := 61) dX12_trip_61 (by decide) (fun c => ?_) (fun c => ?_)
            · have hP := hP.1 c
              refine bz_iload_n (pc := 73) dX12_trip_73 rfl rfl ?_
              refine bz_iconst (v := 1) (pc := 74) dX12_trip_74 (by decide) ?_
              refine bz_icmp_ne (tgt := 87) (pc := 75) dX12_trip_75 (by decide) (fun c => ?_) (fun c => ?_)
              · have hP := hP.1 c
                refine bz_aload_n (pc := 87) dX12_trip_87 rfl rfl ?_
                refine bz_iload_n (pc := 88) dX12_trip_88 rfl rfl ?_
                refine bz_aload_n (pc := 89) dX12_trip_89 rfl rfl ?_
                refine bz_rw_rR (pc := 90) dX12_trip_90 fl_X12_25 hP (fun r_15 hP => ?_)
                refine bz_iconst (v := 0) (pc := 93) dX12_trip_93 (by decide) ?_
                obtain ⟨a_16, rfl, hP⟩ := hP
                refine bz_rw_rA (pc := 94) dX12_trip_94 hP (fun x_17 hP => ?_)
                refine bz_kIV (as := [.inl x2, .inl x_17]) (st := []) (ci := 12) (pc := 95) dX12_trip_95 sc_X12_lateBy ml_X12_102 im_X12_lateBy se_X12_lateBy rfl rfl rfl (by decide) hP (fun x_18 h_19 hP => ?_)
                exact bz_retI (pc := 98) dX12_trip_98 rfl rfl hP
              · have hP := hP.2 c
                refine bz_aload_n (pc := 78) dX12_trip_78 rfl rfl ?_
                refine bz_rw_rR (pc := 79) dX12_trip_79 fl_X12_25 hP (fun r_20 hP => ?_)
                refine bz_iconst (v := 0) (pc := 82) dX12_trip_82 (by decide) ?_
                obtain ⟨a_21, rfl, hP⟩ := hP
                refine bz_rw_rA (pc := 83) dX12_trip_83 hP (fun x_22 hP => ?_)
                refine bz_goto (tgt := 98) (pc := 84) dX12_trip_84 (by decide) ?_
                exact bz_retI (pc := 98) dX12_trip_98 rfl rfl hP
            · have hP := hP.2 c
              refine bz_aload_n (pc := 64) dX12_trip_64 rfl rfl ?_
              refine bz_rw_rR (pc := 65) dX12_trip_65 fl_X12_22 hP (fun r_23 hP => ?_)
              refine bz_iconst (v := 0) (pc := 68) dX12_trip_68 (by decide) ?_
              obtain ⟨a_24, rfl, hP⟩ := hP
              refine bz_rw_rA (pc := 69) dX12_trip_69 hP (fun x_25 hP => ?_)
              refine bz_goto (tgt := 98) (pc := 70) dX12_trip_70 (by decide) ?_
              exact bz_retI (pc := 98) dX12_trip_98 rfl rfl hP
          · have hP := hP.2 c
            refine bz_aload_n (pc := 54) dX12_trip_54 rfl rfl ?_
            refine bz_iconst (v := 3) (pc := 55) dX12_trip_55 (by decide) ?_
            refine bz_kIV (as := [.inl 3]) (st := []) (ci := 12) (pc := 56) dX12_trip_56 sc_X12_finding ml_X12_73 im_X12_finding se_X12_finding rfl rfl rfl (by decide) hP (fun x_26 h_27 hP => ?_)
            exact bz_retI (pc := 59) dX12_trip_59 rfl rfl hP
        · have hP := hP.2 c
          refine bz_aload_n (pc := 39) dX12_trip_39 rfl rfl ?_
          refine bz_iconst (v := 4) (pc := 40) dX12_trip_40 (by decide) ?_
          refine bz_kIV (as := [.inl 4]) (st := []) (ci := 12) (pc := 41) dX12_trip_41 sc_X12_finding ml_X12_73 im_X12_finding se_X12_finding rfl rfl rfl (by decide) hP (fun x_28 h_29 hP => ?_)
          exact bz_retI (pc := 44) dX12_trip_44 rfl rfl hP
      · have hP := hP.2 c
        refine bz_aload_n (pc := 25) dX12_trip_25 rfl rfl ?_
        refine bz_iconst (v := 0) (pc := 26) dX12_trip_26 (by decide) ?_
        refine bz_kIV (as := [.inl 0]) (st := []) (ci := 12) (pc := 27) dX12_trip_27 sc_X12_finding ml_X12_73 im_X12_finding se_X12_finding rfl rfl rfl (by decide) hP (fun x_30 h_31 hP => ?_)
        exact bz_retI (pc := 30) dX12_trip_30 rfl rfl hP
theorem m_X12_trip {G : bz_G} {l : Launch} {d mc ms : Nat} {F : Option bz_V → bz_H → Prop} (a0 : Nat) (x1 : Int32) (x2 : Int32) (x3 : Int32) (h : bz_H) (hP : bz_rc h a0 12 (bz_cI G l d kX12_isRider [.inr (some a0), .inl x1] h 0 0 (fun x_1 h_2 => (x_1 = 0 → bz_rc h_2 a0 12 (bz_cI G l d kX12_finding [.inr (some a0), .inl 0] h_2 0 0 (fun x_3 h_4 => F (some (.inl x_3)) h_4))) ∧ (¬ (x_1 = 0) → bz_rc h_2 a0 12 (bz_cI G l d kX12_isOrder [.inr (some a0), .inl x2] h_2 0 0 (fun x_5 h_6 => (x_5 = 0 → bz_rc h_6 a0 12 (bz_cI G l d kX12_finding [.inr (some a0), .inl 0] h_6 0 0 (fun x_7 h_8 => F (some (.inl x_7)) h_8))) ∧ (¬ (x_5 = 0) → bz_cI G l d kX12_in [.inl x3, .inl 0, .inl 2] h_6 0 0 (fun x_9 h_10 => (¬ x_9 = 0 → bz_rc h_10 a0 12 (bz_cI G l d kX12_isWaiting [.inr (some a0), .inl x2] h_10 0 0 (fun x_11 h_12 => (¬ x_11 = 0 → bz_rc h_12 a0 12 (bz_cI G l d kX12_tripNow [.inr (some a0), .inl x1, .inl x2] h_12 0 0 (fun x_13 h_14 => (¬ x_13 = 0 → (¬ x3 = 0 → (¬ x3 = 1 → bz_rR h_14 a0 12 10 (fun r_15 => bz_nn r_15 (fun a_16 => bz_rA h_14 a_16 0 (fun x_17 => bz_rc h_14 a0 12 (bz_cI G l d kX12_lateBy [.inr (some a0), .inl x2, .inl x_17] h_14 0 0 (fun x_18 h_19 => F (some (.inl x_18)) h_19)))))) ∧ (x3 = 1 → bz_rR h_14 a0 12 10 (fun r_20 => bz_nn r_20 (fun a_21 => bz_rA h_14 a_21 0 (fun x_22 => F (some (.inl x_22)) h_14))))) ∧ (x3 = 0 → bz_rR h_14 a0 12 9 (fun r_23 => bz_nn r_23 (fun a_24 => bz_rA h_14 a_24 0 (fun x_25 => F (some (.inl x_25)) h_14))))) ∧ (x_13 = 0 → bz_rc h_14 a0 12 (bz_cI G l d kX12_finding [.inr (some a0), .inl 3] h_14 0 0 (fun x_26 h_27 => F (some (.inl x_26)) h_27)))))) ∧ (x_11 = 0 → bz_rc h_12 a0 12 (bz_cI G l d kX12_finding [.inr (some a0), .inl 4] h_12 0 0 (fun x_28 h_29 => F (some (.inl x_28)) h_29)))))) ∧ (x_9 = 0 → bz_rc h_10 a0 12 (bz_cI G l d kX12_finding [.inr (some a0), .inl 0] h_10 0 0 (fun x_30 h_31 => F (some (.inl x_30)) h_31))))))))))) : bz_Call G l (d + 1) kX12_trip [.inr (some a0), .inl x1, .inl x2, .inl x3] h mc ms F :=
  bz_body (by decide) (by decide) (fun κ hl => g_X12_trip_0 hl a0 x1 x2 x3 h hP)
set_option maxRecDepth 20000 in
set_option maxHeartbeats 4000000 in
theorem g_X12_undo_0 {G : bz_G} {κ : bz_K} {l : Launch} {d : Nat} {F : Option bz_V → bz_H → Prop} {bc bs : Nat} (hl : κ.2.1 = l) (a0 : Nat) (h : bz_H) (hP : bz_rI h a0 12 2 (fun x_1 => (¬ x_1 = 0 → bz_J G κ kX12_undo (d + 1) F bc bs 15 [some (.inr (some a0)), some (.inl 0)] [] h) ∧ (x_1 = 0 → bz_rc h a0 12 (bz_cI G l d kX12_finding [.inr (some a0), .inl 3] h 0 0 (fun x_2 h_3 => F (some (.inl x_2)) h_3))))) : bz_J G κ kX12_undo (d + 1) F bc bs 0 [some (.inr (some a0)), none] [] h := by
  subst hl
  refine bz_aload_n (pc := 0) dX12_undo_0 rfl rfl ?_
  refine bz_rw_rI (pc := 1) dX12_undo_1 fl_X12_344 hP (fun x_1 hP => ?_)
  refine bz_if_ne (tgt := 13) (pc := 4) dX12_undo_4 (by decide) (fun c => ?_) (fun c => ?_)
  · have hP := hP.1 c
    refine bz_iconst (v := 0) (pc := 13) dX12_undo_13 (by decide) ?_
    refine bz_s_istore_n (pc := 14) dX12_undo_14 rfl (by decide) [some (.inr (some a0)), some (.inl 0)] rfl ?_
    exact hP
  · have hP := hP.2 c
    refine bz_aload_n (pc := 7) dX12_undo_7 rfl rfl ?_
    refine bz_iconst (v := 3) (pc := 8) dX12_undo_8 (by decide) ?_
    refine bz_kIV (as := [.inl 3]) (st := []) (ci := 12) (pc := 9) dX12_undo_9 sc_X12_finding ml_X12_73 im_X12_finding se_X12_finding rfl rfl rfl (by decide) hP (fun x_2 h_3 hP => ?_)
    exact bz_retI (pc := 12) dX12_undo_12 rfl rfl hP
set_option maxRecDepth 20000 in
set_option maxHeartbeats 4000000 in
theorem g_X12_undo_15 {G : bz_G} {κ : bz_K} {l : Launch} {d : Nat} {F : Option bz_V → bz_H → Prop} {bc bs : Nat} (hl : κ.2.1 = l) (a0 : Nat) (x1 : Int32) (h : bz_H) (hP : (2296 ≤ x1 → bz_b 0 (bz_wI h a0 12 5 0 (fun h_4 => bz_rR h_4 a0 12 0 (fun r_5 => bz_nn r_5 (fun a_6 => bz_rA h_4 a_6 0 (fun x_7 => F (some (.inl x_7)) h_4)))))) ∧ (¬ (2296 ≤ x1) → bz_rR h a0 12 0 (fun r_8 => bz_rR h a0 12 1 (fun r_9 => bz_nn r_9 (fun a_10 => bz_rA h a_10 x1 (fun x_11 => bz_nn r_8 (fun a_12 => bz_wA h a_12 x1 x_11 (fun h_13 => bz_J G κ kX12_undo (d + 1) F bc bs 15 [some (.inr (some a0)), some (.inl (x1 + 1))] [] h_13)))))))) : bz_J G κ kX12_undo (d + 1) F bc bs 15 [some (.inr (some a0)), some (.inl x1)] [] h := by
  subst hl
  refine bz_iload_n (pc := 15) dX12_undo_15 rfl rfl ?_
  refine bz_sipush (v := 2296) (pc := 16) dX12_undo_16 (by decide) ?_
  refine bz_icmp_ge (tgt := 40) (pc := 19) dX12_undo_19 (by decide) (fun c => ?_) (fun c => ?_)
  · have hP := hP.1 c
    refine bz_aload_n (pc := 40) dX12_undo_40 rfl rfl ?_
    refine bz_iconst (v := 0) (pc := 41) dX12_undo_41 (by decide) ?_
    refine bz_rw_wZ (pc := 42) dX12_undo_42 fl_X12_77 (fun q h9 => by cases h9; rfl) rfl hP (fun h_4 hP => ?_)
    refine bz_aload_n (pc := 45) dX12_undo_45 rfl rfl ?_
    refine bz_rw_rR (pc := 46) dX12_undo_46 fl_X12_7 hP (fun r_5 hP => ?_)
    refine bz_iconst (v := 0) (pc := 49) dX12_undo_49 (by decide) ?_
    obtain ⟨a_6, rfl, hP⟩ := hP
    refine bz_rw_rA (pc := 50) dX12_undo_50 hP (fun x_7 hP => ?_)
    exact bz_retI (pc := 51) dX12_undo_51 rfl rfl hP
  · have hP := hP.2 c
    refine bz_aload_n (pc := 22) dX12_undo_22 rfl rfl ?_
    refine bz_rw_rR (pc := 23) dX12_undo_23 fl_X12_7 hP (fun r_8 hP => ?_)
    refine bz_iload_n (pc := 26) dX12_undo_26 rfl rfl ?_
    refine bz_aload_n (pc := 27) dX12_undo_27 rfl rfl ?_
    refine bz_rw_rR (pc := 28) dX12_undo_28 fl_X12_13 hP (fun r_9 hP => ?_)
    refine bz_iload_n (pc := 31) dX12_undo_31 rfl rfl ?_
    obtain ⟨a_10, rfl, hP⟩ := hP
    refine bz_rw_rA (pc := 32) dX12_undo_32 hP (fun x_11 hP => ?_)
    obtain ⟨a_12, rfl, hP⟩ := hP
    refine bz_rw_wA (pc := 33) dX12_undo_33 hP (fun h_13 hP => ?_)
    refine bz_s_iinc (pc := 34) dX12_undo_34 (by decide) rfl rfl [some (.inr (some a0)), some (.inl (x1 + 1))] rfl ?_
    refine bz_goto (tgt := 15) (pc := 37) dX12_undo_37 (by decide) ?_
    exact hP
theorem m_X12_undo {G : bz_G} {l : Launch} {d mc ms : Nat} {F : Option bz_V → bz_H → Prop} (a0 : Nat) (h : bz_H) (hP : ∀ (κ : bz_K) (bc bs : Nat), κ.2.1 = l → bz_rI h a0 12 2 (fun x_1 => (¬ x_1 = 0 → bz_J G κ kX12_undo (d + 1) F bc bs 15 [some (.inr (some a0)), some (.inl 0)] [] h) ∧ (x_1 = 0 → bz_rc h a0 12 (bz_cI G l d kX12_finding [.inr (some a0), .inl 3] h 0 0 (fun x_2 h_3 => F (some (.inl x_2)) h_3))))) : bz_Call G l (d + 1) kX12_undo [.inr (some a0)] h mc ms F :=
  bz_body (by decide) (by decide) (fun κ hl => g_X12_undo_0 hl a0 h (hP κ mc ms hl))
set_option maxRecDepth 20000 in
set_option maxHeartbeats 4000000 in
theorem g_X12_wayOf_0 {G : bz_G} {κ : bz_K} {l : Launch} {d : Nat} {F : Option bz_V → bz_H → Prop} {bc bs : Nat} (hl : κ.2.1 = l) (a0 : Nat) (x1 : Int32) (x2 : Int32) (h : bz_H) (hP : bz_rI h a0 12 5 (fun x_1 => (¬ x_1 = 0 → bz_rR h a0 12 4 (fun r_2 => bz_nn r_2 (fun a_3 => bz_rA h a_3 ((16 * x1) + x2) (fun x_4 => F (some (.inl (if 1000000 ≤ x_4 then (-1) else x_4))) h)))) ∧ (x_1 = 0 → bz_rc h a0 12 (bz_cV G l d kX12_findWays [.inr (some a0)] h 0 0 (fun h_6 => bz_rR h_6 a0 12 4 (fun r_7 => bz_nn r_7 (fun a_8 => bz_rA h_6 a_8 ((16 * x1) + x2) (fun x_9 => F (some (.inl (if 1000000 ≤ x_9 then (-1) else x_9))) h_6)))))))) : bz_J G κ kX12_wayOf (d + 1) F bc bs 0 [some (.inr (some a0)), some (.inl x1), some (.inl x2), none] [] h := by
  subst hl
  refine bz_aload_n (pc := 0) dX12_wayOf_0 rfl rfl ?_
  refine bz_rw_rI (pc := 1) dX12_wayOf_1 fl_X12_77 hP (fun x_1 hP => ?_)
  refine bz_if_ne (tgt := 11) (pc := 4) dX12_wayOf_4 (by decide) (fun c => ?_) (fun c => ?_)
  · have hP := hP.1 c
    refine bz_aload_n (pc := 11) dX12_wayOf_11 rfl rfl ?_
    refine bz_rw_rR (pc := 12) dX12_wayOf_12 fl_X12_19 hP (fun r_2 hP => ?_)
    refine bz_bipush (v := 16) (pc := 15) dX12_wayOf_15 (by decide) ?_
    refine bz_iload_n (pc := 17) dX12_wayOf_17 rfl rfl ?_
    refine bz_imul (pc := 18) dX12_wayOf_18 ?_
    refine bz_iload_n (pc := 19) dX12_wayOf_19 rfl rfl ?_
    refine bz_iadd (pc := 20) dX12_wayOf_20 ?_
    obtain ⟨a_3, rfl, hP⟩ := hP
    refine bz_rw_rA (pc := 21) dX12_wayOf_21 hP (fun x_4 hP => ?_)
    refine bz_s_istore_n (pc := 22) dX12_wayOf_22 rfl (by decide) [some (.inr (some a0)), some (.inl x1), some (.inl x2), some (.inl x_4)] rfl ?_
    refine bz_iload_n (pc := 23) dX12_wayOf_23 rfl rfl ?_
    refine bz_ldc (pc := 24) dX12_wayOf_24 ct_X12_92 ?_
    have hJ : bz_J G κ kX12_wayOf (d + 1) F bc bs 34 [some (.inr (some a0)), some (.inl x1), some (.inl x2), some (.inl x_4)] [.inl (if 1000000 ≤ x_4 then (-1) else x_4)] h := by
      exact bz_retI (pc := 34) dX12_wayOf_34 rfl rfl hP
    refine bz_icmp_ge (tgt := 33) (pc := 26) dX12_wayOf_26 (by decide) (fun c => ?_) (fun c => ?_)
    · have e9 : ((if 1000000 ≤ x_4 then (-1) else x_4) : Int32) = ((-1)) := if_pos c
      rw [e9] at hJ
      refine bz_iconst (v := (-1)) (pc := 33) dX12_wayOf_33 (by decide) ?_
      exact hJ
    · have e9 : ((if 1000000 ≤ x_4 then (-1) else x_4) : Int32) = (x_4) := if_neg c
      rw [e9] at hJ
      refine bz_iload_n (pc := 29) dX12_wayOf_29 rfl rfl ?_
      refine bz_goto (tgt := 34) (pc := 30) dX12_wayOf_30 (by decide) ?_
      exact hJ
  · have hP := hP.2 c
    refine bz_aload_n (pc := 7) dX12_wayOf_7 rfl rfl ?_
    refine bz_kVV (as := []) (st := []) (ci := 12) (pc := 8) dX12_wayOf_8 sc_X12_findWays ml_X12_93 im_X12_findWays se_X12_findWays rfl rfl rfl (by decide) hP (fun h_6 hP => ?_)
    refine bz_aload_n (pc := 11) dX12_wayOf_11 rfl rfl ?_
    refine bz_rw_rR (pc := 12) dX12_wayOf_12 fl_X12_19 hP (fun r_7 hP => ?_)
    refine bz_bipush (v := 16) (pc := 15) dX12_wayOf_15 (by decide) ?_
    refine bz_iload_n (pc := 17) dX12_wayOf_17 rfl rfl ?_
    refine bz_imul (pc := 18) dX12_wayOf_18 ?_
    refine bz_iload_n (pc := 19) dX12_wayOf_19 rfl rfl ?_
    refine bz_iadd (pc := 20) dX12_wayOf_20 ?_
    obtain ⟨a_8, rfl, hP⟩ := hP
    refine bz_rw_rA (pc := 21) dX12_wayOf_21 hP (fun x_9 hP => ?_)
    refine bz_s_istore_n (pc := 22) dX12_wayOf_22 rfl (by decide) [some (.inr (some a0)), some (.inl x1), some (.inl x2), some (.inl x_9)] rfl ?_
    refine bz_iload_n (pc := 23) dX12_wayOf_23 rfl rfl ?_
    refine bz_ldc (pc := 24) dX12_wayOf_24 ct_X12_92 ?_
    have hJ : bz_J G κ kX12_wayOf (d + 1) F bc bs 34 [some (.inr (some a0)), some (.inl x1), some (.inl x2), some (.inl x_9)] [.inl (if 1000000 ≤ x_9 then (-1) else x_9)] h_6 := by
      exact bz_retI (pc := 34) dX12_wayOf_34 rfl rfl hP
    refine bz_icmp_ge (tgt := 33) (pc := 26) dX12_wayOf_26 (by decide) (fun c => ?_) (fun c => ?_)
    · have e9 : ((if 1000000 ≤ x_9 then (-1) else x_9) : Int32) = ((-1)) := if_pos c
      rw [e9] at hJ
      refine bz_iconst (v := (-1)) (pc := 33) dX12_wayOf_33 (by decide) ?_
      exact hJ
    · have e9 : ((if 1000000 ≤ x_9 then (-1) else x_9) : Int32) = (x_9) := if_neg c
      rw [e9] at hJ
      refine bz_iload_n (pc := 29) dX12_wayOf_29 rfl rfl ?_
      refine bz_goto (tgt := 34) (pc := 30) dX12_wayOf_30 (by decide) ?_
      exact hJ
theorem m_X12_wayOf {G : bz_G} {l : Launch} {d mc ms : Nat} {F : Option bz_V → bz_H → Prop} (a0 : Nat) (x1 : Int32) (x2 : Int32) (h : bz_H) (hP : bz_rI h a0 12 5 (fun x_1 => (¬ x_1 = 0 → bz_rR h a0 12 4 (fun r_2 => bz_nn r_2 (fun a_3 => bz_rA h a_3 ((16 * x1) + x2) (fun x_4 => F (some (.inl (if 1000000 ≤ x_4 then (-1) else x_4))) h)))) ∧ (x_1 = 0 → bz_rc h a0 12 (bz_cV G l d kX12_findWays [.inr (some a0)] h 0 0 (fun h_6 => bz_rR h_6 a0 12 4 (fun r_7 => bz_nn r_7 (fun a_8 => bz_rA h_6 a_8 ((16 * x1) + x2) (fun x_9 => F (some (.inl (if 1000000 ≤ x_9 then (-1) else x_9))) h_6)))))))) : bz_Call G l (d + 1) kX12_wayOf [.inr (some a0), .inl x1, .inl x2] h mc ms F :=
  bz_body (by decide) (by decide) (fun κ hl => g_X12_wayOf_0 hl a0 x1 x2 h hP)
set_option maxRecDepth 20000 in
set_option maxHeartbeats 4000000 in
theorem g_X12_way_0 {G : bz_G} {κ : bz_K} {l : Launch} {d : Nat} {F : Option bz_V → bz_H → Prop} {bc bs : Nat} (hl : κ.2.1 = l) (a0 : Nat) (x1 : Int32) (x2 : Int32) (h : bz_H) (hP : bz_cI G l d kX12_isCrossing [.inl x1] h 0 0 (fun x_1 h_2 => (x_1 = 0 → bz_rc h_2 a0 12 (bz_cI G l d kX12_finding [.inr (some a0), .inl 0] h_2 0 0 (fun x_3 h_4 => F (some (.inl x_3)) h_4))) ∧ (¬ (x_1 = 0) → bz_cI G l d kX12_isCrossing [.inl x2] h_2 0 0 (fun x_5 h_6 => (¬ x_5 = 0 → bz_rc h_6 a0 12 (bz_cI G l d kX12_wayOf [.inr (some a0), .inl x1, .inl x2] h_6 0 0 (fun x_7 h_8 => (0 ≤ x_7 → F (some (.inl x_7)) h_8) ∧ (¬ (0 ≤ x_7) → bz_rc h_8 a0 12 (bz_cI G l d kX12_finding [.inr (some a0), .inl 3] h_8 0 0 (fun x_9 h_10 => F (some (.inl x_9)) h_10)))))) ∧ (x_5 = 0 → bz_rc h_6 a0 12 (bz_cI G l d kX12_finding [.inr (some a0), .inl 0] h_6 0 0 (fun x_11 h_12 => F (some (.inl x_11)) h_12))))))) : bz_J G κ kX12_way (d + 1) F bc bs 0 [some (.inr (some a0)), some (.inl x1), some (.inl x2), none] [] h := by
  subst hl
  refine bz_iload_n (pc := 0) dX12_way_0 rfl rfl ?_
  refine bz_kIS (as := [.inl x1]) (st := []) (pc := 1) dX12_way_1 sc_X12_isCrossing ml_X12_69 ss_X12_isCrossing rfl (by decide) hP (fun x_1 h_2 hP => ?_)
  refine bz_if_eq (tgt := 14) (pc := 4) dX12_way_4 (by decide) (fun c => ?_) (fun c => ?_)
  · have hP := hP.1 c
    refine bz_aload_n (pc := 14) dX12_way_14 rfl rfl ?_
    refine bz_iconst (v := 0) (pc := 15) dX12_way_15 (by decide) ?_
    refine bz_kIV (as := [.inl 0]) (st := []) (ci := 12) (pc := 16) dX12_way_16 sc_X12_finding ml_X12_73 im_X12_finding se_X12_finding rfl rfl rfl (by decide) hP (fun x_3 h_4 hP => ?_)
    exact bz_retI (pc := 19) dX12_way_19 rfl rfl hP
  · have hP := hP.2 c
    refine bz_iload_n (pc := 7) dX12_way_7 rfl rfl ?_
    refine bz_kIS (as := [.inl x2]) (st := []) (pc := 8) dX12_way_8 sc_X12_isCrossing ml_X12_69 ss_X12_isCrossing rfl (by decide) hP (fun x_5 h_6 hP => ?_)
    refine bz_if_ne (tgt := 20) (pc := 11) dX12_way_11 (by decide) (fun c => ?_) (fun c => ?_)
    · have hP := hP.1 c
      refine bz_aload_n (pc := 20) dX12_way_20 rfl rfl ?_
      refine bz_iload_n (pc := 21) dX12_way_21 rfl rfl ?_
      refine bz_iload_n (pc := 22) dX12_way_22 rfl rfl ?_
      refine bz_kIV (as := [.inl x1, .inl x2]) (st := []) (ci := 12) (pc := 23) dX12_way_23 sc_X12_wayOf ml_X12_96 im_X12_wayOf se_X12_wayOf rfl rfl rfl (by decide) hP (fun x_7 h_8 hP => ?_)
      refine bz_s_istore_n (pc := 26) dX12_way_26 rfl (by decide) [some (.inr (some a0)), some (.inl x1), some (.inl x2), some (.inl x_7)] rfl ?_
      refine bz_iload_n (pc := 27) dX12_way_27 rfl rfl ?_
      refine bz_if_ge (tgt := 39) (pc := 28) dX12_way_28 (by decide) (fun c => ?_) (fun c => ?_)
      · have hP := hP.1 c
        refine bz_iload_n (pc := 39) dX12_way_39 rfl rfl ?_
        exact bz_retI (pc := 40) dX12_way_40 rfl rfl hP
      · have hP := hP.2 c
        refine bz_aload_n (pc := 31) dX12_way_31 rfl rfl ?_
        refine bz_iconst (v := 3) (pc := 32) dX12_way_32 (by decide) ?_
        refine bz_kIV (as := [.inl 3]) (st := []) (ci := 12) (pc := 33) dX12_way_33 sc_X12_finding ml_X12_73 im_X12_finding se_X12_finding rfl rfl rfl (by decide) hP (fun x_9 h_10 hP => ?_)
        refine bz_goto (tgt := 40) (pc := 36) dX12_way_36 (by decide) ?_
        exact bz_retI (pc := 40) dX12_way_40 rfl rfl hP
    · have hP := hP.2 c
      refine bz_aload_n (pc := 14) dX12_way_14 rfl rfl ?_
      refine bz_iconst (v := 0) (pc := 15) dX12_way_15 (by decide) ?_
      refine bz_kIV (as := [.inl 0]) (st := []) (ci := 12) (pc := 16) dX12_way_16 sc_X12_finding ml_X12_73 im_X12_finding se_X12_finding rfl rfl rfl (by decide) hP (fun x_11 h_12 hP => ?_)
      exact bz_retI (pc := 19) dX12_way_19 rfl rfl hP
theorem m_X12_way {G : bz_G} {l : Launch} {d mc ms : Nat} {F : Option bz_V → bz_H → Prop} (a0 : Nat) (x1 : Int32) (x2 : Int32) (h : bz_H) (hP : bz_cI G l d kX12_isCrossing [.inl x1] h 0 0 (fun x_1 h_2 => (x_1 = 0 → bz_rc h_2 a0 12 (bz_cI G l d kX12_finding [.inr (some a0), .inl 0] h_2 0 0 (fun x_3 h_4 => F (some (.inl x_3)) h_4))) ∧ (¬ (x_1 = 0) → bz_cI G l d kX12_isCrossing [.inl x2] h_2 0 0 (fun x_5 h_6 => (¬ x_5 = 0 → bz_rc h_6 a0 12 (bz_cI G l d kX12_wayOf [.inr (some a0), .inl x1, .inl x2] h_6 0 0 (fun x_7 h_8 => (0 ≤ x_7 → F (some (.inl x_7)) h_8) ∧ (¬ (0 ≤ x_7) → bz_rc h_8 a0 12 (bz_cI G l d kX12_finding [.inr (some a0), .inl 3] h_8 0 0 (fun x_9 h_10 => F (some (.inl x_9)) h_10)))))) ∧ (x_5 = 0 → bz_rc h_6 a0 12 (bz_cI G l d kX12_finding [.inr (some a0), .inl 0] h_6 0 0 (fun x_11 h_12 => F (some (.inl x_11)) h_12))))))) : bz_Call G l (d + 1) kX12_way [.inr (some a0), .inl x1, .inl x2] h mc ms F :=
  bz_body (by decide) (by decide) (fun κ hl => g_X12_way_0 hl a0 x1 x2 h hP)
set_option maxRecDepth 20000 in
set_option maxHeartbeats 4000000 in
theorem g_X12_whole_0 {G : bz_G} {κ : bz_K} {l : Launch} {d : Nat} {F : Option bz_V → bz_H → Prop} {bc bs : Nat} (hl : κ.2.1 = l) (a0 : Nat) (h : bz_H) (hP : bz_rc h a0 12 (bz_cI G l d kX12_sum [.inr (some a0)] h 0 0 (fun x_1 h_2 => (¬ x_1 = 0 → bz_rc h_2 a0 12 (bz_cI G l d kX12_isSign [.inr (some a0), .inl 60] h_2 0 0 (fun x_3 h_4 => (¬ x_3 = 0 → bz_rI h_4 a0 12 18 (fun x_5 => bz_rc h_4 a0 12 (bz_cV G l d kX12_next [.inr (some a0)] h_4 0 0 (fun h_7 => bz_rc h_7 a0 12 (bz_cI G l d kX12_sum [.inr (some a0)] h_7 0 0 (fun x_8 h_9 => (¬ x_8 = 0 → bz_rc h_9 a0 12 (bz_cV G l d kX12_lays [.inr (some a0), .inl 3, .inl x_5] h_9 0 0 (fun h_11 => F (some (.inl 1)) h_11))) ∧ (x_8 = 0 → F (some (.inl 0)) h_9))))))) ∧ (x_3 = 0 → bz_rc h_4 a0 12 (bz_cI G l d kX12_isSign [.inr (some a0), .inl 61] h_4 0 0 (fun x_12 h_13 => (x_12 = 0 → F (some (.inl 1)) h_13) ∧ (¬ (x_12 = 0) → bz_rI h_13 a0 12 18 (fun x_14 => bz_rc h_13 a0 12 (bz_cV G l d kX12_next [.inr (some a0)] h_13 0 0 (fun h_16 => bz_rc h_16 a0 12 (bz_cI G l d kX12_sum [.inr (some a0)] h_16 0 0 (fun x_17 h_18 => (¬ x_17 = 0 → bz_rc h_18 a0 12 (bz_cV G l d kX12_lays [.inr (some a0), .inl 3, .inl x_14] h_18 0 0 (fun h_20 => F (some (.inl 1)) h_20))) ∧ (x_17 = 0 → F (some (.inl 0)) h_18))))))))))))) ∧ (x_1 = 0 → F (some (.inl 0)) h_2)))) : bz_J G κ kX12_whole (d + 1) F bc bs 0 [some (.inr (some a0)), none] [] h := by
  subst hl
  refine bz_aload_n (pc := 0) dX12_whole_0 rfl rfl ?_
  refine bz_kIV (as := []) (st := []) (ci := 12) (pc := 1) dX12_whole_1 sc_X12_sum ml_X12_268 im_X12_sum se_X12_sum rfl rfl rfl (by decide) hP (fun x_1 h_2 hP => ?_)
  refine bz_if_ne (tgt := 9) (pc := 4) dX12_whole_4 (by decide) (fun c => ?_) (fun c => ?_)
  · have hP := hP.1 c
    refine bz_aload_n (pc := 9) dX12_whole_9 rfl rfl ?_
    refine bz_bipush (v := 60) (pc := 10) dX12_whole_10 (by decide) ?_
    refine bz_kIV (as := [.inl 60]) (st := []) (ci := 12) (pc := 12) dX12_whole_12 sc_X12_isSign ml_X12_272 im_X12_isSign se_X12_isSign rfl rfl rfl (by decide) hP (fun x_3 h_4 hP => ?_)
    refine bz_if_ne (tgt := 27) (pc := 15) dX12_whole_15 (by decide) (fun c => ?_) (fun c => ?_)
    · have hP := hP.1 c
      refine bz_aload_n (pc := 27) dX12_whole_27 rfl rfl ?_
      refine bz_rw_rI (pc := 28) dX12_whole_28 fl_X12_247 hP (fun x_5 hP => ?_)
      refine bz_s_istore_n (pc := 31) dX12_whole_31 rfl (by decide) [some (.inr (some a0)), some (.inl x_5)] rfl ?_
      refine bz_aload_n (pc := 32) dX12_whole_32 rfl rfl ?_
      refine bz_kVV (as := []) (st := []) (ci := 12) (pc := 33) dX12_whole_33 sc_X12_next ml_X12_265 im_X12_next se_X12_next rfl rfl rfl (by decide) hP (fun h_7 hP => ?_)
      refine bz_aload_n (pc := 36) dX12_whole_36 rfl rfl ?_
      refine bz_kIV (as := []) (st := []) (ci := 12) (pc := 37) dX12_whole_37 sc_X12_sum ml_X12_268 im_X12_sum se_X12_sum rfl rfl rfl (by decide) hP (fun x_8 h_9 hP => ?_)
      refine bz_if_ne (tgt := 45) (pc := 40) dX12_whole_40 (by decide) (fun c => ?_) (fun c => ?_)
      · have hP := hP.1 c
        refine bz_aload_n (pc := 45) dX12_whole_45 rfl rfl ?_
        refine bz_iconst (v := 3) (pc := 46) dX12_whole_46 (by decide) ?_
        refine bz_iload_n (pc := 47) dX12_whole_47 rfl rfl ?_
        refine bz_kVV (as := [.inl 3, .inl x_5]) (st := []) (ci := 12) (pc := 48) dX12_whole_48 sc_X12_lays ml_X12_275 im_X12_lays se_X12_lays rfl rfl rfl (by decide) hP (fun h_11 hP => ?_)
        refine bz_iconst (v := 1) (pc := 51) dX12_whole_51 (by decide) ?_
        exact bz_retI (pc := 52) dX12_whole_52 rfl rfl hP
      · have hP := hP.2 c
        refine bz_iconst (v := 0) (pc := 43) dX12_whole_43 (by decide) ?_
        exact bz_retI (pc := 44) dX12_whole_44 rfl rfl hP
    · have hP := hP.2 c
      refine bz_aload_n (pc := 18) dX12_whole_18 rfl rfl ?_
      refine bz_bipush (v := 61) (pc := 19) dX12_whole_19 (by decide) ?_
      refine bz_kIV (as := [.inl 61]) (st := []) (ci := 12) (pc := 21) dX12_whole_21 sc_X12_isSign ml_X12_272 im_X12_isSign se_X12_isSign rfl rfl rfl (by decide) hP (fun x_12 h_13 hP => ?_)
      refine bz_if_eq (tgt := 51) (pc := 24) dX12_whole_24 (by decide) (fun c => ?_) (fun c => ?_)
      · have hP := hP.1 c
        refine bz_iconst (v := 1) (pc := 51) dX12_whole_51 (by decide) ?_
        exact bz_retI (pc := 52) dX12_whole_52 rfl rfl hP
      · have hP := hP.2 c
        refine bz_aload_n (pc := 27) dX12_whole_27 rfl rfl ?_
        refine bz_rw_rI (pc := 28) dX12_whole_28 fl_X12_247 hP (fun x_14 hP => ?_)
        refine bz_s_istore_n (pc := 31) dX12_whole_31 rfl (by decide) [some (.inr (some a0)), some (.inl x_14)] rfl ?_
        refine bz_aload_n (pc := 32) dX12_whole_32 rfl rfl ?_
        refine bz_kVV (as := []) (st := []) (ci := 12) (pc := 33) dX12_whole_33 sc_X12_next ml_X12_265 im_X12_next se_X12_next rfl rfl rfl (by decide) hP (fun h_16 hP => ?_)
        refine bz_aload_n (pc := 36) dX12_whole_36 rfl rfl ?_
        refine bz_kIV (as := []) (st := []) (ci := 12) (pc := 37) dX12_whole_37 sc_X12_sum ml_X12_268 im_X12_sum se_X12_sum rfl rfl rfl (by decide) hP (fun x_17 h_18 hP => ?_)
        refine bz_if_ne (tgt := 45) (pc := 40) dX12_whole_40 (by decide) (fun c => ?_) (fun c => ?_)
        · have hP := hP.1 c
          refine bz_aload_n (pc := 45) dX12_whole_45 rfl rfl ?_
          refine bz_iconst (v := 3) (pc := 46) dX12_whole_46 (by decide) ?_
          refine bz_iload_n (pc := 47) dX12_whole_47 rfl rfl ?_
          refine bz_kVV (as := [.inl 3, .inl x_14]) (st := []) (ci := 12) (pc := 48) dX12_whole_48 sc_X12_lays ml_X12_275 im_X12_lays se_X12_lays rfl rfl rfl (by decide) hP (fun h_20 hP => ?_)
          refine bz_iconst (v := 1) (pc := 51) dX12_whole_51 (by decide) ?_
          exact bz_retI (pc := 52) dX12_whole_52 rfl rfl hP
        · have hP := hP.2 c
          refine bz_iconst (v := 0) (pc := 43) dX12_whole_43 (by decide) ?_
          exact bz_retI (pc := 44) dX12_whole_44 rfl rfl hP
  · have hP := hP.2 c
    refine bz_iconst (v := 0) (pc := 7) dX12_whole_7 (by decide) ?_
    exact bz_retI (pc := 8) dX12_whole_8 rfl rfl hP
theorem m_X12_whole {G : bz_G} {l : Launch} {d mc ms : Nat} {F : Option bz_V → bz_H → Prop} (a0 : Nat) (h : bz_H) (hP : bz_rc h a0 12 (bz_cI G l d kX12_sum [.inr (some a0)] h 0 0 (fun x_1 h_2 => (¬ x_1 = 0 → bz_rc h_2 a0 12 (bz_cI G l d kX12_isSign [.inr (some a0), .inl 60] h_2 0 0 (fun x_3 h_4 => (¬ x_3 = 0 → bz_rI h_4 a0 12 18 (fun x_5 => bz_rc h_4 a0 12 (bz_cV G l d kX12_next [.inr (some a0)] h_4 0 0 (fun h_7 => bz_rc h_7 a0 12 (bz_cI G l d kX12_sum [.inr (some a0)] h_7 0 0 (fun x_8 h_9 => (¬ x_8 = 0 → bz_rc h_9 a0 12 (bz_cV G l d kX12_lays [.inr (some a0), .inl 3, .inl x_5] h_9 0 0 (fun h_11 => F (some (.inl 1)) h_11))) ∧ (x_8 = 0 → F (some (.inl 0)) h_9))))))) ∧ (x_3 = 0 → bz_rc h_4 a0 12 (bz_cI G l d kX12_isSign [.inr (some a0), .inl 61] h_4 0 0 (fun x_12 h_13 => (x_12 = 0 → F (some (.inl 1)) h_13) ∧ (¬ (x_12 = 0) → bz_rI h_13 a0 12 18 (fun x_14 => bz_rc h_13 a0 12 (bz_cV G l d kX12_next [.inr (some a0)] h_13 0 0 (fun h_16 => bz_rc h_16 a0 12 (bz_cI G l d kX12_sum [.inr (some a0)] h_16 0 0 (fun x_17 h_18 => (¬ x_17 = 0 → bz_rc h_18 a0 12 (bz_cV G l d kX12_lays [.inr (some a0), .inl 3, .inl x_14] h_18 0 0 (fun h_20 => F (some (.inl 1)) h_20))) ∧ (x_17 = 0 → F (some (.inl 0)) h_18))))))))))))) ∧ (x_1 = 0 → F (some (.inl 0)) h_2)))) : bz_Call G l (d + 1) kX12_whole [.inr (some a0)] h mc ms F :=
  bz_body (by decide) (by decide) (fun κ hl => g_X12_whole_0 hl a0 h hP)
set_option maxRecDepth 20000 in
set_option maxHeartbeats 4000000 in
theorem g_X12_whom_0 {G : bz_G} {κ : bz_K} {l : Launch} {d : Nat} {F : Option bz_V → bz_H → Prop} {bc bs : Nat} (hl : κ.2.1 = l) (a0 : Nat) (x1 : Int32) (x2 : Int32) (h : bz_H) (hP : bz_rc h a0 12 (bz_cI G l d kX12_isText [.inr (some a0), .inl x1] h 0 0 (fun x_1 h_2 => (x_1 = 0 → bz_rc h_2 a0 12 (bz_cI G l d kX12_finding [.inr (some a0), .inl 0] h_2 0 0 (fun x_3 h_4 => F (some (.inl x_3)) h_4))) ∧ (¬ (x_1 = 0) → bz_rc h_2 a0 12 (bz_cI G l d kX12_isOrder [.inr (some a0), .inl x2] h_2 0 0 (fun x_5 h_6 => (¬ x_5 = 0 → bz_rc h_6 a0 12 (bz_cV G l d kX12_goesNight [.inr (some a0), .inl x1] h_6 0 0 (fun h_8 => bz_rR h_8 a0 12 27 (fun r_9 => bz_nn r_9 (fun a_10 => bz_rA h_8 a_10 x2 (fun x_11 => (0 ≤ x_11 → bz_rR h_8 a0 12 27 (fun r_12 => bz_nn r_12 (fun a_13 => bz_rA h_8 a_13 x2 (fun x_14 => F (some (.inl x_14)) h_8)))) ∧ (¬ (0 ≤ x_11) → bz_rc h_8 a0 12 (bz_cI G l d kX12_finding [.inr (some a0), .inl 3] h_8 0 0 (fun x_15 h_16 => F (some (.inl x_15)) h_16))))))))) ∧ (x_5 = 0 → bz_rc h_6 a0 12 (bz_cI G l d kX12_finding [.inr (some a0), .inl 0] h_6 0 0 (fun x_17 h_18 => F (some (.inl x_17)) h_18))))))))) : bz_J G κ kX12_whom (d + 1) F bc bs 0 [some (.inr (some a0)), some (.inl x1), some (.inl x2)] [] h := by
  subst hl
  refine bz_aload_n (pc := 0) dX12_whom_0 rfl rfl ?_
  refine bz_iload_n (pc := 1) dX12_whom_1 rfl rfl ?_
  refine bz_kIV (as := [.inl x1]) (st := []) (ci := 12) (pc := 2) dX12_whom_2 sc_X12_isText ml_X12_296 im_X12_isText se_X12_isText rfl rfl rfl (by decide) hP (fun x_1 h_2 hP => ?_)
  refine bz_if_eq (tgt := 16) (pc := 5) dX12_whom_5 (by decide) (fun c => ?_) (fun c => ?_)
  · have hP := hP.1 c
    refine bz_aload_n (pc := 16) dX12_whom_16 rfl rfl ?_
    refine bz_iconst (v := 0) (pc := 17) dX12_whom_17 (by decide) ?_
    refine bz_kIV (as := [.inl 0]) (st := []) (ci := 12) (pc := 18) dX12_whom_18 sc_X12_finding ml_X12_73 im_X12_finding se_X12_finding rfl rfl rfl (by decide) hP (fun x_3 h_4 hP => ?_)
    exact bz_retI (pc := 21) dX12_whom_21 rfl rfl hP
  · have hP := hP.2 c
    refine bz_aload_n (pc := 8) dX12_whom_8 rfl rfl ?_
    refine bz_iload_n (pc := 9) dX12_whom_9 rfl rfl ?_
    refine bz_kIV (as := [.inl x2]) (st := []) (ci := 12) (pc := 10) dX12_whom_10 sc_X12_isOrder ml_X12_117 im_X12_isOrder se_X12_isOrder rfl rfl rfl (by decide) hP (fun x_5 h_6 hP => ?_)
    refine bz_if_ne (tgt := 22) (pc := 13) dX12_whom_13 (by decide) (fun c => ?_) (fun c => ?_)
    · have hP := hP.1 c
      refine bz_aload_n (pc := 22) dX12_whom_22 rfl rfl ?_
      refine bz_iload_n (pc := 23) dX12_whom_23 rfl rfl ?_
      refine bz_kVV (as := [.inl x1]) (st := []) (ci := 12) (pc := 24) dX12_whom_24 sc_X12_goesNight ml_X12_332 im_X12_goesNight se_X12_goesNight rfl rfl rfl (by decide) hP (fun h_8 hP => ?_)
      refine bz_aload_n (pc := 27) dX12_whom_27 rfl rfl ?_
      refine bz_rw_rR (pc := 28) dX12_whom_28 fl_X12_49 hP (fun r_9 hP => ?_)
      refine bz_iload_n (pc := 31) dX12_whom_31 rfl rfl ?_
      obtain ⟨a_10, rfl, hP⟩ := hP
      refine bz_rw_rA (pc := 32) dX12_whom_32 hP (fun x_11 hP => ?_)
      refine bz_if_ge (tgt := 44) (pc := 33) dX12_whom_33 (by decide) (fun c => ?_) (fun c => ?_)
      · have hP := hP.1 c
        refine bz_aload_n (pc := 44) dX12_whom_44 rfl rfl ?_
        refine bz_rw_rR (pc := 45) dX12_whom_45 fl_X12_49 hP (fun r_12 hP => ?_)
        refine bz_iload_n (pc := 48) dX12_whom_48 rfl rfl ?_
        obtain ⟨a_13, rfl, hP⟩ := hP
        refine bz_rw_rA (pc := 49) dX12_whom_49 hP (fun x_14 hP => ?_)
        exact bz_retI (pc := 50) dX12_whom_50 rfl rfl hP
      · have hP := hP.2 c
        refine bz_aload_n (pc := 36) dX12_whom_36 rfl rfl ?_
        refine bz_iconst (v := 3) (pc := 37) dX12_whom_37 (by decide) ?_
        refine bz_kIV (as := [.inl 3]) (st := []) (ci := 12) (pc := 38) dX12_whom_38 sc_X12_finding ml_X12_73 im_X12_finding se_X12_finding rfl rfl rfl (by decide) hP (fun x_15 h_16 hP => ?_)
        refine bz_goto (tgt := 50) (pc := 41) dX12_whom_41 (by decide) ?_
        exact bz_retI (pc := 50) dX12_whom_50 rfl rfl hP
    · have hP := hP.2 c
      refine bz_aload_n (pc := 16) dX12_whom_16 rfl rfl ?_
      refine bz_iconst (v := 0) (pc := 17) dX12_whom_17 (by decide) ?_
      refine bz_kIV (as := [.inl 0]) (st := []) (ci := 12) (pc := 18) dX12_whom_18 sc_X12_finding ml_X12_73 im_X12_finding se_X12_finding rfl rfl rfl (by decide) hP (fun x_17 h_18 hP => ?_)
      exact bz_retI (pc := 21) dX12_whom_21 rfl rfl hP
theorem m_X12_whom {G : bz_G} {l : Launch} {d mc ms : Nat} {F : Option bz_V → bz_H → Prop} (a0 : Nat) (x1 : Int32) (x2 : Int32) (h : bz_H) (hP : bz_rc h a0 12 (bz_cI G l d kX12_isText [.inr (some a0), .inl x1] h 0 0 (fun x_1 h_2 => (x_1 = 0 → bz_rc h_2 a0 12 (bz_cI G l d kX12_finding [.inr (some a0), .inl 0] h_2 0 0 (fun x_3 h_4 => F (some (.inl x_3)) h_4))) ∧ (¬ (x_1 = 0) → bz_rc h_2 a0 12 (bz_cI G l d kX12_isOrder [.inr (some a0), .inl x2] h_2 0 0 (fun x_5 h_6 => (¬ x_5 = 0 → bz_rc h_6 a0 12 (bz_cV G l d kX12_goesNight [.inr (some a0), .inl x1] h_6 0 0 (fun h_8 => bz_rR h_8 a0 12 27 (fun r_9 => bz_nn r_9 (fun a_10 => bz_rA h_8 a_10 x2 (fun x_11 => (0 ≤ x_11 → bz_rR h_8 a0 12 27 (fun r_12 => bz_nn r_12 (fun a_13 => bz_rA h_8 a_13 x2 (fun x_14 => F (some (.inl x_14)) h_8)))) ∧ (¬ (0 ≤ x_11) → bz_rc h_8 a0 12 (bz_cI G l d kX12_finding [.inr (some a0), .inl 3] h_8 0 0 (fun x_15 h_16 => F (some (.inl x_15)) h_16))))))))) ∧ (x_5 = 0 → bz_rc h_6 a0 12 (bz_cI G l d kX12_finding [.inr (some a0), .inl 0] h_6 0 0 (fun x_17 h_18 => F (some (.inl x_17)) h_18))))))))) : bz_Call G l (d + 1) kX12_whom [.inr (some a0), .inl x1, .inl x2] h mc ms F :=
  bz_body (by decide) (by decide) (fun κ hl => g_X12_whom_0 hl a0 x1 x2 h hP)
set_option maxRecDepth 20000 in
set_option maxHeartbeats 4000000 in
theorem g_X12_wipe_0 {G : bz_G} {κ : bz_K} {l : Launch} {d : Nat} {F : Option bz_V → bz_H → Prop} {bc bs : Nat} (hl : κ.2.1 = l) (a0 : Nat) (h : bz_H) (hP : bz_rI h a0 12 14 (fun x_1 => bz_wI h a0 12 14 0 (fun h_2 => F (some (.inl x_1)) h_2))) : bz_J G κ kX12_wipe (d + 1) F bc bs 0 [some (.inr (some a0)), none] [] h := by
  subst hl
  refine bz_aload_n (pc := 0) dX12_wipe_0 rfl rfl ?_
  refine bz_rw_rI (pc := 1) dX12_wipe_1 fl_X12_235 hP (fun x_1 hP => ?_)
  refine bz_s_istore_n (pc := 4) dX12_wipe_4 rfl (by decide) [some (.inr (some a0)), some (.inl x_1)] rfl ?_
  refine bz_aload_n (pc := 5) dX12_wipe_5 rfl rfl ?_
  refine bz_iconst (v := 0) (pc := 6) dX12_wipe_6 (by decide) ?_
  refine bz_rw_wI (pc := 7) dX12_wipe_7 fl_X12_235 (fun q h9 => by cases h9; rfl) rfl hP (fun h_2 hP => ?_)
  refine bz_iload_n (pc := 10) dX12_wipe_10 rfl rfl ?_
  exact bz_retI (pc := 11) dX12_wipe_11 rfl rfl hP
theorem m_X12_wipe {G : bz_G} {l : Launch} {d mc ms : Nat} {F : Option bz_V → bz_H → Prop} (a0 : Nat) (h : bz_H) (hP : bz_rI h a0 12 14 (fun x_1 => bz_wI h a0 12 14 0 (fun h_2 => F (some (.inl x_1)) h_2))) : bz_Call G l (d + 1) kX12_wipe [.inr (some a0)] h mc ms F :=
  bz_body (by decide) (by decide) (fun κ hl => g_X12_wipe_0 hl a0 h hP)
set_option maxRecDepth 20000 in
set_option maxHeartbeats 4000000 in
theorem g_X12_works_0 {G : bz_G} {κ : bz_K} {l : Launch} {d : Nat} {F : Option bz_V → bz_H → Prop} {bc bs : Nat} (hl : κ.2.1 = l) (a0 : Nat) (x1 : Int32) (h : bz_H) (hP : bz_J G κ kX12_works (d + 1) F bc bs 15 [some (.inr (some a0)), some (.inl x1), some (.inl (976 + (165 * x1))), some (.inl 0), some (.inl 0), none, none] [] h) : bz_J G κ kX12_works (d + 1) F bc bs 0 [some (.inr (some a0)), some (.inl x1), none, none, none, none, none] [] h := by
  subst hl
  refine bz_sipush (v := 976) (pc := 0) dX12_works_0 (by decide) ?_
  refine bz_sipush (v := 165) (pc := 3) dX12_works_3 (by decide) ?_
  refine bz_iload_n (pc := 6) dX12_works_6 rfl rfl ?_
  refine bz_imul (pc := 7) dX12_works_7 ?_
  refine bz_iadd (pc := 8) dX12_works_8 ?_
  refine bz_s_istore_n (pc := 9) dX12_works_9 rfl (by decide) [some (.inr (some a0)), some (.inl x1), some (.inl (976 + (165 * x1))), none, none, none, none] rfl ?_
  refine bz_iconst (v := 0) (pc := 10) dX12_works_10 (by decide) ?_
  refine bz_s_istore_n (pc := 11) dX12_works_11 rfl (by decide) [some (.inr (some a0)), some (.inl x1), some (.inl (976 + (165 * x1))), some (.inl 0), none, none, none] rfl ?_
  refine bz_iconst (v := 0) (pc := 12) dX12_works_12 (by decide) ?_
  refine bz_s_istore (pc := 13) dX12_works_13 (by decide) [some (.inr (some a0)), some (.inl x1), some (.inl (976 + (165 * x1))), some (.inl 0), some (.inl 0), none, none] rfl ?_
  exact hP
set_option maxRecDepth 20000 in
set_option maxHeartbeats 4000000 in
theorem g_X12_works_15 {G : bz_G} {κ : bz_K} {l : Launch} {d : Nat} {F : Option bz_V → bz_H → Prop} {bc bs : Nat} (hl : κ.2.1 = l) (a0 : Nat) (x1 : Int32) (x2 : Int32) (x3 : Int32) (x4 : Int32) (u5 : Option bz_V) (u6 : Option bz_V) (h : bz_H) (hP : bz_rR h a0 12 0 (fun r_1 => bz_nn r_1 (fun a_2 => bz_rA h a_2 x2 (fun x_3 => (x_3 ≤ x4 → bz_rR h a0 12 23 (fun r_4 => bz_nn r_4 (fun a_5 => bz_rA h a_5 0 (fun x_6 => F (some (.inl x_6)) h)))) ∧ (¬ (x_3 ≤ x4) → bz_rR h a0 12 0 (fun r_7 => bz_nn r_7 (fun a_8 => bz_rA h a_8 ((x2 + 1) + (2 * x4)) (fun x_9 => bz_rR h a0 12 0 (fun r_10 => bz_nn r_10 (fun a_11 => bz_rA h a_11 ((x2 + 2) + (2 * x4)) (fun x_12 => (x_9 = 0 → bz_rR h a0 12 23 (fun r_13 => (¬ x_9 = 0 → bz_rR h a0 12 22 (fun r_14 => bz_nn r_14 (fun a_15 => bz_rA h a_15 x_12 (fun x_16 => bz_nn r_13 (fun a_17 => bz_wA h a_17 x3 x_16 (fun h_18 => bz_J G κ kX12_works (d + 1) F bc bs 15 [some (.inr (some a0)), some (.inl x1), some (.inl x2), some (.inl (x3 + 1)), some (.inl (x4 + 1)), some (.inl x_9), some (.inl x_12)] [] h_18)))))) ∧ (x_9 = 0 → bz_nn r_13 (fun a_19 => bz_wA h a_19 x3 x_12 (fun h_20 => bz_J G κ kX12_works (d + 1) F bc bs 15 [some (.inr (some a0)), some (.inl x1), some (.inl x2), some (.inl (x3 + 1)), some (.inl (x4 + 1)), some (.inl x_9), some (.inl x_12)] [] h_20))))) ∧ (¬ (x_9 = 0) → (¬ x_9 = 1 → (¬ x_9 = 2 → bz_rR h a0 12 23 (fun r_21 => bz_rR h a0 12 23 (fun r_22 => bz_nn r_22 (fun a_23 => bz_rA h a_23 ((x3 + (-1)) - 1) (fun x_24 => bz_rR h a0 12 23 (fun r_25 => bz_nn r_25 (fun a_26 => bz_rA h a_26 (x3 + (-1)) (fun x_27 => bz_cI G l d kX12_joined [.inl x_12, .inl x_24, .inl x_27] h 0 0 (fun x_28 h_29 => bz_nn r_21 (fun a_30 => bz_wA h_29 a_30 ((x3 + (-1)) - 1) x_28 (fun h_31 => bz_J G κ kX12_works (d + 1) F bc bs 15 [some (.inr (some a0)), some (.inl x1), some (.inl x2), some (.inl (x3 + (-1))), some (.inl (x4 + 1)), some (.inl x_9), some (.inl x_12)] [] h_31))))))))))) ∧ (x_9 = 2 → bz_rR h a0 12 23 (fun r_32 => bz_rR h a0 12 23 (fun r_33 => bz_nn r_33 (fun a_34 => bz_rA h a_34 (x3 - 1) (fun x_35 => bz_nn r_32 (fun a_36 => bz_wA h a_36 (x3 - 1) (-x_35) (fun h_37 => bz_J G κ kX12_works (d + 1) F bc bs 15 [some (.inr (some a0)), some (.inl x1), some (.inl x2), some (.inl x3), some (.inl (x4 + 1)), some (.inl x_9), some (.inl x_12)] [] h_37)))))))) ∧ (x_9 = 1 → bz_rR h a0 12 23 (fun r_38 => (¬ x_9 = 0 → bz_rR h a0 12 22 (fun r_39 => bz_nn r_39 (fun a_40 => bz_rA h a_40 x_12 (fun x_41 => bz_nn r_38 (fun a_42 => bz_wA h a_42 x3 x_41 (fun h_43 => bz_J G κ kX12_works (d + 1) F bc bs 15 [some (.inr (some a0)), some (.inl x1), some (.inl x2), some (.inl (x3 + 1)), some (.inl (x4 + 1)), some (.inl x_9), some (.inl x_12)] [] h_43)))))) ∧ (x_9 = 0 → bz_nn r_38 (fun a_44 => bz_wA h a_44 x3 x_12 (fun h_45 => bz_J G κ kX12_works (d + 1) F bc bs 15 [some (.inr (some a0)), some (.inl x1), some (.inl x2), some (.inl (x3 + 1)), some (.inl (x4 + 1)), some (.inl x_9), some (.inl x_12)] [] h_45))))))))))))))))) : bz_J G κ kX12_works (d + 1) F bc bs 15 [some (.inr (some a0)), some (.inl x1), some (.inl x2), some (.inl x3), some (.inl x4), u5, u6] [] h := by
  subst hl
  refine bz_iload (pc := 15) dX12_works_15 rfl ?_
  refine bz_aload_n (pc := 17) dX12_works_17 rfl rfl ?_
  refine bz_rw_rR (pc := 18) dX12_works_18 fl_X12_7 hP (fun r_1 hP => ?_)
  refine bz_iload_n (pc := 21) dX12_works_21 rfl rfl ?_
  obtain ⟨a_2, rfl, hP⟩ := hP
  refine bz_rw_rA (pc := 22) dX12_works_22 hP (fun x_3 hP => ?_)
  refine bz_icmp_ge (tgt := 158) (pc := 23) dX12_works_23 (by decide) (fun c => ?_) (fun c => ?_)
  · have hP := hP.1 c
    refine bz_aload_n (pc := 158) dX12_works_158 rfl rfl ?_
    refine bz_rw_rR (pc := 159) dX12_works_159 fl_X12_37 hP (fun r_4 hP => ?_)
    refine bz_iconst (v := 0) (pc := 162) dX12_works_162 (by decide) ?_
    obtain ⟨a_5, rfl, hP⟩ := hP
    refine bz_rw_rA (pc := 163) dX12_works_163 hP (fun x_6 hP => ?_)
    exact bz_retI (pc := 164) dX12_works_164 rfl rfl hP
  · have hP := hP.2 c
    refine bz_aload_n (pc := 26) dX12_works_26 rfl rfl ?_
    refine bz_rw_rR (pc := 27) dX12_works_27 fl_X12_7 hP (fun r_7 hP => ?_)
    refine bz_iload_n (pc := 30) dX12_works_30 rfl rfl ?_
    refine bz_iconst (v := 1) (pc := 31) dX12_works_31 (by decide) ?_
    refine bz_iadd (pc := 32) dX12_works_32 ?_
    refine bz_iconst (v := 2) (pc := 33) dX12_works_33 (by decide) ?_
    refine bz_iload (pc := 34) dX12_works_34 rfl ?_
    refine bz_imul (pc := 36) dX12_works_36 ?_
    refine bz_iadd (pc := 37) dX12_works_37 ?_
    obtain ⟨a_8, rfl, hP⟩ := hP
    refine bz_rw_rA (pc := 38) dX12_works_38 hP (fun x_9 hP => ?_)
    refine bz_s_istore (pc := 39) dX12_works_39 (by decide) [some (.inr (some a0)), some (.inl x1), some (.inl x2), some (.inl x3), some (.inl x4), some (.inl x_9), u6] rfl ?_
    refine bz_aload_n (pc := 41) dX12_works_41 rfl rfl ?_
    refine bz_rw_rR (pc := 42) dX12_works_42 fl_X12_7 hP (fun r_10 hP => ?_)
    refine bz_iload_n (pc := 45) dX12_works_45 rfl rfl ?_
    refine bz_iconst (v := 2) (pc := 46) dX12_works_46 (by decide) ?_
    refine bz_iadd (pc := 47) dX12_works_47 ?_
    refine bz_iconst (v := 2) (pc := 48) dX12_works_48 (by decide) ?_
    refine bz_iload (pc := 49) dX12_works_49 rfl ?_
    refine bz_imul (pc := 51) dX12_works_51 ?_
    refine bz_iadd (pc := 52) dX12_works_52 ?_
    obtain ⟨a_11, rfl, hP⟩ := hP
    refine bz_rw_rA (pc := 53) dX12_works_53 hP (fun x_12 hP => ?_)
    refine bz_s_istore (pc := 54) dX12_works_54 (by decide) [some (.inr (some a0)), some (.inl x1), some (.inl x2), some (.inl x3), some (.inl x4), some (.inl x_9), some (.inl x_12)] rfl ?_
    refine bz_iload (pc := 56) dX12_works_56 rfl ?_
    refine bz_if_eq (tgt := 67) (pc := 58) dX12_works_58 (by decide) (fun c => ?_) (fun c => ?_)
    · have hP := hP.1 c
      refine bz_aload_n (pc := 67) dX12_works_67 rfl rfl ?_
      refine bz_rw_rR (pc := 68) dX12_works_68 fl_X12_37 hP (fun r_13 hP => ?_)
      refine bz_iload_n (pc := 71) dX12_works_71 rfl rfl ?_
      refine bz_iload (pc := 72) dX12_works_72 rfl ?_
      refine bz_if_ne (tgt := 82) (pc := 74) dX12_works_74 (by decide) (fun c => ?_) (fun c => ?_)
      · have hP := hP.1 c
        refine bz_aload_n (pc := 82) dX12_works_82 rfl rfl ?_
        refine bz_rw_rR (pc := 83) dX12_works_83 fl_X12_34 hP (fun r_14 hP => ?_)
        refine bz_iload (pc := 86) dX12_works_86 rfl ?_
        obtain ⟨a_15, rfl, hP⟩ := hP
        refine bz_rw_rA (pc := 88) dX12_works_88 hP (fun x_16 hP => ?_)
        obtain ⟨a_17, rfl, hP⟩ := hP
        refine bz_rw_wA (pc := 89) dX12_works_89 hP (fun h_18 hP => ?_)
        refine bz_s_iinc (pc := 90) dX12_works_90 (by decide) rfl rfl [some (.inr (some a0)), some (.inl x1), some (.inl x2), some (.inl (x3 + 1)), some (.inl x4), some (.inl x_9), some (.inl x_12)] rfl ?_
        refine bz_goto (tgt := 152) (pc := 93) dX12_works_93 (by decide) ?_
        refine bz_s_iinc (pc := 152) dX12_works_152 (by decide) rfl rfl [some (.inr (some a0)), some (.inl x1), some (.inl x2), some (.inl (x3 + 1)), some (.inl (x4 + 1)), some (.inl x_9), some (.inl x_12)] rfl ?_
        refine bz_goto (tgt := 15) (pc := 155) dX12_works_155 (by decide) ?_
        exact hP
      · have hP := hP.2 c
        refine bz_iload (pc := 77) dX12_works_77 rfl ?_
        refine bz_goto (tgt := 89) (pc := 79) dX12_works_79 (by decide) ?_
        obtain ⟨a_19, rfl, hP⟩ := hP
        refine bz_rw_wA (pc := 89) dX12_works_89 hP (fun h_20 hP => ?_)
        refine bz_s_iinc (pc := 90) dX12_works_90 (by decide) rfl rfl [some (.inr (some a0)), some (.inl x1), some (.inl x2), some (.inl (x3 + 1)), some (.inl x4), some (.inl x_9), some (.inl x_12)] rfl ?_
        refine bz_goto (tgt := 152) (pc := 93) dX12_works_93 (by decide) ?_
        refine bz_s_iinc (pc := 152) dX12_works_152 (by decide) rfl rfl [some (.inr (some a0)), some (.inl x1), some (.inl x2), some (.inl (x3 + 1)), some (.inl (x4 + 1)), some (.inl x_9), some (.inl x_12)] rfl ?_
        refine bz_goto (tgt := 15) (pc := 155) dX12_works_155 (by decide) ?_
        exact hP
    · have hP := hP.2 c
      refine bz_iload (pc := 61) dX12_works_61 rfl ?_
      refine bz_iconst (v := 1) (pc := 63) dX12_works_63 (by decide) ?_
      refine bz_icmp_ne (tgt := 96) (pc := 64) dX12_works_64 (by decide) (fun c => ?_) (fun c => ?_)
      · have hP := hP.1 c
        refine bz_iload (pc := 96) dX12_works_96 rfl ?_
        refine bz_iconst (v := 2) (pc := 98) dX12_works_98 (by decide) ?_
        refine bz_icmp_ne (tgt := 122) (pc := 99) dX12_works_99 (by decide) (fun c => ?_) (fun c => ?_)
        · have hP := hP.1 c
          refine bz_s_iinc (pc := 122) dX12_works_122 (by decide) rfl rfl [some (.inr (some a0)), some (.inl x1), some (.inl x2), some (.inl (x3 + (-1))), some (.inl x4), some (.inl x_9), some (.inl x_12)] rfl ?_
          refine bz_aload_n (pc := 125) dX12_works_125 rfl rfl ?_
          refine bz_rw_rR (pc := 126) dX12_works_126 fl_X12_37 hP (fun r_21 hP => ?_)
          refine bz_iload_n (pc := 129) dX12_works_129 rfl rfl ?_
          refine bz_iconst (v := 1) (pc := 130) dX12_works_130 (by decide) ?_
          refine bz_isub (pc := 131) dX12_works_131 ?_
          refine bz_iload (pc := 132) dX12_works_132 rfl ?_
          refine bz_aload_n (pc := 134) dX12_works_134 rfl rfl ?_
          refine bz_rw_rR (pc := 135) dX12_works_135 fl_X12_37 hP (fun r_22 hP => ?_)
          refine bz_iload_n (pc := 138) dX12_works_138 rfl rfl ?_
          refine bz_iconst (v := 1) (pc := 139) dX12_works_139 (by decide) ?_
          refine bz_isub (pc := 140) dX12_works_140 ?_
          obtain ⟨a_23, rfl, hP⟩ := hP
          refine bz_rw_rA (pc := 141) dX12_works_141 hP (fun x_24 hP => ?_)
          refine bz_aload_n (pc := 142) dX12_works_142 rfl rfl ?_
          refine bz_rw_rR (pc := 143) dX12_works_143 fl_X12_37 hP (fun r_25 hP => ?_)
          refine bz_iload_n (pc := 146) dX12_works_146 rfl rfl ?_
          obtain ⟨a_26, rfl, hP⟩ := hP
          refine bz_rw_rA (pc := 147) dX12_works_147 hP (fun x_27 hP => ?_)
          refine bz_kIS (as := [.inl x_12, .inl x_24, .inl x_27]) (st := [.inl ((x3 + (-1)) - 1), .inr r_21]) (pc := 148) dX12_works_148 sc_X12_joined ml_X12_290 ss_X12_joined rfl (by decide) hP (fun x_28 h_29 hP => ?_)
          obtain ⟨a_30, rfl, hP⟩ := hP
          refine bz_rw_wA (pc := 151) dX12_works_151 hP (fun h_31 hP => ?_)
          refine bz_s_iinc (pc := 152) dX12_works_152 (by decide) rfl rfl [some (.inr (some a0)), some (.inl x1), some (.inl x2), some (.inl (x3 + (-1))), some (.inl (x4 + 1)), some (.inl x_9), some (.inl x_12)] rfl ?_
          refine bz_goto (tgt := 15) (pc := 155) dX12_works_155 (by decide) ?_
          exact hP
        · have hP := hP.2 c
          refine bz_aload_n (pc := 102) dX12_works_102 rfl rfl ?_
          refine bz_rw_rR (pc := 103) dX12_works_103 fl_X12_37 hP (fun r_32 hP => ?_)
          refine bz_iload_n (pc := 106) dX12_works_106 rfl rfl ?_
          refine bz_iconst (v := 1) (pc := 107) dX12_works_107 (by decide) ?_
          refine bz_isub (pc := 108) dX12_works_108 ?_
          refine bz_aload_n (pc := 109) dX12_works_109 rfl rfl ?_
          refine bz_rw_rR (pc := 110) dX12_works_110 fl_X12_37 hP (fun r_33 hP => ?_)
          refine bz_iload_n (pc := 113) dX12_works_113 rfl rfl ?_
          refine bz_iconst (v := 1) (pc := 114) dX12_works_114 (by decide) ?_
          refine bz_isub (pc := 115) dX12_works_115 ?_
          obtain ⟨a_34, rfl, hP⟩ := hP
          refine bz_rw_rA (pc := 116) dX12_works_116 hP (fun x_35 hP => ?_)
          refine bz_ineg (pc := 117) dX12_works_117 ?_
          obtain ⟨a_36, rfl, hP⟩ := hP
          refine bz_rw_wA (pc := 118) dX12_works_118 hP (fun h_37 hP => ?_)
          refine bz_goto (tgt := 152) (pc := 119) dX12_works_119 (by decide) ?_
          refine bz_s_iinc (pc := 152) dX12_works_152 (by decide) rfl rfl [some (.inr (some a0)), some (.inl x1), some (.inl x2), some (.inl x3), some (.inl (x4 + 1)), some (.inl x_9), some (.inl x_12)] rfl ?_
          refine bz_goto (tgt := 15) (pc := 155) dX12_works_155 (by decide) ?_
          exact hP
      · have hP := hP.2 c
        refine bz_aload_n (pc := 67) dX12_works_67 rfl rfl ?_
        refine bz_rw_rR (pc := 68) dX12_works_68 fl_X12_37 hP (fun r_38 hP => ?_)
        refine bz_iload_n (pc := 71) dX12_works_71 rfl rfl ?_
        refine bz_iload (pc := 72) dX12_works_72 rfl ?_
        refine bz_if_ne (tgt := 82) (pc := 74) dX12_works_74 (by decide) (fun c => ?_) (fun c => ?_)
        · have hP := hP.1 c
          refine bz_aload_n (pc := 82) dX12_works_82 rfl rfl ?_
          refine bz_rw_rR (pc := 83) dX12_works_83 fl_X12_34 hP (fun r_39 hP => ?_)
          refine bz_iload (pc := 86) dX12_works_86 rfl ?_
          obtain ⟨a_40, rfl, hP⟩ := hP
          refine bz_rw_rA (pc := 88) dX12_works_88 hP (fun x_41 hP => ?_)
          obtain ⟨a_42, rfl, hP⟩ := hP
          refine bz_rw_wA (pc := 89) dX12_works_89 hP (fun h_43 hP => ?_)
          refine bz_s_iinc (pc := 90) dX12_works_90 (by decide) rfl rfl [some (.inr (some a0)), some (.inl x1), some (.inl x2), some (.inl (x3 + 1)), some (.inl x4), some (.inl x_9), some (.inl x_12)] rfl ?_
          refine bz_goto (tgt := 152) (pc := 93) dX12_works_93 (by decide) ?_
          refine bz_s_iinc (pc := 152) dX12_works_152 (by decide) rfl rfl [some (.inr (some a0)), some (.inl x1), some (.inl x2), some (.inl (x3 + 1)), some (.inl (x4 + 1)), some (.inl x_9), some (.inl x_12)] rfl ?_
          refine bz_goto (tgt := 15) (pc := 155) dX12_works_155 (by decide) ?_
          exact hP
        · have hP := hP.2 c
          refine bz_iload (pc := 77) dX12_works_77 rfl ?_
          refine bz_goto (tgt := 89) (pc := 79) dX12_works_79 (by decide) ?_
          obtain ⟨a_44, rfl, hP⟩ := hP
          refine bz_rw_wA (pc := 89) dX12_works_89 hP (fun h_45 hP => ?_)
          refine bz_s_iinc (pc := 90) dX12_works_90 (by decide) rfl rfl [some (.inr (some a0)), some (.inl x1), some (.inl x2), some (.inl (x3 + 1)), some (.inl x4), some (.inl x_9), some (.inl x_12)] rfl ?_
          refine bz_goto (tgt := 152) (pc := 93) dX12_works_93 (by decide) ?_
          refine bz_s_iinc (pc := 152) dX12_works_152 (by decide) rfl rfl [some (.inr (some a0)), some (.inl x1), some (.inl x2), some (.inl (x3 + 1)), some (.inl (x4 + 1)), some (.inl x_9), some (.inl x_12)] rfl ?_
          refine bz_goto (tgt := 15) (pc := 155) dX12_works_155 (by decide) ?_
          exact hP
theorem m_X12_works {G : bz_G} {l : Launch} {d mc ms : Nat} {F : Option bz_V → bz_H → Prop} (a0 : Nat) (x1 : Int32) (h : bz_H) (hP : ∀ (κ : bz_K) (bc bs : Nat), κ.2.1 = l → bz_J G κ kX12_works (d + 1) F bc bs 15 [some (.inr (some a0)), some (.inl x1), some (.inl (976 + (165 * x1))), some (.inl 0), some (.inl 0), none, none] [] h) : bz_Call G l (d + 1) kX12_works [.inr (some a0), .inl x1] h mc ms F :=
  bz_body (by decide) (by decide) (fun κ hl => g_X12_works_0 hl a0 x1 h (hP κ mc ms hl))
set_option maxRecDepth 20000 in
set_option maxHeartbeats 4000000 in
theorem g_X12_write_0 {G : bz_G} {κ : bz_K} {l : Launch} {d : Nat} {F : Option bz_V → bz_H → Prop} {bc bs : Nat} (hl : κ.2.1 = l) (a0 : Nat) (x1 : Int32) (x2 : Int32) (x3 : Int32) (h : bz_H) (hP : bz_cI G l d kX12_isSheet [.inl x1] h 0 0 (fun x_1 h_2 => (¬ x_1 = 0 → bz_rR h_2 a0 12 30 (fun r_3 => bz_nn r_3 (fun a_4 => bz_rA h_2 a_4 x1 (fun x_5 => (¬ x_5 = 0 → bz_rR h_2 a0 12 31 (fun r_6 => bz_nn r_6 (fun a_7 => bz_rA h_2 a_7 x1 (fun x_8 => bz_cI G l d kX12_in [.inl x2, .inl 0, .inl (x_8 - 1)] h_2 0 0 (fun x_9 h_10 => (¬ x_9 = 0 → bz_rR h_10 a0 12 30 (fun r_11 => bz_nn r_11 (fun a_12 => bz_rA h_10 a_12 x1 (fun x_13 => bz_rR h_10 a0 12 32 (fun r_14 => bz_nn r_14 (fun a_15 => bz_wA h_10 a_15 ((60 * x1) + x2) ((x3 <<< ((32 - x_13) &&& 31)) >>> ((32 - x_13) &&& 31)) (fun h_16 => F (some (.inl 1)) h_16))))))) ∧ (x_9 = 0 → bz_rc h_10 a0 12 (bz_cI G l d kX12_finding [.inr (some a0), .inl 0] h_10 0 0 (fun x_17 h_18 => F (some (.inl x_17)) h_18)))))))) ∧ (x_5 = 0 → bz_rc h_2 a0 12 (bz_cI G l d kX12_finding [.inr (some a0), .inl 5] h_2 0 0 (fun x_19 h_20 => F (some (.inl x_19)) h_20))))))) ∧ (x_1 = 0 → bz_rc h_2 a0 12 (bz_cI G l d kX12_finding [.inr (some a0), .inl 0] h_2 0 0 (fun x_21 h_22 => F (some (.inl x_21)) h_22))))) : bz_J G κ kX12_write (d + 1) F bc bs 0 [some (.inr (some a0)), some (.inl x1), some (.inl x2), some (.inl x3), none] [] h := by
  subst hl
  refine bz_iload_n (pc := 0) dX12_write_0 rfl rfl ?_
  refine bz_kIS (as := [.inl x1]) (st := []) (pc := 1) dX12_write_1 sc_X12_isSheet ml_X12_341 ss_X12_isSheet rfl (by decide) hP (fun x_1 h_2 hP => ?_)
  refine bz_if_ne (tgt := 13) (pc := 4) dX12_write_4 (by decide) (fun c => ?_) (fun c => ?_)
  · have hP := hP.1 c
    refine bz_aload_n (pc := 13) dX12_write_13 rfl rfl ?_
    refine bz_rw_rR (pc := 14) dX12_write_14 fl_X12_52 hP (fun r_3 hP => ?_)
    refine bz_iload_n (pc := 17) dX12_write_17 rfl rfl ?_
    obtain ⟨a_4, rfl, hP⟩ := hP
    refine bz_rw_rA (pc := 18) dX12_write_18 hP (fun x_5 hP => ?_)
    refine bz_if_ne (tgt := 28) (pc := 19) dX12_write_19 (by decide) (fun c => ?_) (fun c => ?_)
    · have hP := hP.1 c
      refine bz_iload_n (pc := 28) dX12_write_28 rfl rfl ?_
      refine bz_iconst (v := 0) (pc := 29) dX12_write_29 (by decide) ?_
      refine bz_aload_n (pc := 30) dX12_write_30 rfl rfl ?_
      refine bz_rw_rR (pc := 31) dX12_write_31 fl_X12_55 hP (fun r_6 hP => ?_)
      refine bz_iload_n (pc := 34) dX12_write_34 rfl rfl ?_
      obtain ⟨a_7, rfl, hP⟩ := hP
      refine bz_rw_rA (pc := 35) dX12_write_35 hP (fun x_8 hP => ?_)
      refine bz_iconst (v := 1) (pc := 36) dX12_write_36 (by decide) ?_
      refine bz_isub (pc := 37) dX12_write_37 ?_
      refine bz_kIS (as := [.inl x2, .inl 0, .inl (x_8 - 1)]) (st := []) (pc := 38) dX12_write_38 sc_X12_in ml_X12_65 ss_X12_in rfl (by decide) hP (fun x_9 h_10 hP => ?_)
      refine bz_if_ne (tgt := 50) (pc := 41) dX12_write_41 (by decide) (fun c => ?_) (fun c => ?_)
      · have hP := hP.1 c
        refine bz_bipush (v := 32) (pc := 50) dX12_write_50 (by decide) ?_
        refine bz_aload_n (pc := 52) dX12_write_52 rfl rfl ?_
        refine bz_rw_rR (pc := 53) dX12_write_53 fl_X12_52 hP (fun r_11 hP => ?_)
        refine bz_iload_n (pc := 56) dX12_write_56 rfl rfl ?_
        obtain ⟨a_12, rfl, hP⟩ := hP
        refine bz_rw_rA (pc := 57) dX12_write_57 hP (fun x_13 hP => ?_)
        refine bz_isub (pc := 58) dX12_write_58 ?_
        refine bz_s_istore (pc := 59) dX12_write_59 (by decide) [some (.inr (some a0)), some (.inl x1), some (.inl x2), some (.inl x3), some (.inl (32 - x_13))] rfl ?_
        refine bz_aload_n (pc := 61) dX12_write_61 rfl rfl ?_
        refine bz_rw_rR (pc := 62) dX12_write_62 fl_X12_58 hP (fun r_14 hP => ?_)
        refine bz_bipush (v := 60) (pc := 65) dX12_write_65 (by decide) ?_
        refine bz_iload_n (pc := 67) dX12_write_67 rfl rfl ?_
        refine bz_imul (pc := 68) dX12_write_68 ?_
        refine bz_iload_n (pc := 69) dX12_write_69 rfl rfl ?_
        refine bz_iadd (pc := 70) dX12_write_70 ?_
        refine bz_iload_n (pc := 71) dX12_write_71 rfl rfl ?_
        refine bz_iload (pc := 72) dX12_write_72 rfl ?_
        refine bz_ishl (pc := 74) dX12_write_74 ?_
        refine bz_iload (pc := 75) dX12_write_75 rfl ?_
        refine bz_ishr (pc := 77) dX12_write_77 ?_
        obtain ⟨a_15, rfl, hP⟩ := hP
        refine bz_rw_wA (pc := 78) dX12_write_78 hP (fun h_16 hP => ?_)
        refine bz_iconst (v := 1) (pc := 79) dX12_write_79 (by decide) ?_
        exact bz_retI (pc := 80) dX12_write_80 rfl rfl hP
      · have hP := hP.2 c
        refine bz_aload_n (pc := 44) dX12_write_44 rfl rfl ?_
        refine bz_iconst (v := 0) (pc := 45) dX12_write_45 (by decide) ?_
        refine bz_kIV (as := [.inl 0]) (st := []) (ci := 12) (pc := 46) dX12_write_46 sc_X12_finding ml_X12_73 im_X12_finding se_X12_finding rfl rfl rfl (by decide) hP (fun x_17 h_18 hP => ?_)
        exact bz_retI (pc := 49) dX12_write_49 rfl rfl hP
    · have hP := hP.2 c
      refine bz_aload_n (pc := 22) dX12_write_22 rfl rfl ?_
      refine bz_iconst (v := 5) (pc := 23) dX12_write_23 (by decide) ?_
      refine bz_kIV (as := [.inl 5]) (st := []) (ci := 12) (pc := 24) dX12_write_24 sc_X12_finding ml_X12_73 im_X12_finding se_X12_finding rfl rfl rfl (by decide) hP (fun x_19 h_20 hP => ?_)
      exact bz_retI (pc := 27) dX12_write_27 rfl rfl hP
  · have hP := hP.2 c
    refine bz_aload_n (pc := 7) dX12_write_7 rfl rfl ?_
    refine bz_iconst (v := 0) (pc := 8) dX12_write_8 (by decide) ?_
    refine bz_kIV (as := [.inl 0]) (st := []) (ci := 12) (pc := 9) dX12_write_9 sc_X12_finding ml_X12_73 im_X12_finding se_X12_finding rfl rfl rfl (by decide) hP (fun x_21 h_22 hP => ?_)
    exact bz_retI (pc := 12) dX12_write_12 rfl rfl hP
theorem m_X12_write {G : bz_G} {l : Launch} {d mc ms : Nat} {F : Option bz_V → bz_H → Prop} (a0 : Nat) (x1 : Int32) (x2 : Int32) (x3 : Int32) (h : bz_H) (hP : bz_cI G l d kX12_isSheet [.inl x1] h 0 0 (fun x_1 h_2 => (¬ x_1 = 0 → bz_rR h_2 a0 12 30 (fun r_3 => bz_nn r_3 (fun a_4 => bz_rA h_2 a_4 x1 (fun x_5 => (¬ x_5 = 0 → bz_rR h_2 a0 12 31 (fun r_6 => bz_nn r_6 (fun a_7 => bz_rA h_2 a_7 x1 (fun x_8 => bz_cI G l d kX12_in [.inl x2, .inl 0, .inl (x_8 - 1)] h_2 0 0 (fun x_9 h_10 => (¬ x_9 = 0 → bz_rR h_10 a0 12 30 (fun r_11 => bz_nn r_11 (fun a_12 => bz_rA h_10 a_12 x1 (fun x_13 => bz_rR h_10 a0 12 32 (fun r_14 => bz_nn r_14 (fun a_15 => bz_wA h_10 a_15 ((60 * x1) + x2) ((x3 <<< ((32 - x_13) &&& 31)) >>> ((32 - x_13) &&& 31)) (fun h_16 => F (some (.inl 1)) h_16))))))) ∧ (x_9 = 0 → bz_rc h_10 a0 12 (bz_cI G l d kX12_finding [.inr (some a0), .inl 0] h_10 0 0 (fun x_17 h_18 => F (some (.inl x_17)) h_18)))))))) ∧ (x_5 = 0 → bz_rc h_2 a0 12 (bz_cI G l d kX12_finding [.inr (some a0), .inl 5] h_2 0 0 (fun x_19 h_20 => F (some (.inl x_19)) h_20))))))) ∧ (x_1 = 0 → bz_rc h_2 a0 12 (bz_cI G l d kX12_finding [.inr (some a0), .inl 0] h_2 0 0 (fun x_21 h_22 => F (some (.inl x_21)) h_22))))) : bz_Call G l (d + 1) kX12_write [.inr (some a0), .inl x1, .inl x2, .inl x3] h mc ms F :=
  bz_body (by decide) (by decide) (fun κ hl => g_X12_write_0 hl a0 x1 x2 x3 h hP)
set_option maxRecDepth 20000 in
set_option maxHeartbeats 4000000 in
theorem g_X12_zoneOf_0 {G : bz_G} {κ : bz_K} {l : Launch} {d : Nat} {F : Option bz_V → bz_H → Prop} {bc bs : Nat} (hl : κ.2.1 = l) (a0 : Nat) (x1 : Int32) (h : bz_H) (hP : bz_rR h a0 12 0 (fun r_1 => bz_rc h a0 12 (bz_cI G l d kX12_ofOrder [.inr (some a0), .inl x1, .inl 1] h 0 0 (fun x_2 h_3 => bz_nn r_1 (fun a_4 => bz_rA h_3 a_4 (28 + x_2) (fun x_5 => F (some (.inl x_5)) h_3)))))) : bz_J G κ kX12_zoneOf (d + 1) F bc bs 0 [some (.inr (some a0)), some (.inl x1)] [] h := by
  subst hl
  refine bz_aload_n (pc := 0) dX12_zoneOf_0 rfl rfl ?_
  refine bz_rw_rR (pc := 1) dX12_zoneOf_1 fl_X12_7 hP (fun r_1 hP => ?_)
  refine bz_bipush (v := 28) (pc := 4) dX12_zoneOf_4 (by decide) ?_
  refine bz_aload_n (pc := 6) dX12_zoneOf_6 rfl rfl ?_
  refine bz_iload_n (pc := 7) dX12_zoneOf_7 rfl rfl ?_
  refine bz_iconst (v := 1) (pc := 8) dX12_zoneOf_8 (by decide) ?_
  refine bz_kIV (as := [.inl x1, .inl 1]) (st := [.inl 28, .inr r_1]) (ci := 12) (pc := 9) dX12_zoneOf_9 sc_X12_ofOrder ml_X12_99 im_X12_ofOrder se_X12_ofOrder rfl rfl rfl (by decide) hP (fun x_2 h_3 hP => ?_)
  refine bz_iadd (pc := 12) dX12_zoneOf_12 ?_
  obtain ⟨a_4, rfl, hP⟩ := hP
  refine bz_rw_rA (pc := 13) dX12_zoneOf_13 hP (fun x_5 hP => ?_)
  exact bz_retI (pc := 14) dX12_zoneOf_14 rfl rfl hP
theorem m_X12_zoneOf {G : bz_G} {l : Launch} {d mc ms : Nat} {F : Option bz_V → bz_H → Prop} (a0 : Nat) (x1 : Int32) (h : bz_H) (hP : bz_rR h a0 12 0 (fun r_1 => bz_rc h a0 12 (bz_cI G l d kX12_ofOrder [.inr (some a0), .inl x1, .inl 1] h 0 0 (fun x_2 h_3 => bz_nn r_1 (fun a_4 => bz_rA h_3 a_4 (28 + x_2) (fun x_5 => F (some (.inl x_5)) h_3)))))) : bz_Call G l (d + 1) kX12_zoneOf [.inr (some a0), .inl x1] h mc ms F :=
  bz_body (by decide) (by decide) (fun κ hl => g_X12_zoneOf_0 hl a0 x1 h hP)
set_option maxRecDepth 20000 in
set_option maxHeartbeats 4000000 in
theorem g_X12_zone_0 {G : bz_G} {κ : bz_K} {l : Launch} {d : Nat} {F : Option bz_V → bz_H → Prop} {bc bs : Nat} (hl : κ.2.1 = l) (a0 : Nat) (x1 : Int32) (x2 : Int32) (h : bz_H) (hP : bz_cI G l d kX12_in [.inl x1, .inl 0, .inl 3] h 0 0 (fun x_1 h_2 => (x_1 = 0 → bz_rc h_2 a0 12 (bz_cI G l d kX12_finding [.inr (some a0), .inl 0] h_2 0 0 (fun x_3 h_4 => F (some (.inl x_3)) h_4))) ∧ (¬ (x_1 = 0) → bz_cI G l d kX12_in [.inl x2, .inl 0, .inl 3] h_2 0 0 (fun x_5 h_6 => (¬ x_5 = 0 → bz_J G κ kX12_zone (d + 1) F bc bs 29 [some (.inr (some a0)), some (.inl x1), some (.inl x2), some (.inl 0), some (.inl 0), none] [] h_6) ∧ (x_5 = 0 → bz_rc h_6 a0 12 (bz_cI G l d kX12_finding [.inr (some a0), .inl 0] h_6 0 0 (fun x_7 h_8 => F (some (.inl x_7)) h_8))))))) : bz_J G κ kX12_zone (d + 1) F bc bs 0 [some (.inr (some a0)), some (.inl x1), some (.inl x2), none, none, none] [] h := by
  subst hl
  refine bz_iload_n (pc := 0) dX12_zone_0 rfl rfl ?_
  refine bz_iconst (v := 0) (pc := 1) dX12_zone_1 (by decide) ?_
  refine bz_iconst (v := 3) (pc := 2) dX12_zone_2 (by decide) ?_
  refine bz_kIS (as := [.inl x1, .inl 0, .inl 3]) (st := []) (pc := 3) dX12_zone_3 sc_X12_in ml_X12_65 ss_X12_in rfl (by decide) hP (fun x_1 h_2 hP => ?_)
  refine bz_if_eq (tgt := 18) (pc := 6) dX12_zone_6 (by decide) (fun c => ?_) (fun c => ?_)
  · have hP := hP.1 c
    refine bz_aload_n (pc := 18) dX12_zone_18 rfl rfl ?_
    refine bz_iconst (v := 0) (pc := 19) dX12_zone_19 (by decide) ?_
    refine bz_kIV (as := [.inl 0]) (st := []) (ci := 12) (pc := 20) dX12_zone_20 sc_X12_finding ml_X12_73 im_X12_finding se_X12_finding rfl rfl rfl (by decide) hP (fun x_3 h_4 hP => ?_)
    exact bz_retI (pc := 23) dX12_zone_23 rfl rfl hP
  · have hP := hP.2 c
    refine bz_iload_n (pc := 9) dX12_zone_9 rfl rfl ?_
    refine bz_iconst (v := 0) (pc := 10) dX12_zone_10 (by decide) ?_
    refine bz_iconst (v := 3) (pc := 11) dX12_zone_11 (by decide) ?_
    refine bz_kIS (as := [.inl x2, .inl 0, .inl 3]) (st := []) (pc := 12) dX12_zone_12 sc_X12_in ml_X12_65 ss_X12_in rfl (by decide) hP (fun x_5 h_6 hP => ?_)
    refine bz_if_ne (tgt := 24) (pc := 15) dX12_zone_15 (by decide) (fun c => ?_) (fun c => ?_)
    · have hP := hP.1 c
      refine bz_iconst (v := 0) (pc := 24) dX12_zone_24 (by decide) ?_
      refine bz_s_istore_n (pc := 25) dX12_zone_25 rfl (by decide) [some (.inr (some a0)), some (.inl x1), some (.inl x2), some (.inl 0), none, none] rfl ?_
      refine bz_iconst (v := 0) (pc := 26) dX12_zone_26 (by decide) ?_
      refine bz_s_istore (pc := 27) dX12_zone_27 (by decide) [some (.inr (some a0)), some (.inl x1), some (.inl x2), some (.inl 0), some (.inl 0), none] rfl ?_
      exact hP
    · have hP := hP.2 c
      refine bz_aload_n (pc := 18) dX12_zone_18 rfl rfl ?_
      refine bz_iconst (v := 0) (pc := 19) dX12_zone_19 (by decide) ?_
      refine bz_kIV (as := [.inl 0]) (st := []) (ci := 12) (pc := 20) dX12_zone_20 sc_X12_finding ml_X12_73 im_X12_finding se_X12_finding rfl rfl rfl (by decide) hP (fun x_7 h_8 hP => ?_)
      exact bz_retI (pc := 23) dX12_zone_23 rfl rfl hP
set_option maxRecDepth 20000 in
set_option maxHeartbeats 4000000 in
theorem g_X12_zone_29 {G : bz_G} {κ : bz_K} {l : Launch} {d : Nat} {F : Option bz_V → bz_H → Prop} {bc bs : Nat} (hl : κ.2.1 = l) (a0 : Nat) (x1 : Int32) (x2 : Int32) (x3 : Int32) (x4 : Int32) (u5 : Option bz_V) (h : bz_H) (hP : bz_rR h a0 12 0 (fun r_9 => bz_nn r_9 (fun a_10 => bz_rA h a_10 2 (fun x_11 => (x_11 ≤ x4 → F (some (.inl x3)) h) ∧ (¬ (x_11 ≤ x4) → bz_rc h a0 12 (bz_cI G l d kX12_zoneOf [.inr (some a0), .inl x4] h 0 0 (fun x_12 h_13 => (x_12 = x1 → bz_rc h_13 a0 12 (bz_cI G l d kX12_isGiven [.inr (some a0), .inl x4] h_13 0 0 (fun x_14 h_15 => (¬ x2 = 0 → (¬ x_14 = 0 → (¬ x2 = 1 → (¬ x2 = 2 → bz_rc h_15 a0 12 (bz_cI G l d kX12_payOf [.inr (some a0), .inl x4] h_15 0 0 (fun x_16 h_17 => bz_J G κ kX12_zone (d + 1) F bc bs 29 [some (.inr (some a0)), some (.inl x1), some (.inl x2), some (.inl (x3 + x_16)), some (.inl (x4 + 1)), some (.inl x_14)] [] h_17))) ∧ (x2 = 2 → bz_rc h_15 a0 12 (bz_cI G l d kX12_lateOf [.inr (some a0), .inl x4] h_15 0 0 (fun x_18 h_19 => bz_J G κ kX12_zone (d + 1) F bc bs 29 [some (.inr (some a0)), some (.inl x1), some (.inl x2), some (.inl (x3 + x_18)), some (.inl (x4 + 1)), some (.inl x_14)] [] h_19)))) ∧ (x2 = 1 → bz_J G κ kX12_zone (d + 1) F bc bs 29 [some (.inr (some a0)), some (.inl x1), some (.inl x2), some (.inl (x3 + 1)), some (.inl (x4 + 1)), some (.inl x_14)] [] h_15)) ∧ (x_14 = 0 → bz_J G κ kX12_zone (d + 1) F bc bs 29 [some (.inr (some a0)), some (.inl x1), some (.inl x2), some (.inl (x3 + 0)), some (.inl (x4 + 1)), some (.inl x_14)] [] h_15)) ∧ (x2 = 0 → bz_rc h_15 a0 12 (bz_cI G l d kX12_isWaiting [.inr (some a0), .inl x4] h_15 0 0 (fun x_20 h_21 => bz_J G κ kX12_zone (d + 1) F bc bs 29 [some (.inr (some a0)), some (.inl x1), some (.inl x2), some (.inl (x3 + (if x_20 = 0 then 0 else 1))), some (.inl (x4 + 1)), some (.inl x_14)] [] h_21)))))) ∧ (¬ (x_12 = x1) → bz_J G κ kX12_zone (d + 1) F bc bs 29 [some (.inr (some a0)), some (.inl x1), some (.inl x2), some (.inl x3), some (.inl (x4 + 1)), u5] [] h_13)))))))) : bz_J G κ kX12_zone (d + 1) F bc bs 29 [some (.inr (some a0)), some (.inl x1), some (.inl x2), some (.inl x3), some (.inl x4), u5] [] h := by
  subst hl
  refine bz_iload (pc := 29) dX12_zone_29 rfl ?_
  refine bz_aload_n (pc := 31) dX12_zone_31 rfl rfl ?_
  refine bz_rw_rR (pc := 32) dX12_zone_32 fl_X12_7 hP (fun r_9 hP => ?_)
  refine bz_iconst (v := 2) (pc := 35) dX12_zone_35 (by decide) ?_
  obtain ⟨a_10, rfl, hP⟩ := hP
  refine bz_rw_rA (pc := 36) dX12_zone_36 hP (fun x_11 hP => ?_)
  refine bz_icmp_ge (tgt := 129) (pc := 37) dX12_zone_37 (by decide) (fun c => ?_) (fun c => ?_)
  · have hP := hP.1 c
    refine bz_iload_n (pc := 129) dX12_zone_129 rfl rfl ?_
    exact bz_retI (pc := 130) dX12_zone_130 rfl rfl hP
  · have hP := hP.2 c
    refine bz_aload_n (pc := 40) dX12_zone_40 rfl rfl ?_
    refine bz_iload (pc := 41) dX12_zone_41 rfl ?_
    refine bz_kIV (as := [.inl x4]) (st := []) (ci := 12) (pc := 43) dX12_zone_43 sc_X12_zoneOf ml_X12_317 im_X12_zoneOf se_X12_zoneOf rfl rfl rfl (by decide) hP (fun x_12 h_13 hP => ?_)
    refine bz_iload_n (pc := 46) dX12_zone_46 rfl rfl ?_
    refine bz_icmp_eq (tgt := 53) (pc := 47) dX12_zone_47 (by decide) (fun c => ?_) (fun c => ?_)
    · have hP := hP.1 c
      refine bz_aload_n (pc := 53) dX12_zone_53 rfl rfl ?_
      refine bz_iload (pc := 54) dX12_zone_54 rfl ?_
      refine bz_kIV (as := [.inl x4]) (st := []) (ci := 12) (pc := 56) dX12_zone_56 sc_X12_isGiven ml_X12_120 im_X12_isGiven se_X12_isGiven rfl rfl rfl (by decide) hP (fun x_14 h_15 hP => ?_)
      refine bz_s_istore (pc := 59) dX12_zone_59 (by decide) [some (.inr (some a0)), some (.inl x1), some (.inl x2), some (.inl x3), some (.inl x4), some (.inl x_14)] rfl ?_
      refine bz_iload_n (pc := 61) dX12_zone_61 rfl rfl ?_
      refine bz_iload_n (pc := 62) dX12_zone_62 rfl rfl ?_
      refine bz_if_ne (tgt := 83) (pc := 63) dX12_zone_63 (by decide) (fun c => ?_) (fun c => ?_)
      · have hP := hP.1 c
        refine bz_iload (pc := 83) dX12_zone_83 rfl ?_
        refine bz_if_ne (tgt := 92) (pc := 85) dX12_zone_85 (by decide) (fun c => ?_) (fun c => ?_)
        · have hP := hP.1 c
          refine bz_iload_n (pc := 92) dX12_zone_92 rfl rfl ?_
          refine bz_iconst (v := 1) (pc := 93) dX12_zone_93 (by decide) ?_
          refine bz_icmp_ne (tgt := 101) (pc := 94) dX12_zone_94 (by decide) (fun c => ?_) (fun c => ?_)
          · have hP := hP.1 c
            refine bz_iload_n (pc := 101) dX12_zone_101 rfl rfl ?_
            refine bz_iconst (v := 2) (pc := 102) dX12_zone_102 (by decide) ?_
            refine bz_icmp_ne (tgt := 115) (pc := 103) dX12_zone_103 (by decide) (fun c => ?_) (fun c => ?_)
            · have hP := hP.1 c
              refine bz_aload_n (pc := 115) dX12_zone_115 rfl rfl ?_
              refine bz_iload (pc := 116) dX12_zone_116 rfl ?_
              refine bz_kIV (as := [.inl x4]) (st := [.inl x3]) (ci := 12) (pc := 118) dX12_zone_118 sc_X12_payOf ml_X12_123 im_X12_payOf se_X12_payOf rfl rfl rfl (by decide) hP (fun x_16 h_17 hP => ?_)
              refine bz_iadd (pc := 121) dX12_zone_121 ?_
              refine bz_s_istore_n (pc := 122) dX12_zone_122 rfl (by decide) [some (.inr (some a0)), some (.inl x1), some (.inl x2), some (.inl (x3 + x_16)), some (.inl x4), some (.inl x_14)] rfl ?_
              refine bz_s_iinc (pc := 123) dX12_zone_123 (by decide) rfl rfl [some (.inr (some a0)), some (.inl x1), some (.inl x2), some (.inl (x3 + x_16)), some (.inl (x4 + 1)), some (.inl x_14)] rfl ?_
              refine bz_goto (tgt := 29) (pc := 126) dX12_zone_126 (by decide) ?_
              exact hP
            · have hP := hP.2 c
              refine bz_aload_n (pc := 106) dX12_zone_106 rfl rfl ?_
              refine bz_iload (pc := 107) dX12_zone_107 rfl ?_
              refine bz_kIV (as := [.inl x4]) (st := [.inl x3]) (ci := 12) (pc := 109) dX12_zone_109 sc_X12_lateOf ml_X12_105 im_X12_lateOf se_X12_lateOf rfl rfl rfl (by decide) hP (fun x_18 h_19 hP => ?_)
              refine bz_goto (tgt := 121) (pc := 112) dX12_zone_112 (by decide) ?_
              refine bz_iadd (pc := 121) dX12_zone_121 ?_
              refine bz_s_istore_n (pc := 122) dX12_zone_122 rfl (by decide) [some (.inr (some a0)), some (.inl x1), some (.inl x2), some (.inl (x3 + x_18)), some (.inl x4), some (.inl x_14)] rfl ?_
              refine bz_s_iinc (pc := 123) dX12_zone_123 (by decide) rfl rfl [some (.inr (some a0)), some (.inl x1), some (.inl x2), some (.inl (x3 + x_18)), some (.inl (x4 + 1)), some (.inl x_14)] rfl ?_
              refine bz_goto (tgt := 29) (pc := 126) dX12_zone_126 (by decide) ?_
              exact hP
          · have hP := hP.2 c
            refine bz_iconst (v := 1) (pc := 97) dX12_zone_97 (by decide) ?_
            refine bz_goto (tgt := 121) (pc := 98) dX12_zone_98 (by decide) ?_
            refine bz_iadd (pc := 121) dX12_zone_121 ?_
            refine bz_s_istore_n (pc := 122) dX12_zone_122 rfl (by decide) [some (.inr (some a0)), some (.inl x1), some (.inl x2), some (.inl (x3 + 1)), some (.inl x4), some (.inl x_14)] rfl ?_
            refine bz_s_iinc (pc := 123) dX12_zone_123 (by decide) rfl rfl [some (.inr (some a0)), some (.inl x1), some (.inl x2), some (.inl (x3 + 1)), some (.inl (x4 + 1)), some (.inl x_14)] rfl ?_
            refine bz_goto (tgt := 29) (pc := 126) dX12_zone_126 (by decide) ?_
            exact hP
        · have hP := hP.2 c
          refine bz_iconst (v := 0) (pc := 88) dX12_zone_88 (by decide) ?_
          refine bz_goto (tgt := 121) (pc := 89) dX12_zone_89 (by decide) ?_
          refine bz_iadd (pc := 121) dX12_zone_121 ?_
          refine bz_s_istore_n (pc := 122) dX12_zone_122 rfl (by decide) [some (.inr (some a0)), some (.inl x1), some (.inl x2), some (.inl (x3 + 0)), some (.inl x4), some (.inl x_14)] rfl ?_
          refine bz_s_iinc (pc := 123) dX12_zone_123 (by decide) rfl rfl [some (.inr (some a0)), some (.inl x1), some (.inl x2), some (.inl (x3 + 0)), some (.inl (x4 + 1)), some (.inl x_14)] rfl ?_
          refine bz_goto (tgt := 29) (pc := 126) dX12_zone_126 (by decide) ?_
          exact hP
      · have hP := hP.2 c
        refine bz_aload_n (pc := 66) dX12_zone_66 rfl rfl ?_
        refine bz_iload (pc := 67) dX12_zone_67 rfl ?_
        refine bz_kIV (as := [.inl x4]) (st := [.inl x3]) (ci := 12) (pc := 69) dX12_zone_69 sc_X12_isWaiting ml_X12_129 im_X12_isWaiting se_X12_isWaiting rfl rfl rfl (by decide) hP (fun x_20 h_21 hP => ?_)
        have hJ : bz_J G κ kX12_zone (d + 1) F bc bs 121 [some (.inr (some a0)), some (.inl x1), some (.inl x2), some (.inl x3), some (.inl x4), some (.inl x_14)] [.inl (if x_20 = 0 then 0 else 1), .inl x3] h_21 := by
          refine bz_iadd (pc := 121) dX12_zone_121 ?_
          refine bz_s_istore_n (pc := 122) dX12_zone_122 rfl (by decide) [some (.inr (some a0)), some (.inl x1), some (.inl x2), some (.inl (x3 + (if x_20 = 0 then 0 else 1))), some (.inl x4), some (.inl x_14)] rfl ?_
          refine bz_s_iinc (pc := 123) dX12_zone_123 (by decide) rfl rfl [some (.inr (some a0)), some (.inl x1), some (.inl x2), some (.inl (x3 + (if x_20 = 0 then 0 else 1))), some (.inl (x4 + 1)), some (.inl x_14)] rfl ?_
          refine bz_goto (tgt := 29) (pc := 126) dX12_zone_126 (by decide) ?_
          exact hP
        refine bz_if_eq (tgt := 79) (pc := 72) dX12_zone_72 (by decide) (fun c => ?_) (fun c => ?_)
        · have e9 : ((if x_20 = 0 then 0 else 1) : Int32) = (0) := if_pos c
          rw [e9] at hJ
          refine bz_iconst (v := 0) (pc := 79) dX12_zone_79 (by decide) ?_
          refine bz_goto (tgt := 121) (pc := 80) dX12_zone_80 (by decide) ?_
          exact hJ
        · have e9 : ((if x_20 = 0 then 0 else 1) : Int32) = (1) := if_neg c
          rw [e9] at hJ
          refine bz_iconst (v := 1) (pc := 75) dX12_zone_75 (by decide) ?_
          refine bz_goto (tgt := 121) (pc := 76) dX12_zone_76 (by decide) ?_
          exact hJ
    · have hP := hP.2 c
      refine bz_goto (tgt := 123) (pc := 50) dX12_zone_50 (by decide) ?_
      refine bz_s_iinc (pc := 123) dX12_zone_123 (by decide) rfl rfl [some (.inr (some a0)), some (.inl x1), some (.inl x2), some (.inl x3), some (.inl (x4 + 1)), u5] rfl ?_
      refine bz_goto (tgt := 29) (pc := 126) dX12_zone_126 (by decide) ?_
      exact hP
theorem m_X12_zone {G : bz_G} {l : Launch} {d mc ms : Nat} {F : Option bz_V → bz_H → Prop} (a0 : Nat) (x1 : Int32) (x2 : Int32) (h : bz_H) (hP : ∀ (κ : bz_K) (bc bs : Nat), κ.2.1 = l → bz_cI G l d kX12_in [.inl x1, .inl 0, .inl 3] h 0 0 (fun x_1 h_2 => (x_1 = 0 → bz_rc h_2 a0 12 (bz_cI G l d kX12_finding [.inr (some a0), .inl 0] h_2 0 0 (fun x_3 h_4 => F (some (.inl x_3)) h_4))) ∧ (¬ (x_1 = 0) → bz_cI G l d kX12_in [.inl x2, .inl 0, .inl 3] h_2 0 0 (fun x_5 h_6 => (¬ x_5 = 0 → bz_J G κ kX12_zone (d + 1) F bc bs 29 [some (.inr (some a0)), some (.inl x1), some (.inl x2), some (.inl 0), some (.inl 0), none] [] h_6) ∧ (x_5 = 0 → bz_rc h_6 a0 12 (bz_cI G l d kX12_finding [.inr (some a0), .inl 0] h_6 0 0 (fun x_7 h_8 => F (some (.inl x_7)) h_8))))))) : bz_Call G l (d + 1) kX12_zone [.inr (some a0), .inl x1, .inl x2] h mc ms F :=
  bz_body (by decide) (by decide) (fun κ hl => g_X12_zone_0 hl a0 x1 x2 h (hP κ mc ms hl))
set_option maxRecDepth 20000 in
set_option maxHeartbeats 4000000 in
theorem g_J7_fill_53178_0 {G : bz_G} {κ : bz_K} {l : Launch} {d : Nat} {F : Option bz_V → bz_H → Prop} {bc bs : Nat} (hl : κ.2.1 = l) (r0 : Option Nat) (x1 : Int32) (h : bz_H) (hP : bz_nn r0 (fun a_1 => bz_rN h a_1 (fun x_2 => bz_J G κ kJ7_fill_53178 (d + 1) F bc bs 5 [some (.inr (some a_1)), some (.inl x1), some (.inl 0), some (.inl x_2)] [] h))) : bz_J G κ kJ7_fill_53178 (d + 1) F bc bs 0 [some (.inr r0), some (.inl x1), none, none] [] h := by
  subst hl
  refine bz_iconst (v := 0) (pc := 0) dJ7_fill_53178_0 (by decide) ?_
  refine bz_s_istore_n (pc := 1) dJ7_fill_53178_1 rfl (by decide) [some (.inr r0), some (.inl x1), some (.inl 0), none] rfl ?_
  refine bz_aload_n (pc := 2) dJ7_fill_53178_2 rfl rfl ?_
  obtain ⟨a_1, rfl, hP⟩ := hP
  refine bz_rw_rN (pc := 3) dJ7_fill_53178_3 hP (fun x_2 hP => ?_)
  refine bz_s_istore_n (pc := 4) dJ7_fill_53178_4 rfl (by decide) [some (.inr (some a_1)), some (.inl x1), some (.inl 0), some (.inl x_2)] rfl ?_
  exact hP
set_option maxRecDepth 20000 in
set_option maxHeartbeats 4000000 in
theorem g_J7_fill_53178_5 {G : bz_G} {κ : bz_K} {l : Launch} {d : Nat} {F : Option bz_V → bz_H → Prop} {bc bs : Nat} (hl : κ.2.1 = l) (r0 : Option Nat) (x1 : Int32) (x2 : Int32) (x3 : Int32) (h : bz_H) (hP : (x3 ≤ x2 → F none h) ∧ (¬ (x3 ≤ x2) → bz_nn r0 (fun a_3 => bz_wA h a_3 x2 x1 (fun h_4 => bz_J G κ kJ7_fill_53178 (d + 1) F bc bs 5 [some (.inr (some a_3)), some (.inl x1), some (.inl (x2 + 1)), some (.inl x3)] [] h_4)))) : bz_J G κ kJ7_fill_53178 (d + 1) F bc bs 5 [some (.inr r0), some (.inl x1), some (.inl x2), some (.inl x3)] [] h := by
  subst hl
  refine bz_iload_n (pc := 5) dJ7_fill_53178_5 rfl rfl ?_
  refine bz_iload_n (pc := 6) dJ7_fill_53178_6 rfl rfl ?_
  refine bz_icmp_ge (tgt := 20) (pc := 7) dJ7_fill_53178_7 (by decide) (fun c => ?_) (fun c => ?_)
  · have hP := hP.1 c
    exact bz_retV (pc := 20) dJ7_fill_53178_20 rfl hP
  · have hP := hP.2 c
    refine bz_aload_n (pc := 10) dJ7_fill_53178_10 rfl rfl ?_
    refine bz_iload_n (pc := 11) dJ7_fill_53178_11 rfl rfl ?_
    refine bz_iload_n (pc := 12) dJ7_fill_53178_12 rfl rfl ?_
    obtain ⟨a_3, rfl, hP⟩ := hP
    refine bz_rw_wA (pc := 13) dJ7_fill_53178_13 hP (fun h_4 hP => ?_)
    refine bz_s_iinc (pc := 14) dJ7_fill_53178_14 (by decide) rfl rfl [some (.inr (some a_3)), some (.inl x1), some (.inl (x2 + 1)), some (.inl x3)] rfl ?_
    refine bz_goto (tgt := 5) (pc := 17) dJ7_fill_53178_17 (by decide) ?_
    exact hP
theorem m_J7_fill_53178 {G : bz_G} {l : Launch} {d mc ms : Nat} {F : Option bz_V → bz_H → Prop} (r0 : Option Nat) (x1 : Int32) (h : bz_H) (hP : ∀ (κ : bz_K) (bc bs : Nat), κ.2.1 = l → bz_nn r0 (fun a_1 => bz_rN h a_1 (fun x_2 => bz_J G κ kJ7_fill_53178 (d + 1) F bc bs 5 [some (.inr (some a_1)), some (.inl x1), some (.inl 0), some (.inl x_2)] [] h))) : bz_Call G l (d + 1) kJ7_fill_53178 [.inr r0, .inl x1] h mc ms F :=
  bz_body (by decide) (by decide) (fun κ hl => g_J7_fill_53178_0 hl r0 x1 h (hP κ mc ms hl))
