set_option maxRecDepth 20000 in
set_option maxHeartbeats 4000000 in
theorem g_X12_finding_0 {G : bz_G} {κ : bz_K} {l : Launch} {d : Nat} {F : Option bz_V → bz_H → Prop} {bc bs : Nat} (hl : κ.2.1 = l) (a0 : Nat) (x1 : Int32) (h : bz_H) (hP : bz_rR h a0 12 3 (fun r_1 => bz_nn r_1 (fun a_2 => bz_rA h a_2 x1 (fun x_3 => bz_wA h a_2 x1 (x_3 + 1) (fun h_4 => F (some (.inl ((-1000001) - x1))) h_4))))) : bz_J G κ kX12_finding (d + 1) F bc bs 0 [some (.inr (some a0)), some (.inl x1)] [] h := by
  subst hl
  refine bz_aload_n (pc := 0) dX12_finding_0 rfl rfl ?_
  refine bz_rw_rR (pc := 1) dX12_finding_1 fl_X12_16 hP (fun r_1 hP => ?_)
  refine bz_iload_n (pc := 4) dX12_finding_4 rfl rfl ?_
  refine bz_dup2 (pc := 5) dX12_finding_5 ?_
  obtain ⟨a_2, rfl, hP⟩ := hP
  refine bz_rw_rA (pc := 6) dX12_finding_6 hP (fun x_3 hP => ?_)
  refine bz_iconst (v := 1) (pc := 7) dX12_finding_7 (by decide) ?_
  refine bz_iadd (pc := 8) dX12_finding_8 ?_
  refine bz_rw_wA (pc := 9) dX12_finding_9 hP (fun h_4 hP => ?_)
  refine bz_ldc (pc := 10) dX12_finding_10 ct_X12_64 ?_
  refine bz_iload_n (pc := 12) dX12_finding_12 rfl rfl ?_
  refine bz_isub (pc := 13) dX12_finding_13 ?_
  exact bz_retI (pc := 14) dX12_finding_14 rfl rfl hP
theorem m_X12_finding {G : bz_G} {l : Launch} {d mc ms : Nat} {F : Option bz_V → bz_H → Prop} (a0 : Nat) (x1 : Int32) (h : bz_H) (hP : bz_rR h a0 12 3 (fun r_1 => bz_nn r_1 (fun a_2 => bz_rA h a_2 x1 (fun x_3 => bz_wA h a_2 x1 (x_3 + 1) (fun h_4 => F (some (.inl ((-1000001) - x1))) h_4))))) : bz_Call G l (d + 1) kX12_finding [.inr (some a0), .inl x1] h mc ms F :=
  bz_body (by decide) (by decide) (fun κ hl => g_X12_finding_0 hl a0 x1 h hP)
set_option maxRecDepth 20000 in
set_option maxHeartbeats 4000000 in
theorem g_X12_force_0 {G : bz_G} {κ : bz_K} {l : Launch} {d : Nat} {F : Option bz_V → bz_H → Prop} {bc bs : Nat} (hl : κ.2.1 = l) (a0 : Nat) (x1 : Int32) (x2 : Int32) (h : bz_H) (hP : bz_cI G l d kX12_in [.inl x1, .inl 0, .inl 1] h 0 0 (fun x_1 h_2 => (x_1 = 0 → bz_rc h_2 a0 12 (bz_cI G l d kX12_finding [.inr (some a0), .inl 0] h_2 0 0 (fun x_3 h_4 => F (some (.inl x_3)) h_4))) ∧ (¬ (x_1 = 0) → (x2 = (-1) → bz_rc h_2 a0 12 (bz_cI G l d kX12_become [.inr (some a0), .inl (5 + x1), .inl x2] h_2 0 0 (fun x_5 h_6 => F (some (.inl x_5)) h_6))) ∧ (¬ (x2 = (-1)) → bz_rc h_2 a0 12 (bz_cI G l d kX12_isText [.inr (some a0), .inl x2] h_2 0 0 (fun x_7 h_8 => (x_7 = 0 → bz_rc h_8 a0 12 (bz_cI G l d kX12_finding [.inr (some a0), .inl 0] h_8 0 0 (fun x_9 h_10 => F (some (.inl x_9)) h_10))) ∧ (¬ (x_7 = 0) → bz_rc h_8 a0 12 (bz_cI G l d kX12_become [.inr (some a0), .inl (5 + x1), .inl x2] h_8 0 0 (fun x_11 h_12 => F (some (.inl x_11)) h_12))))))))) : bz_J G κ kX12_force (d + 1) F bc bs 0 [some (.inr (some a0)), some (.inl x1), some (.inl x2)] [] h := by
  subst hl
  refine bz_iload_n (pc := 0) dX12_force_0 rfl rfl ?_
  refine bz_iconst (v := 0) (pc := 1) dX12_force_1 (by decide) ?_
  refine bz_iconst (v := 1) (pc := 2) dX12_force_2 (by decide) ?_
  refine bz_kIS (as := [.inl x1, .inl 0, .inl 1]) (st := []) (pc := 3) dX12_force_3 sc_X12_in ml_X12_65 ss_X12_in rfl (by decide) hP (fun x_1 h_2 hP => ?_)
  refine bz_if_eq (tgt := 33) (pc := 6) dX12_force_6 (by decide) (fun c => ?_) (fun c => ?_)
  · have hP := hP.1 c
    refine bz_aload_n (pc := 33) dX12_force_33 rfl rfl ?_
    refine bz_iconst (v := 0) (pc := 34) dX12_force_34 (by decide) ?_
    refine bz_kIV (as := [.inl 0]) (st := []) (ci := 12) (pc := 35) dX12_force_35 sc_X12_finding ml_X12_73 im_X12_finding se_X12_finding rfl rfl rfl (by decide) hP (fun x_3 h_4 hP => ?_)
    exact bz_retI (pc := 38) dX12_force_38 rfl rfl hP
  · have hP := hP.2 c
    refine bz_iload_n (pc := 9) dX12_force_9 rfl rfl ?_
    refine bz_iconst (v := (-1)) (pc := 10) dX12_force_10 (by decide) ?_
    refine bz_icmp_eq (tgt := 22) (pc := 11) dX12_force_11 (by decide) (fun c => ?_) (fun c => ?_)
    · have hP := hP.1 c
      refine bz_aload_n (pc := 22) dX12_force_22 rfl rfl ?_
      refine bz_iconst (v := 5) (pc := 23) dX12_force_23 (by decide) ?_
      refine bz_iload_n (pc := 24) dX12_force_24 rfl rfl ?_
      refine bz_iadd (pc := 25) dX12_force_25 ?_
      refine bz_iload_n (pc := 26) dX12_force_26 rfl rfl ?_
      refine bz_kIV (as := [.inl (5 + x1), .inl x2]) (st := []) (ci := 12) (pc := 27) dX12_force_27 sc_X12_become ml_X12_81 im_X12_become se_X12_become rfl rfl rfl (by decide) hP (fun x_5 h_6 hP => ?_)
      refine bz_goto (tgt := 38) (pc := 30) dX12_force_30 (by decide) ?_
      exact bz_retI (pc := 38) dX12_force_38 rfl rfl hP
    · have hP := hP.2 c
      refine bz_aload_n (pc := 14) dX12_force_14 rfl rfl ?_
      refine bz_iload_n (pc := 15) dX12_force_15 rfl rfl ?_
      refine bz_kIV (as := [.inl x2]) (st := []) (ci := 12) (pc := 16) dX12_force_16 sc_X12_isText ml_X12_296 im_X12_isText se_X12_isText rfl rfl rfl (by decide) hP (fun x_7 h_8 hP => ?_)
      refine bz_if_eq (tgt := 33) (pc := 19) dX12_force_19 (by decide) (fun c => ?_) (fun c => ?_)
      · have hP := hP.1 c
        refine bz_aload_n (pc := 33) dX12_force_33 rfl rfl ?_
        refine bz_iconst (v := 0) (pc := 34) dX12_force_34 (by decide) ?_
        refine bz_kIV (as := [.inl 0]) (st := []) (ci := 12) (pc := 35) dX12_force_35 sc_X12_finding ml_X12_73 im_X12_finding se_X12_finding rfl rfl rfl (by decide) hP (fun x_9 h_10 hP => ?_)
        exact bz_retI (pc := 38) dX12_force_38 rfl rfl hP
      · have hP := hP.2 c
        refine bz_aload_n (pc := 22) dX12_force_22 rfl rfl ?_
        refine bz_iconst (v := 5) (pc := 23) dX12_force_23 (by decide) ?_
        refine bz_iload_n (pc := 24) dX12_force_24 rfl rfl ?_
        refine bz_iadd (pc := 25) dX12_force_25 ?_
        refine bz_iload_n (pc := 26) dX12_force_26 rfl rfl ?_
        refine bz_kIV (as := [.inl (5 + x1), .inl x2]) (st := []) (ci := 12) (pc := 27) dX12_force_27 sc_X12_become ml_X12_81 im_X12_become se_X12_become rfl rfl rfl (by decide) hP (fun x_11 h_12 hP => ?_)
        refine bz_goto (tgt := 38) (pc := 30) dX12_force_30 (by decide) ?_
        exact bz_retI (pc := 38) dX12_force_38 rfl rfl hP
theorem m_X12_force {G : bz_G} {l : Launch} {d mc ms : Nat} {F : Option bz_V → bz_H → Prop} (a0 : Nat) (x1 : Int32) (x2 : Int32) (h : bz_H) (hP : bz_cI G l d kX12_in [.inl x1, .inl 0, .inl 1] h 0 0 (fun x_1 h_2 => (x_1 = 0 → bz_rc h_2 a0 12 (bz_cI G l d kX12_finding [.inr (some a0), .inl 0] h_2 0 0 (fun x_3 h_4 => F (some (.inl x_3)) h_4))) ∧ (¬ (x_1 = 0) → (x2 = (-1) → bz_rc h_2 a0 12 (bz_cI G l d kX12_become [.inr (some a0), .inl (5 + x1), .inl x2] h_2 0 0 (fun x_5 h_6 => F (some (.inl x_5)) h_6))) ∧ (¬ (x2 = (-1)) → bz_rc h_2 a0 12 (bz_cI G l d kX12_isText [.inr (some a0), .inl x2] h_2 0 0 (fun x_7 h_8 => (x_7 = 0 → bz_rc h_8 a0 12 (bz_cI G l d kX12_finding [.inr (some a0), .inl 0] h_8 0 0 (fun x_9 h_10 => F (some (.inl x_9)) h_10))) ∧ (¬ (x_7 = 0) → bz_rc h_8 a0 12 (bz_cI G l d kX12_become [.inr (some a0), .inl (5 + x1), .inl x2] h_8 0 0 (fun x_11 h_12 => F (some (.inl x_11)) h_12))))))))) : bz_Call G l (d + 1) kX12_force [.inr (some a0), .inl x1, .inl x2] h mc ms F :=
  bz_body (by decide) (by decide) (fun κ hl => g_X12_force_0 hl a0 x1 x2 h hP)
set_option maxRecDepth 20000 in
set_option maxHeartbeats 4000000 in
theorem g_X12_giveTwo_0 {G : bz_G} {κ : bz_K} {l : Launch} {d : Nat} {F : Option bz_V → bz_H → Prop} {bc bs : Nat} (hl : κ.2.1 = l) (a0 : Nat) (x1 : Int32) (x2 : Int32) (x3 : Int32) (h : bz_H) (hP : bz_rc h a0 12 (bz_cI G l d kX12_hinders [.inr (some a0), .inl x1, .inl x2, .inl x3] h 0 0 (fun x_1 h_2 => (x_1 < 0 → bz_rc h_2 a0 12 (bz_cI G l d kX12_payFor [.inr (some a0), .inl x1, .inl x2, .inl 0] h_2 0 0 (fun x_3 h_4 => bz_rc h_4 a0 12 (bz_cI G l d kX12_payFor [.inr (some a0), .inl x1, .inl x3, .inl 1] h_4 0 0 (fun x_5 h_6 => bz_rc h_6 a0 12 (bz_cV G l d kX12_ends [.inr (some a0), .inl x1] h_6 0 0 (fun h_8 => bz_rc h_8 a0 12 (bz_cV G l d kX12_becomesGiven [.inr (some a0), .inl x1, .inl x2, .inl 0, .inl x_3] h_8 0 0 (fun h_10 => bz_rc h_10 a0 12 (bz_cV G l d kX12_becomesGiven [.inr (some a0), .inl x1, .inl x3, .inl 1, .inl x_5] h_10 0 0 (fun h_12 => bz_rI h_12 a0 12 7 (fun x_13 => F (some (.inl x_13)) h_12)))))))))))) ∧ (¬ (x_1 < 0) → bz_rc h_2 a0 12 (bz_cI G l d kX12_finding [.inr (some a0), .inl x_1] h_2 0 0 (fun x_14 h_15 => F (some (.inl x_14)) h_15)))))) : bz_J G κ kX12_giveTwo (d + 1) F bc bs 0 [some (.inr (some a0)), some (.inl x1), some (.inl x2), some (.inl x3), none, none, none] [] h := by
  subst hl
  refine bz_aload_n (pc := 0) dX12_giveTwo_0 rfl rfl ?_
  refine bz_iload_n (pc := 1) dX12_giveTwo_1 rfl rfl ?_
  refine bz_iload_n (pc := 2) dX12_giveTwo_2 rfl rfl ?_
  refine bz_iload_n (pc := 3) dX12_giveTwo_3 rfl rfl ?_
  refine bz_kIV (as := [.inl x1, .inl x2, .inl x3]) (st := []) (ci := 12) (pc := 4) dX12_giveTwo_4 sc_X12_hinders ml_X12_212 im_X12_hinders se_X12_hinders rfl rfl rfl (by decide) hP (fun x_1 h_2 hP => ?_)
  refine bz_s_istore (pc := 7) dX12_giveTwo_7 (by decide) [some (.inr (some a0)), some (.inl x1), some (.inl x2), some (.inl x3), some (.inl x_1), none, none] rfl ?_
  refine bz_iload (pc := 9) dX12_giveTwo_9 rfl ?_
  refine bz_if_lt (tgt := 21) (pc := 11) dX12_giveTwo_11 (by decide) (fun c => ?_) (fun c => ?_)
  · have hP := hP.1 c
    refine bz_aload_n (pc := 21) dX12_giveTwo_21 rfl rfl ?_
    refine bz_iload_n (pc := 22) dX12_giveTwo_22 rfl rfl ?_
    refine bz_iload_n (pc := 23) dX12_giveTwo_23 rfl rfl ?_
    refine bz_iconst (v := 0) (pc := 24) dX12_giveTwo_24 (by decide) ?_
    refine bz_kIV (as := [.inl x1, .inl x2, .inl 0]) (st := []) (ci := 12) (pc := 25) dX12_giveTwo_25 sc_X12_payFor ml_X12_221 im_X12_payFor se_X12_payFor rfl rfl rfl (by decide) hP (fun x_3 h_4 hP => ?_)
    refine bz_s_istore (pc := 28) dX12_giveTwo_28 (by decide) [some (.inr (some a0)), some (.inl x1), some (.inl x2), some (.inl x3), some (.inl x_1), some (.inl x_3), none] rfl ?_
    refine bz_aload_n (pc := 30) dX12_giveTwo_30 rfl rfl ?_
    refine bz_iload_n (pc := 31) dX12_giveTwo_31 rfl rfl ?_
    refine bz_iload_n (pc := 32) dX12_giveTwo_32 rfl rfl ?_
    refine bz_iconst (v := 1) (pc := 33) dX12_giveTwo_33 (by decide) ?_
    refine bz_kIV (as := [.inl x1, .inl x3, .inl 1]) (st := []) (ci := 12) (pc := 34) dX12_giveTwo_34 sc_X12_payFor ml_X12_221 im_X12_payFor se_X12_payFor rfl rfl rfl (by decide) hP (fun x_5 h_6 hP => ?_)
    refine bz_s_istore (pc := 37) dX12_giveTwo_37 (by decide) [some (.inr (some a0)), some (.inl x1), some (.inl x2), some (.inl x3), some (.inl x_1), some (.inl x_3), some (.inl x_5)] rfl ?_
    refine bz_aload_n (pc := 39) dX12_giveTwo_39 rfl rfl ?_
    refine bz_iload_n (pc := 40) dX12_giveTwo_40 rfl rfl ?_
    refine bz_kVV (as := [.inl x1]) (st := []) (ci := 12) (pc := 41) dX12_giveTwo_41 sc_X12_ends ml_X12_224 im_X12_ends se_X12_ends rfl rfl rfl (by decide) hP (fun h_8 hP => ?_)
    refine bz_aload_n (pc := 44) dX12_giveTwo_44 rfl rfl ?_
    refine bz_iload_n (pc := 45) dX12_giveTwo_45 rfl rfl ?_
    refine bz_iload_n (pc := 46) dX12_giveTwo_46 rfl rfl ?_
    refine bz_iconst (v := 0) (pc := 47) dX12_giveTwo_47 (by decide) ?_
    refine bz_iload (pc := 48) dX12_giveTwo_48 rfl ?_
    refine bz_kVV (as := [.inl x1, .inl x2, .inl 0, .inl x_3]) (st := []) (ci := 12) (pc := 50) dX12_giveTwo_50 sc_X12_becomesGiven ml_X12_228 im_X12_becomesGiven se_X12_becomesGiven rfl rfl rfl (by decide) hP (fun h_10 hP => ?_)
    refine bz_aload_n (pc := 53) dX12_giveTwo_53 rfl rfl ?_
    refine bz_iload_n (pc := 54) dX12_giveTwo_54 rfl rfl ?_
    refine bz_iload_n (pc := 55) dX12_giveTwo_55 rfl rfl ?_
    refine bz_iconst (v := 1) (pc := 56) dX12_giveTwo_56 (by decide) ?_
    refine bz_iload (pc := 57) dX12_giveTwo_57 rfl ?_
    refine bz_kVV (as := [.inl x1, .inl x3, .inl 1, .inl x_5]) (st := []) (ci := 12) (pc := 59) dX12_giveTwo_59 sc_X12_becomesGiven ml_X12_228 im_X12_becomesGiven se_X12_becomesGiven rfl rfl rfl (by decide) hP (fun h_12 hP => ?_)
    refine bz_aload_n (pc := 62) dX12_giveTwo_62 rfl rfl ?_
    refine bz_rw_rI (pc := 63) dX12_giveTwo_63 fl_X12_167 hP (fun x_13 hP => ?_)
    exact bz_retI (pc := 66) dX12_giveTwo_66 rfl rfl hP
  · have hP := hP.2 c
    refine bz_aload_n (pc := 14) dX12_giveTwo_14 rfl rfl ?_
    refine bz_iload (pc := 15) dX12_giveTwo_15 rfl ?_
    refine bz_kIV (as := [.inl x_1]) (st := []) (ci := 12) (pc := 17) dX12_giveTwo_17 sc_X12_finding ml_X12_73 im_X12_finding se_X12_finding rfl rfl rfl (by decide) hP (fun x_14 h_15 hP => ?_)
    exact bz_retI (pc := 20) dX12_giveTwo_20 rfl rfl hP
theorem m_X12_giveTwo {G : bz_G} {l : Launch} {d mc ms : Nat} {F : Option bz_V → bz_H → Prop} (a0 : Nat) (x1 : Int32) (x2 : Int32) (x3 : Int32) (h : bz_H) (hP : bz_rc h a0 12 (bz_cI G l d kX12_hinders [.inr (some a0), .inl x1, .inl x2, .inl x3] h 0 0 (fun x_1 h_2 => (x_1 < 0 → bz_rc h_2 a0 12 (bz_cI G l d kX12_payFor [.inr (some a0), .inl x1, .inl x2, .inl 0] h_2 0 0 (fun x_3 h_4 => bz_rc h_4 a0 12 (bz_cI G l d kX12_payFor [.inr (some a0), .inl x1, .inl x3, .inl 1] h_4 0 0 (fun x_5 h_6 => bz_rc h_6 a0 12 (bz_cV G l d kX12_ends [.inr (some a0), .inl x1] h_6 0 0 (fun h_8 => bz_rc h_8 a0 12 (bz_cV G l d kX12_becomesGiven [.inr (some a0), .inl x1, .inl x2, .inl 0, .inl x_3] h_8 0 0 (fun h_10 => bz_rc h_10 a0 12 (bz_cV G l d kX12_becomesGiven [.inr (some a0), .inl x1, .inl x3, .inl 1, .inl x_5] h_10 0 0 (fun h_12 => bz_rI h_12 a0 12 7 (fun x_13 => F (some (.inl x_13)) h_12)))))))))))) ∧ (¬ (x_1 < 0) → bz_rc h_2 a0 12 (bz_cI G l d kX12_finding [.inr (some a0), .inl x_1] h_2 0 0 (fun x_14 h_15 => F (some (.inl x_14)) h_15)))))) : bz_Call G l (d + 1) kX12_giveTwo [.inr (some a0), .inl x1, .inl x2, .inl x3] h mc ms F :=
  bz_body (by decide) (by decide) (fun κ hl => g_X12_giveTwo_0 hl a0 x1 x2 x3 h hP)
set_option maxRecDepth 20000 in
set_option maxHeartbeats 4000000 in
theorem g_X12_give_0 {G : bz_G} {κ : bz_K} {l : Launch} {d : Nat} {F : Option bz_V → bz_H → Prop} {bc bs : Nat} (hl : κ.2.1 = l) (a0 : Nat) (x1 : Int32) (x2 : Int32) (h : bz_H) (hP : bz_rc h a0 12 (bz_cI G l d kX12_isRider [.inr (some a0), .inl x1] h 0 0 (fun x_1 h_2 => (x_1 = 0 → bz_rc h_2 a0 12 (bz_cI G l d kX12_finding [.inr (some a0), .inl 0] h_2 0 0 (fun x_3 h_4 => F (some (.inl x_3)) h_4))) ∧ (¬ (x_1 = 0) → bz_rc h_2 a0 12 (bz_cI G l d kX12_isOrder [.inr (some a0), .inl x2] h_2 0 0 (fun x_5 h_6 => (¬ x_5 = 0 → bz_rc h_6 a0 12 (bz_cI G l d kX12_isWaiting [.inr (some a0), .inl x2] h_6 0 0 (fun x_7 h_8 => (¬ x_7 = 0 → bz_rc h_8 a0 12 (bz_cI G l d kX12_tripNow [.inr (some a0), .inl x1, .inl x2] h_8 0 0 (fun x_9 h_10 => (x_9 = 0 → bz_rc h_10 a0 12 (bz_cI G l d kX12_finding [.inr (some a0), .inl 3] h_10 0 0 (fun x_11 h_12 => F (some (.inl x_11)) h_12))) ∧ (¬ (x_9 = 0) → bz_rc h_10 a0 12 (bz_cI G l d kX12_gives [.inr (some a0), .inl x1, .inl x2] h_10 0 0 (fun x_13 h_14 => F (some (.inl x_13)) h_14)))))) ∧ (x_7 = 0 → bz_rc h_8 a0 12 (bz_cI G l d kX12_finding [.inr (some a0), .inl 4] h_8 0 0 (fun x_15 h_16 => F (some (.inl x_15)) h_16)))))) ∧ (x_5 = 0 → bz_rc h_6 a0 12 (bz_cI G l d kX12_finding [.inr (some a0), .inl 0] h_6 0 0 (fun x_17 h_18 => F (some (.inl x_17)) h_18))))))))) : bz_J G κ kX12_give (d + 1) F bc bs 0 [some (.inr (some a0)), some (.inl x1), some (.inl x2)] [] h := by
  subst hl
  refine bz_aload_n (pc := 0) dX12_give_0 rfl rfl ?_
  refine bz_iload_n (pc := 1) dX12_give_1 rfl rfl ?_
  refine bz_kIV (as := [.inl x1]) (st := []) (ci := 12) (pc := 2) dX12_give_2 sc_X12_isRider ml_X12_139 im_X12_isRider se_X12_isRider rfl rfl rfl (by decide) hP (fun x_1 h_2 hP => ?_)
  refine bz_if_eq (tgt := 16) (pc := 5) dX12_give_5 (by decide) (fun c => ?_) (fun c => ?_)
  · have hP := hP.1 c
    refine bz_aload_n (pc := 16) dX12_give_16 rfl rfl ?_
    refine bz_iconst (v := 0) (pc := 17) dX12_give_17 (by decide) ?_
    refine bz_kIV (as := [.inl 0]) (st := []) (ci := 12) (pc := 18) dX12_give_18 sc_X12_finding ml_X12_73 im_X12_finding se_X12_finding rfl rfl rfl (by decide) hP (fun x_3 h_4 hP => ?_)
    exact bz_retI (pc := 21) dX12_give_21 rfl rfl hP
  · have hP := hP.2 c
    refine bz_aload_n (pc := 8) dX12_give_8 rfl rfl ?_
    refine bz_iload_n (pc := 9) dX12_give_9 rfl rfl ?_
    refine bz_kIV (as := [.inl x2]) (st := []) (ci := 12) (pc := 10) dX12_give_10 sc_X12_isOrder ml_X12_117 im_X12_isOrder se_X12_isOrder rfl rfl rfl (by decide) hP (fun x_5 h_6 hP => ?_)
    refine bz_if_ne (tgt := 22) (pc := 13) dX12_give_13 (by decide) (fun c => ?_) (fun c => ?_)
    · have hP := hP.1 c
      refine bz_aload_n (pc := 22) dX12_give_22 rfl rfl ?_
      refine bz_iload_n (pc := 23) dX12_give_23 rfl rfl ?_
      refine bz_kIV (as := [.inl x2]) (st := []) (ci := 12) (pc := 24) dX12_give_24 sc_X12_isWaiting ml_X12_129 im_X12_isWaiting se_X12_isWaiting rfl rfl rfl (by decide) hP (fun x_7 h_8 hP => ?_)
      refine bz_if_ne (tgt := 36) (pc := 27) dX12_give_27 (by decide) (fun c => ?_) (fun c => ?_)
      · have hP := hP.1 c
        refine bz_aload_n (pc := 36) dX12_give_36 rfl rfl ?_
        refine bz_iload_n (pc := 37) dX12_give_37 rfl rfl ?_
        refine bz_iload_n (pc := 38) dX12_give_38 rfl rfl ?_
        refine bz_kIV (as := [.inl x1, .inl x2]) (st := []) (ci := 12) (pc := 39) dX12_give_39 sc_X12_tripNow ml_X12_194 im_X12_tripNow se_X12_tripNow rfl rfl rfl (by decide) hP (fun x_9 h_10 hP => ?_)
        refine bz_if_eq (tgt := 54) (pc := 42) dX12_give_42 (by decide) (fun c => ?_) (fun c => ?_)
        · have hP := hP.1 c
          refine bz_aload_n (pc := 54) dX12_give_54 rfl rfl ?_
          refine bz_iconst (v := 3) (pc := 55) dX12_give_55 (by decide) ?_
          refine bz_kIV (as := [.inl 3]) (st := []) (ci := 12) (pc := 56) dX12_give_56 sc_X12_finding ml_X12_73 im_X12_finding se_X12_finding rfl rfl rfl (by decide) hP (fun x_11 h_12 hP => ?_)
          exact bz_retI (pc := 59) dX12_give_59 rfl rfl hP
        · have hP := hP.2 c
          refine bz_aload_n (pc := 45) dX12_give_45 rfl rfl ?_
          refine bz_iload_n (pc := 46) dX12_give_46 rfl rfl ?_
          refine bz_iload_n (pc := 47) dX12_give_47 rfl rfl ?_
          refine bz_kIV (as := [.inl x1, .inl x2]) (st := []) (ci := 12) (pc := 48) dX12_give_48 sc_X12_gives ml_X12_232 im_X12_gives se_X12_gives rfl rfl rfl (by decide) hP (fun x_13 h_14 hP => ?_)
          refine bz_goto (tgt := 59) (pc := 51) dX12_give_51 (by decide) ?_
          exact bz_retI (pc := 59) dX12_give_59 rfl rfl hP
      · have hP := hP.2 c
        refine bz_aload_n (pc := 30) dX12_give_30 rfl rfl ?_
        refine bz_iconst (v := 4) (pc := 31) dX12_give_31 (by decide) ?_
        refine bz_kIV (as := [.inl 4]) (st := []) (ci := 12) (pc := 32) dX12_give_32 sc_X12_finding ml_X12_73 im_X12_finding se_X12_finding rfl rfl rfl (by decide) hP (fun x_15 h_16 hP => ?_)
        exact bz_retI (pc := 35) dX12_give_35 rfl rfl hP
    · have hP := hP.2 c
      refine bz_aload_n (pc := 16) dX12_give_16 rfl rfl ?_
      refine bz_iconst (v := 0) (pc := 17) dX12_give_17 (by decide) ?_
      refine bz_kIV (as := [.inl 0]) (st := []) (ci := 12) (pc := 18) dX12_give_18 sc_X12_finding ml_X12_73 im_X12_finding se_X12_finding rfl rfl rfl (by decide) hP (fun x_17 h_18 hP => ?_)
      exact bz_retI (pc := 21) dX12_give_21 rfl rfl hP
theorem m_X12_give {G : bz_G} {l : Launch} {d mc ms : Nat} {F : Option bz_V → bz_H → Prop} (a0 : Nat) (x1 : Int32) (x2 : Int32) (h : bz_H) (hP : bz_rc h a0 12 (bz_cI G l d kX12_isRider [.inr (some a0), .inl x1] h 0 0 (fun x_1 h_2 => (x_1 = 0 → bz_rc h_2 a0 12 (bz_cI G l d kX12_finding [.inr (some a0), .inl 0] h_2 0 0 (fun x_3 h_4 => F (some (.inl x_3)) h_4))) ∧ (¬ (x_1 = 0) → bz_rc h_2 a0 12 (bz_cI G l d kX12_isOrder [.inr (some a0), .inl x2] h_2 0 0 (fun x_5 h_6 => (¬ x_5 = 0 → bz_rc h_6 a0 12 (bz_cI G l d kX12_isWaiting [.inr (some a0), .inl x2] h_6 0 0 (fun x_7 h_8 => (¬ x_7 = 0 → bz_rc h_8 a0 12 (bz_cI G l d kX12_tripNow [.inr (some a0), .inl x1, .inl x2] h_8 0 0 (fun x_9 h_10 => (x_9 = 0 → bz_rc h_10 a0 12 (bz_cI G l d kX12_finding [.inr (some a0), .inl 3] h_10 0 0 (fun x_11 h_12 => F (some (.inl x_11)) h_12))) ∧ (¬ (x_9 = 0) → bz_rc h_10 a0 12 (bz_cI G l d kX12_gives [.inr (some a0), .inl x1, .inl x2] h_10 0 0 (fun x_13 h_14 => F (some (.inl x_13)) h_14)))))) ∧ (x_7 = 0 → bz_rc h_8 a0 12 (bz_cI G l d kX12_finding [.inr (some a0), .inl 4] h_8 0 0 (fun x_15 h_16 => F (some (.inl x_15)) h_16)))))) ∧ (x_5 = 0 → bz_rc h_6 a0 12 (bz_cI G l d kX12_finding [.inr (some a0), .inl 0] h_6 0 0 (fun x_17 h_18 => F (some (.inl x_17)) h_18))))))))) : bz_Call G l (d + 1) kX12_give [.inr (some a0), .inl x1, .inl x2] h mc ms F :=
  bz_body (by decide) (by decide) (fun κ hl => g_X12_give_0 hl a0 x1 x2 h hP)
set_option maxRecDepth 20000 in
set_option maxHeartbeats 4000000 in
theorem g_X12_gives_0 {G : bz_G} {κ : bz_K} {l : Launch} {d : Nat} {F : Option bz_V → bz_H → Prop} {bc bs : Nat} (hl : κ.2.1 = l) (a0 : Nat) (x1 : Int32) (x2 : Int32) (h : bz_H) (hP : bz_rc h a0 12 (bz_cI G l d kX12_payFor [.inr (some a0), .inl x1, .inl x2, .inl 0] h 0 0 (fun x_1 h_2 => bz_rc h_2 a0 12 (bz_cV G l d kX12_ends [.inr (some a0), .inl x1] h_2 0 0 (fun h_4 => bz_rc h_4 a0 12 (bz_cV G l d kX12_becomesGiven [.inr (some a0), .inl x1, .inl x2, .inl 0, .inl x_1] h_4 0 0 (fun h_6 => bz_rR h_6 a0 12 10 (fun r_7 => bz_nn r_7 (fun a_8 => bz_rA h_6 a_8 0 (fun x_9 => F (some (.inl x_9)) h_6)))))))))) : bz_J G κ kX12_gives (d + 1) F bc bs 0 [some (.inr (some a0)), some (.inl x1), some (.inl x2), none] [] h := by
  subst hl
  refine bz_aload_n (pc := 0) dX12_gives_0 rfl rfl ?_
  refine bz_iload_n (pc := 1) dX12_gives_1 rfl rfl ?_
  refine bz_iload_n (pc := 2) dX12_gives_2 rfl rfl ?_
  refine bz_iconst (v := 0) (pc := 3) dX12_gives_3 (by decide) ?_
  refine bz_kIV (as := [.inl x1, .inl x2, .inl 0]) (st := []) (ci := 12) (pc := 4) dX12_gives_4 sc_X12_payFor ml_X12_221 im_X12_payFor se_X12_payFor rfl rfl rfl (by decide) hP (fun x_1 h_2 hP => ?_)
  refine bz_s_istore_n (pc := 7) dX12_gives_7 rfl (by decide) [some (.inr (some a0)), some (.inl x1), some (.inl x2), some (.inl x_1)] rfl ?_
  refine bz_aload_n (pc := 8) dX12_gives_8 rfl rfl ?_
  refine bz_iload_n (pc := 9) dX12_gives_9 rfl rfl ?_
  refine bz_kVV (as := [.inl x1]) (st := []) (ci := 12) (pc := 10) dX12_gives_10 sc_X12_ends ml_X12_224 im_X12_ends se_X12_ends rfl rfl rfl (by decide) hP (fun h_4 hP => ?_)
  refine bz_aload_n (pc := 13) dX12_gives_13 rfl rfl ?_
  refine bz_iload_n (pc := 14) dX12_gives_14 rfl rfl ?_
  refine bz_iload_n (pc := 15) dX12_gives_15 rfl rfl ?_
  refine bz_iconst (v := 0) (pc := 16) dX12_gives_16 (by decide) ?_
  refine bz_iload_n (pc := 17) dX12_gives_17 rfl rfl ?_
  refine bz_kVV (as := [.inl x1, .inl x2, .inl 0, .inl x_1]) (st := []) (ci := 12) (pc := 18) dX12_gives_18 sc_X12_becomesGiven ml_X12_228 im_X12_becomesGiven se_X12_becomesGiven rfl rfl rfl (by decide) hP (fun h_6 hP => ?_)
  refine bz_aload_n (pc := 21) dX12_gives_21 rfl rfl ?_
  refine bz_rw_rR (pc := 22) dX12_gives_22 fl_X12_25 hP (fun r_7 hP => ?_)
  refine bz_iconst (v := 0) (pc := 25) dX12_gives_25 (by decide) ?_
  obtain ⟨a_8, rfl, hP⟩ := hP
  refine bz_rw_rA (pc := 26) dX12_gives_26 hP (fun x_9 hP => ?_)
  exact bz_retI (pc := 27) dX12_gives_27 rfl rfl hP
theorem m_X12_gives {G : bz_G} {l : Launch} {d mc ms : Nat} {F : Option bz_V → bz_H → Prop} (a0 : Nat) (x1 : Int32) (x2 : Int32) (h : bz_H) (hP : bz_rc h a0 12 (bz_cI G l d kX12_payFor [.inr (some a0), .inl x1, .inl x2, .inl 0] h 0 0 (fun x_1 h_2 => bz_rc h_2 a0 12 (bz_cV G l d kX12_ends [.inr (some a0), .inl x1] h_2 0 0 (fun h_4 => bz_rc h_4 a0 12 (bz_cV G l d kX12_becomesGiven [.inr (some a0), .inl x1, .inl x2, .inl 0, .inl x_1] h_4 0 0 (fun h_6 => bz_rR h_6 a0 12 10 (fun r_7 => bz_nn r_7 (fun a_8 => bz_rA h_6 a_8 0 (fun x_9 => F (some (.inl x_9)) h_6)))))))))) : bz_Call G l (d + 1) kX12_gives [.inr (some a0), .inl x1, .inl x2] h mc ms F :=
  bz_body (by decide) (by decide) (fun κ hl => g_X12_gives_0 hl a0 x1 x2 h hP)
set_option maxRecDepth 20000 in
set_option maxHeartbeats 4000000 in
theorem g_X12_goesNight_0 {G : bz_G} {κ : bz_K} {l : Launch} {d : Nat} {F : Option bz_V → bz_H → Prop} {bc bs : Nat} (hl : κ.2.1 = l) (a0 : Nat) (x1 : Int32) (h : bz_H) (hP : bz_J G κ kX12_goesNight (d + 1) F bc bs 2 [some (.inr (some a0)), some (.inl x1), some (.inl 0), none] [] h) : bz_J G κ kX12_goesNight (d + 1) F bc bs 0 [some (.inr (some a0)), some (.inl x1), none, none] [] h := by
  subst hl
  refine bz_iconst (v := 0) (pc := 0) dX12_goesNight_0 (by decide) ?_
  refine bz_s_istore_n (pc := 1) dX12_goesNight_1 rfl (by decide) [some (.inr (some a0)), some (.inl x1), some (.inl 0), none] rfl ?_
  exact hP
set_option maxRecDepth 20000 in
set_option maxHeartbeats 4000000 in
theorem g_X12_goesNight_2 {G : bz_G} {κ : bz_K} {l : Launch} {d : Nat} {F : Option bz_V → bz_H → Prop} {bc bs : Nat} (hl : κ.2.1 = l) (a0 : Nat) (x1 : Int32) (x2 : Int32) (u3 : Option bz_V) (h : bz_H) (hP : bz_rR h a0 12 0 (fun r_1 => bz_nn r_1 (fun a_2 => bz_rA h a_2 3 (fun x_3 => (x_3 ≤ x2 → bz_wI h a0 12 28 0 (fun h_4 => bz_wI h_4 a0 12 29 0 (fun h_5 => bz_J G κ kX12_goesNight (d + 1) F bc bs 61 [some (.inr (some a0)), some (.inl x1), some (.inl 0), u3] [] h_5))) ∧ (¬ (x_3 ≤ x2) → bz_rR h a0 12 24 (fun r_6 => bz_rc h a0 12 (bz_cI G l d kX12_ofRider [.inr (some a0), .inl x2, .inl 4] h 0 0 (fun x_7 h_8 => bz_nn r_6 (fun a_9 => bz_wA h_8 a_9 x2 x_7 (fun h_10 => bz_rR h_10 a0 12 25 (fun r_11 => bz_rc h_10 a0 12 (bz_cI G l d kX12_ofRider [.inr (some a0), .inl x2, .inl 5] h_10 0 0 (fun x_12 h_13 => bz_nn r_11 (fun a_14 => bz_wA h_13 a_14 x2 x_12 (fun h_15 => bz_rR h_15 a0 12 26 (fun r_16 => bz_nn r_16 (fun a_17 => bz_wA h_15 a_17 x2 0 (fun h_18 => bz_J G κ kX12_goesNight (d + 1) F bc bs 2 [some (.inr (some a0)), some (.inl x1), some (.inl (x2 + 1)), u3] [] h_18)))))))))))))))))) : bz_J G κ kX12_goesNight (d + 1) F bc bs 2 [some (.inr (some a0)), some (.inl x1), some (.inl x2), u3] [] h := by
  subst hl
  refine bz_iload_n (pc := 2) dX12_goesNight_2 rfl rfl ?_
  refine bz_aload_n (pc := 3) dX12_goesNight_3 rfl rfl ?_
  refine bz_rw_rR (pc := 4) dX12_goesNight_4 fl_X12_7 hP (fun r_1 hP => ?_)
  refine bz_iconst (v := 3) (pc := 7) dX12_goesNight_7 (by decide) ?_
  obtain ⟨a_2, rfl, hP⟩ := hP
  refine bz_rw_rA (pc := 8) dX12_goesNight_8 hP (fun x_3 hP => ?_)
  refine bz_icmp_ge (tgt := 49) (pc := 9) dX12_goesNight_9 (by decide) (fun c => ?_) (fun c => ?_)
  · have hP := hP.1 c
    refine bz_aload_n (pc := 49) dX12_goesNight_49 rfl rfl ?_
    refine bz_iconst (v := 0) (pc := 50) dX12_goesNight_50 (by decide) ?_
    refine bz_rw_wI (pc := 51) dX12_goesNight_51 fl_X12_323 (fun q h9 => by cases h9; rfl) rfl hP (fun h_4 hP => ?_)
    refine bz_aload_n (pc := 54) dX12_goesNight_54 rfl rfl ?_
    refine bz_iconst (v := 0) (pc := 55) dX12_goesNight_55 (by decide) ?_
    refine bz_rw_wI (pc := 56) dX12_goesNight_56 fl_X12_326 (fun q h9 => by cases h9; rfl) rfl hP (fun h_5 hP => ?_)
    refine bz_iconst (v := 0) (pc := 59) dX12_goesNight_59 (by decide) ?_
    refine bz_s_istore_n (pc := 60) dX12_goesNight_60 rfl (by decide) [some (.inr (some a0)), some (.inl x1), some (.inl 0), u3] rfl ?_
    exact hP
  · have hP := hP.2 c
    refine bz_aload_n (pc := 12) dX12_goesNight_12 rfl rfl ?_
    refine bz_rw_rR (pc := 13) dX12_goesNight_13 fl_X12_40 hP (fun r_6 hP => ?_)
    refine bz_iload_n (pc := 16) dX12_goesNight_16 rfl rfl ?_
    refine bz_aload_n (pc := 17) dX12_goesNight_17 rfl rfl ?_
    refine bz_iload_n (pc := 18) dX12_goesNight_18 rfl rfl ?_
    refine bz_iconst (v := 4) (pc := 19) dX12_goesNight_19 (by decide) ?_
    refine bz_kIV (as := [.inl x2, .inl 4]) (st := [.inl x2, .inr r_6]) (ci := 12) (pc := 20) dX12_goesNight_20 sc_X12_ofRider ml_X12_136 im_X12_ofRider se_X12_ofRider rfl rfl rfl (by decide) hP (fun x_7 h_8 hP => ?_)
    obtain ⟨a_9, rfl, hP⟩ := hP
    refine bz_rw_wA (pc := 23) dX12_goesNight_23 hP (fun h_10 hP => ?_)
    refine bz_aload_n (pc := 24) dX12_goesNight_24 rfl rfl ?_
    refine bz_rw_rR (pc := 25) dX12_goesNight_25 fl_X12_43 hP (fun r_11 hP => ?_)
    refine bz_iload_n (pc := 28) dX12_goesNight_28 rfl rfl ?_
    refine bz_aload_n (pc := 29) dX12_goesNight_29 rfl rfl ?_
    refine bz_iload_n (pc := 30) dX12_goesNight_30 rfl rfl ?_
    refine bz_iconst (v := 5) (pc := 31) dX12_goesNight_31 (by decide) ?_
    refine bz_kIV (as := [.inl x2, .inl 5]) (st := [.inl x2, .inr r_11]) (ci := 12) (pc := 32) dX12_goesNight_32 sc_X12_ofRider ml_X12_136 im_X12_ofRider se_X12_ofRider rfl rfl rfl (by decide) hP (fun x_12 h_13 hP => ?_)
    obtain ⟨a_14, rfl, hP⟩ := hP
    refine bz_rw_wA (pc := 35) dX12_goesNight_35 hP (fun h_15 hP => ?_)
    refine bz_aload_n (pc := 36) dX12_goesNight_36 rfl rfl ?_
    refine bz_rw_rR (pc := 37) dX12_goesNight_37 fl_X12_46 hP (fun r_16 hP => ?_)
    refine bz_iload_n (pc := 40) dX12_goesNight_40 rfl rfl ?_
    refine bz_iconst (v := 0) (pc := 41) dX12_goesNight_41 (by decide) ?_
    obtain ⟨a_17, rfl, hP⟩ := hP
    refine bz_rw_wA (pc := 42) dX12_goesNight_42 hP (fun h_18 hP => ?_)
    refine bz_s_iinc (pc := 43) dX12_goesNight_43 (by decide) rfl rfl [some (.inr (some a0)), some (.inl x1), some (.inl (x2 + 1)), u3] rfl ?_
    refine bz_goto (tgt := 2) (pc := 46) dX12_goesNight_46 (by decide) ?_
    exact hP
set_option maxRecDepth 20000 in
set_option maxHeartbeats 4000000 in
theorem g_X12_goesNight_61 {G : bz_G} {κ : bz_K} {l : Launch} {d : Nat} {F : Option bz_V → bz_H → Prop} {bc bs : Nat} (hl : κ.2.1 = l) (a0 : Nat) (x1 : Int32) (x2 : Int32) (u3 : Option bz_V) (h : bz_H) (hP : bz_rR h a0 12 0 (fun r_19 => bz_nn r_19 (fun a_20 => bz_rA h a_20 2 (fun x_21 => (x_21 ≤ x2 → F none h) ∧ (¬ (x_21 ≤ x2) → bz_rR h a0 12 27 (fun r_22 => bz_rc h a0 12 (bz_cI G l d kX12_ofOrder [.inr (some a0), .inl x2, .inl 5] h 0 0 (fun x_23 h_24 => (¬ x_23 = 2 → bz_rc h_24 a0 12 (bz_cI G l d kX12_nightRider [.inr (some a0), .inl x1, .inl x2] h_24 0 0 (fun x_25 h_26 => bz_J G κ kX12_goesNight (d + 1) F bc bs 96 [some (.inr (some a0)), some (.inl x1), some (.inl x2), u3] [.inl x_25, .inl x2, .inr r_22] h_26))) ∧ (x_23 = 2 → bz_J G κ kX12_goesNight (d + 1) F bc bs 96 [some (.inr (some a0)), some (.inl x1), some (.inl x2), u3] [.inl (-1), .inl x2, .inr r_22] h_24))))))))) : bz_J G κ kX12_goesNight (d + 1) F bc bs 61 [some (.inr (some a0)), some (.inl x1), some (.inl x2), u3] [] h := by
  subst hl
  refine bz_iload_n (pc := 61) dX12_goesNight_61 rfl rfl ?_
  refine bz_aload_n (pc := 62) dX12_goesNight_62 rfl rfl ?_
  refine bz_rw_rR (pc := 63) dX12_goesNight_63 fl_X12_7 hP (fun r_19 hP => ?_)
  refine bz_iconst (v := 2) (pc := 66) dX12_goesNight_66 (by decide) ?_
  obtain ⟨a_20, rfl, hP⟩ := hP
  refine bz_rw_rA (pc := 67) dX12_goesNight_67 hP (fun x_21 hP => ?_)
  refine bz_icmp_ge (tgt := 209) (pc := 68) dX12_goesNight_68 (by decide) (fun c => ?_) (fun c => ?_)
  · have hP := hP.1 c
    exact bz_retV (pc := 209) dX12_goesNight_209 rfl hP
  · have hP := hP.2 c
    refine bz_aload_n (pc := 71) dX12_goesNight_71 rfl rfl ?_
    refine bz_rw_rR (pc := 72) dX12_goesNight_72 fl_X12_49 hP (fun r_22 hP => ?_)
    refine bz_iload_n (pc := 75) dX12_goesNight_75 rfl rfl ?_
    refine bz_aload_n (pc := 76) dX12_goesNight_76 rfl rfl ?_
    refine bz_iload_n (pc := 77) dX12_goesNight_77 rfl rfl ?_
    refine bz_iconst (v := 5) (pc := 78) dX12_goesNight_78 (by decide) ?_
    refine bz_kIV (as := [.inl x2, .inl 5]) (st := [.inl x2, .inr r_22]) (ci := 12) (pc := 79) dX12_goesNight_79 sc_X12_ofOrder ml_X12_99 im_X12_ofOrder se_X12_ofOrder rfl rfl rfl (by decide) hP (fun x_23 h_24 hP => ?_)
    refine bz_iconst (v := 2) (pc := 82) dX12_goesNight_82 (by decide) ?_
    refine bz_icmp_ne (tgt := 90) (pc := 83) dX12_goesNight_83 (by decide) (fun c => ?_) (fun c => ?_)
    · have hP := hP.1 c
      refine bz_aload_n (pc := 90) dX12_goesNight_90 rfl rfl ?_
      refine bz_iload_n (pc := 91) dX12_goesNight_91 rfl rfl ?_
      refine bz_iload_n (pc := 92) dX12_goesNight_92 rfl rfl ?_
      refine bz_kIV (as := [.inl x1, .inl x2]) (st := [.inl x2, .inr r_22]) (ci := 12) (pc := 93) dX12_goesNight_93 sc_X12_nightRider ml_X12_329 im_X12_nightRider se_X12_nightRider rfl rfl rfl (by decide) hP (fun x_25 h_26 hP => ?_)
      exact hP
    · have hP := hP.2 c
      refine bz_iconst (v := (-1)) (pc := 86) dX12_goesNight_86 (by decide) ?_
      refine bz_goto (tgt := 96) (pc := 87) dX12_goesNight_87 (by decide) ?_
      exact hP
set_option maxRecDepth 20000 in
set_option maxHeartbeats 4000000 in
theorem g_X12_goesNight_96 {G : bz_G} {κ : bz_K} {l : Launch} {d : Nat} {F : Option bz_V → bz_H → Prop} {bc bs : Nat} (hl : κ.2.1 = l) (a0 : Nat) (x1 : Int32) (x2 : Int32) (u3 : Option bz_V) (y0 : Int32) (y1 : Int32) (q2 : Option Nat) (h : bz_H) (hP : bz_nn q2 (fun a_27 => bz_wA h a_27 y1 y0 (fun h_28 => bz_rR h_28 a0 12 27 (fun r_29 => bz_nn r_29 (fun a_30 => bz_rA h_28 a_30 x2 (fun x_31 => (x_31 < 0 → bz_J G κ kX12_goesNight (d + 1) F bc bs 61 [some (.inr (some a0)), some (.inl x1), some (.inl (x2 + 1)), u3] [] h_28) ∧ (¬ (x_31 < 0) → bz_rR h_28 a0 12 27 (fun r_32 => bz_nn r_32 (fun a_33 => bz_rA h_28 a_33 x2 (fun x_34 => bz_rc h_28 a0 12 (bz_cI G l d kX12_nightTrip [.inr (some a0), .inl x_34, .inl x2] h_28 0 0 (fun x_35 h_36 => (x_35 = 0 → bz_J G κ kX12_goesNight (d + 1) F bc bs 61 [some (.inr (some a0)), some (.inl x1), some (.inl (x2 + 1)), u3] [] h_36) ∧ (¬ (x_35 = 0) → bz_rR h_36 a0 12 27 (fun r_37 => bz_nn r_37 (fun a_38 => bz_rA h_36 a_38 x2 (fun x_39 => bz_rR h_36 a0 12 24 (fun r_40 => bz_rI h_36 a0 12 6 (fun x_41 => bz_nn r_40 (fun a_42 => bz_wA h_36 a_42 x_39 x_41 (fun h_43 => bz_rR h_43 a0 12 25 (fun r_44 => bz_rI h_43 a0 12 7 (fun x_45 => bz_nn r_44 (fun a_46 => bz_wA h_43 a_46 x_39 x_45 (fun h_47 => bz_rR h_47 a0 12 26 (fun r_48 => bz_nn r_48 (fun a_49 => bz_rA h_47 a_49 x_39 (fun x_50 => bz_wA h_47 a_49 x_39 (x_50 + 1) (fun h_51 => bz_rI h_51 a0 12 28 (fun x_52 => bz_rR h_51 a0 12 10 (fun r_53 => bz_nn r_53 (fun a_54 => bz_rA h_51 a_54 0 (fun x_55 => bz_rc h_51 a0 12 (bz_cI G l d kX12_lateBy [.inr (some a0), .inl x2, .inl x_55] h_51 0 0 (fun x_56 h_57 => bz_wI h_57 a0 12 28 (x_52 + x_56) (fun h_58 => bz_rI h_58 a0 12 7 (fun x_59 => bz_rI h_58 a0 12 29 (fun x_60 => (x_59 ≤ x_60 → bz_rI h_58 a0 12 29 (fun x_61 => bz_wI h_58 a0 12 29 x_61 (fun h_62 => bz_J G κ kX12_goesNight (d + 1) F bc bs 61 [some (.inr (some a0)), some (.inl x1), some (.inl (x2 + 1)), some (.inl x_39)] [] h_62))) ∧ (¬ (x_59 ≤ x_60) → bz_rI h_58 a0 12 7 (fun x_63 => bz_wI h_58 a0 12 29 x_63 (fun h_64 => bz_J G κ kX12_goesNight (d + 1) F bc bs 61 [some (.inr (some a0)), some (.inl x1), some (.inl (x2 + 1)), some (.inl x_39)] [] h_64)))))))))))))))))))))))))))))))))))))))) : bz_J G κ kX12_goesNight (d + 1) F bc bs 96 [some (.inr (some a0)), some (.inl x1), some (.inl x2), u3] [.inl y0, .inl y1, .inr q2] h := by
  subst hl
  obtain ⟨a_27, rfl, hP⟩ := hP
  refine bz_rw_wA (pc := 96) dX12_goesNight_96 hP (fun h_28 hP => ?_)
  refine bz_aload_n (pc := 97) dX12_goesNight_97 rfl rfl ?_
  refine bz_rw_rR (pc := 98) dX12_goesNight_98 fl_X12_49 hP (fun r_29 hP => ?_)
  refine bz_iload_n (pc := 101) dX12_goesNight_101 rfl rfl ?_
  obtain ⟨a_30, rfl, hP⟩ := hP
  refine bz_rw_rA (pc := 102) dX12_goesNight_102 hP (fun x_31 hP => ?_)
  refine bz_if_lt (tgt := 203) (pc := 103) dX12_goesNight_103 (by decide) (fun c => ?_) (fun c => ?_)
  · have hP := hP.1 c
    refine bz_s_iinc (pc := 203) dX12_goesNight_203 (by decide) rfl rfl [some (.inr (some a0)), some (.inl x1), some (.inl (x2 + 1)), u3] rfl ?_
    refine bz_goto (tgt := 61) (pc := 206) dX12_goesNight_206 (by decide) ?_
    exact hP
  · have hP := hP.2 c
    refine bz_aload_n (pc := 106) dX12_goesNight_106 rfl rfl ?_
    refine bz_aload_n (pc := 107) dX12_goesNight_107 rfl rfl ?_
    refine bz_rw_rR (pc := 108) dX12_goesNight_108 fl_X12_49 hP (fun r_32 hP => ?_)
    refine bz_iload_n (pc := 111) dX12_goesNight_111 rfl rfl ?_
    obtain ⟨a_33, rfl, hP⟩ := hP
    refine bz_rw_rA (pc := 112) dX12_goesNight_112 hP (fun x_34 hP => ?_)
    refine bz_iload_n (pc := 113) dX12_goesNight_113 rfl rfl ?_
    refine bz_kIV (as := [.inl x_34, .inl x2]) (st := []) (ci := 12) (pc := 114) dX12_goesNight_114 sc_X12_nightTrip ml_X12_320 im_X12_nightTrip se_X12_nightTrip rfl rfl rfl (by decide) hP (fun x_35 h_36 hP => ?_)
    refine bz_if_eq (tgt := 203) (pc := 117) dX12_goesNight_117 (by decide) (fun c => ?_) (fun c => ?_)
    · have hP := hP.1 c
      refine bz_s_iinc (pc := 203) dX12_goesNight_203 (by decide) rfl rfl [some (.inr (some a0)), some (.inl x1), some (.inl (x2 + 1)), u3] rfl ?_
      refine bz_goto (tgt := 61) (pc := 206) dX12_goesNight_206 (by decide) ?_
      exact hP
    · have hP := hP.2 c
      refine bz_aload_n (pc := 120) dX12_goesNight_120 rfl rfl ?_
      refine bz_rw_rR (pc := 121) dX12_goesNight_121 fl_X12_49 hP (fun r_37 hP => ?_)
      refine bz_iload_n (pc := 124) dX12_goesNight_124 rfl rfl ?_
      obtain ⟨a_38, rfl, hP⟩ := hP
      refine bz_rw_rA (pc := 125) dX12_goesNight_125 hP (fun x_39 hP => ?_)
      refine bz_s_istore_n (pc := 126) dX12_goesNight_126 rfl (by decide) [some (.inr (some a0)), some (.inl x1), some (.inl x2), some (.inl x_39)] rfl ?_
      refine bz_aload_n (pc := 127) dX12_goesNight_127 rfl rfl ?_
      refine bz_rw_rR (pc := 128) dX12_goesNight_128 fl_X12_40 hP (fun r_40 hP => ?_)
      refine bz_iload_n (pc := 131) dX12_goesNight_131 rfl rfl ?_
      refine bz_aload_n (pc := 132) dX12_goesNight_132 rfl rfl ?_
      refine bz_rw_rI (pc := 133) dX12_goesNight_133 fl_X12_163 hP (fun x_41 hP => ?_)
      obtain ⟨a_42, rfl, hP⟩ := hP
      refine bz_rw_wA (pc := 136) dX12_goesNight_136 hP (fun h_43 hP => ?_)
      refine bz_aload_n (pc := 137) dX12_goesNight_137 rfl rfl ?_
      refine bz_rw_rR (pc := 138) dX12_goesNight_138 fl_X12_43 hP (fun r_44 hP => ?_)
      refine bz_iload_n (pc := 141) dX12_goesNight_141 rfl rfl ?_
      refine bz_aload_n (pc := 142) dX12_goesNight_142 rfl rfl ?_
      refine bz_rw_rI (pc := 143) dX12_goesNight_143 fl_X12_167 hP (fun x_45 hP => ?_)
      obtain ⟨a_46, rfl, hP⟩ := hP
      refine bz_rw_wA (pc := 146) dX12_goesNight_146 hP (fun h_47 hP => ?_)
      refine bz_aload_n (pc := 147) dX12_goesNight_147 rfl rfl ?_
      refine bz_rw_rR (pc := 148) dX12_goesNight_148 fl_X12_46 hP (fun r_48 hP => ?_)
      refine bz_iload_n (pc := 151) dX12_goesNight_151 rfl rfl ?_
      refine bz_dup2 (pc := 152) dX12_goesNight_152 ?_
      obtain ⟨a_49, rfl, hP⟩ := hP
      refine bz_rw_rA (pc := 153) dX12_goesNight_153 hP (fun x_50 hP => ?_)
      refine bz_iconst (v := 1) (pc := 154) dX12_goesNight_154 (by decide) ?_
      refine bz_iadd (pc := 155) dX12_goesNight_155 ?_
      refine bz_rw_wA (pc := 156) dX12_goesNight_156 hP (fun h_51 hP => ?_)
      refine bz_aload_n (pc := 157) dX12_goesNight_157 rfl rfl ?_
      refine bz_dup (pc := 158) dX12_goesNight_158 ?_
      refine bz_rw_rI (pc := 159) dX12_goesNight_159 fl_X12_323 hP (fun x_52 hP => ?_)
      refine bz_aload_n (pc := 162) dX12_goesNight_162 rfl rfl ?_
      refine bz_iload_n (pc := 163) dX12_goesNight_163 rfl rfl ?_
      refine bz_aload_n (pc := 164) dX12_goesNight_164 rfl rfl ?_
      refine bz_rw_rR (pc := 165) dX12_goesNight_165 fl_X12_25 hP (fun r_53 hP => ?_)
      refine bz_iconst (v := 0) (pc := 168) dX12_goesNight_168 (by decide) ?_
      obtain ⟨a_54, rfl, hP⟩ := hP
      refine bz_rw_rA (pc := 169) dX12_goesNight_169 hP (fun x_55 hP => ?_)
      refine bz_kIV (as := [.inl x2, .inl x_55]) (st := [.inl x_52, .inr (some a0)]) (ci := 12) (pc := 170) dX12_goesNight_170 sc_X12_lateBy ml_X12_102 im_X12_lateBy se_X12_lateBy rfl rfl rfl (by decide) hP (fun x_56 h_57 hP => ?_)
      refine bz_iadd (pc := 173) dX12_goesNight_173 ?_
      refine bz_rw_wI (pc := 174) dX12_goesNight_174 fl_X12_323 (fun q h9 => by cases h9; rfl) rfl hP (fun h_58 hP => ?_)
      refine bz_aload_n (pc := 177) dX12_goesNight_177 rfl rfl ?_
      refine bz_aload_n (pc := 178) dX12_goesNight_178 rfl rfl ?_
      refine bz_rw_rI (pc := 179) dX12_goesNight_179 fl_X12_167 hP (fun x_59 hP => ?_)
      refine bz_aload_n (pc := 182) dX12_goesNight_182 rfl rfl ?_
      refine bz_rw_rI (pc := 183) dX12_goesNight_183 fl_X12_326 hP (fun x_60 hP => ?_)
      refine bz_icmp_le (tgt := 196) (pc := 186) dX12_goesNight_186 (by decide) (fun c => ?_) (fun c => ?_)
      · have hP := hP.1 c
        refine bz_aload_n (pc := 196) dX12_goesNight_196 rfl rfl ?_
        refine bz_rw_rI (pc := 197) dX12_goesNight_197 fl_X12_326 hP (fun x_61 hP => ?_)
        refine bz_rw_wI (pc := 200) dX12_goesNight_200 fl_X12_326 (fun q h9 => by cases h9; rfl) rfl hP (fun h_62 hP => ?_)
        refine bz_s_iinc (pc := 203) dX12_goesNight_203 (by decide) rfl rfl [some (.inr (some a0)), some (.inl x1), some (.inl (x2 + 1)), some (.inl x_39)] rfl ?_
        refine bz_goto (tgt := 61) (pc := 206) dX12_goesNight_206 (by decide) ?_
        exact hP
      · have hP := hP.2 c
        refine bz_aload_n (pc := 189) dX12_goesNight_189 rfl rfl ?_
        refine bz_rw_rI (pc := 190) dX12_goesNight_190 fl_X12_167 hP (fun x_63 hP => ?_)
        refine bz_goto (tgt := 200) (pc := 193) dX12_goesNight_193 (by decide) ?_
        refine bz_rw_wI (pc := 200) dX12_goesNight_200 fl_X12_326 (fun q h9 => by cases h9; rfl) rfl hP (fun h_64 hP => ?_)
        refine bz_s_iinc (pc := 203) dX12_goesNight_203 (by decide) rfl rfl [some (.inr (some a0)), some (.inl x1), some (.inl (x2 + 1)), some (.inl x_39)] rfl ?_
        refine bz_goto (tgt := 61) (pc := 206) dX12_goesNight_206 (by decide) ?_
        exact hP
theorem m_X12_goesNight {G : bz_G} {l : Launch} {d mc ms : Nat} {F : Option bz_V → bz_H → Prop} (a0 : Nat) (x1 : Int32) (h : bz_H) (hP : ∀ (κ : bz_K) (bc bs : Nat), κ.2.1 = l → bz_J G κ kX12_goesNight (d + 1) F bc bs 2 [some (.inr (some a0)), some (.inl x1), some (.inl 0), none] [] h) : bz_Call G l (d + 1) kX12_goesNight [.inr (some a0), .inl x1] h mc ms F :=
  bz_body (by decide) (by decide) (fun κ hl => g_X12_goesNight_0 hl a0 x1 h (hP κ mc ms hl))
set_option maxRecDepth 20000 in
set_option maxHeartbeats 4000000 in
theorem g_X12_goesOf_0 {G : bz_G} {κ : bz_K} {l : Launch} {d : Nat} {F : Option bz_V → bz_H → Prop} {bc bs : Nat} (hl : κ.2.1 = l) (a0 : Nat) (x1 : Int32) (x2 : Int32) (x3 : Int32) (h : bz_H) (hP : bz_rc h a0 12 (bz_cI G l d kX12_wayOf [.inr (some a0), .inl x2, .inl x3] h 0 0 (fun x_1 h_2 => bz_cI G l d kX12_minutesFor [.inl x1, .inl x_1] h_2 0 0 (fun x_3 h_4 => F (some (.inl x_3)) h_4)))) : bz_J G κ kX12_goesOf (d + 1) F bc bs 0 [some (.inr (some a0)), some (.inl x1), some (.inl x2), some (.inl x3)] [] h := by
  subst hl
  refine bz_iload_n (pc := 0) dX12_goesOf_0 rfl rfl ?_
  refine bz_aload_n (pc := 1) dX12_goesOf_1 rfl rfl ?_
  refine bz_iload_n (pc := 2) dX12_goesOf_2 rfl rfl ?_
  refine bz_iload_n (pc := 3) dX12_goesOf_3 rfl rfl ?_
  refine bz_kIV (as := [.inl x2, .inl x3]) (st := [.inl x1]) (ci := 12) (pc := 4) dX12_goesOf_4 sc_X12_wayOf ml_X12_96 im_X12_wayOf se_X12_wayOf rfl rfl rfl (by decide) hP (fun x_1 h_2 hP => ?_)
  refine bz_kIS (as := [.inl x1, .inl x_1]) (st := []) (pc := 7) dX12_goesOf_7 sc_X12_minutesFor ml_X12_154 ss_X12_minutesFor rfl (by decide) hP (fun x_3 h_4 hP => ?_)
  exact bz_retI (pc := 10) dX12_goesOf_10 rfl rfl hP
theorem m_X12_goesOf {G : bz_G} {l : Launch} {d mc ms : Nat} {F : Option bz_V → bz_H → Prop} (a0 : Nat) (x1 : Int32) (x2 : Int32) (x3 : Int32) (h : bz_H) (hP : bz_rc h a0 12 (bz_cI G l d kX12_wayOf [.inr (some a0), .inl x2, .inl x3] h 0 0 (fun x_1 h_2 => bz_cI G l d kX12_minutesFor [.inl x1, .inl x_1] h_2 0 0 (fun x_3 h_4 => F (some (.inl x_3)) h_4)))) : bz_Call G l (d + 1) kX12_goesOf [.inr (some a0), .inl x1, .inl x2, .inl x3] h mc ms F :=
  bz_body (by decide) (by decide) (fun κ hl => g_X12_goesOf_0 hl a0 x1 x2 x3 h hP)
set_option maxRecDepth 20000 in
set_option maxHeartbeats 4000000 in
theorem g_X12_goesWay_0 {G : bz_G} {κ : bz_K} {l : Launch} {d : Nat} {F : Option bz_V → bz_H → Prop} {bc bs : Nat} (hl : κ.2.1 = l) (a0 : Nat) (x1 : Int32) (x2 : Int32) (x3 : Int32) (x4 : Int32) (h : bz_H) (hP : bz_rc h a0 12 (bz_cI G l d kX12_ofRider [.inr (some a0), .inl x1, .inl 0] h 0 0 (fun x_1 h_2 => bz_rc h_2 a0 12 (bz_cI G l d kX12_ofRider [.inr (some a0), .inl x1, .inl 1] h_2 0 0 (fun x_3 h_4 => bz_rc h_4 a0 12 (bz_cI G l d kX12_beginsAt [.inr (some a0), .inl x1] h_4 0 0 (fun x_5 h_6 => bz_rc h_6 a0 12 (bz_cV G l d kX12_begin [.inr (some a0), .inl x_3, .inl x_5] h_6 0 0 (fun h_8 => bz_J G κ kX12_goesWay (d + 1) F bc bs 26 [some (.inr (some a0)), some (.inl x1), some (.inl x2), some (.inl x3), some (.inl x4), some (.inl x_1), some (.inl 0), none, none] [] h_8))))))))) : bz_J G κ kX12_goesWay (d + 1) F bc bs 0 [some (.inr (some a0)), some (.inl x1), some (.inl x2), some (.inl x3), some (.inl x4), none, none, none, none] [] h := by
  subst hl
  refine bz_aload_n (pc := 0) dX12_goesWay_0 rfl rfl ?_
  refine bz_iload_n (pc := 1) dX12_goesWay_1 rfl rfl ?_
  refine bz_iconst (v := 0) (pc := 2) dX12_goesWay_2 (by decide) ?_
  refine bz_kIV (as := [.inl x1, .inl 0]) (st := []) (ci := 12) (pc := 3) dX12_goesWay_3 sc_X12_ofRider ml_X12_136 im_X12_ofRider se_X12_ofRider rfl rfl rfl (by decide) hP (fun x_1 h_2 hP => ?_)
  refine bz_s_istore (pc := 6) dX12_goesWay_6 (by decide) [some (.inr (some a0)), some (.inl x1), some (.inl x2), some (.inl x3), some (.inl x4), some (.inl x_1), none, none, none] rfl ?_
  refine bz_aload_n (pc := 8) dX12_goesWay_8 rfl rfl ?_
  refine bz_aload_n (pc := 9) dX12_goesWay_9 rfl rfl ?_
  refine bz_iload_n (pc := 10) dX12_goesWay_10 rfl rfl ?_
  refine bz_iconst (v := 1) (pc := 11) dX12_goesWay_11 (by decide) ?_
  refine bz_kIV (as := [.inl x1, .inl 1]) (st := [.inr (some a0)]) (ci := 12) (pc := 12) dX12_goesWay_12 sc_X12_ofRider ml_X12_136 im_X12_ofRider se_X12_ofRider rfl rfl rfl (by decide) hP (fun x_3 h_4 hP => ?_)
  refine bz_aload_n (pc := 15) dX12_goesWay_15 rfl rfl ?_
  refine bz_iload_n (pc := 16) dX12_goesWay_16 rfl rfl ?_
  refine bz_kIV (as := [.inl x1]) (st := [.inl x_3, .inr (some a0)]) (ci := 12) (pc := 17) dX12_goesWay_17 sc_X12_beginsAt ml_X12_187 im_X12_beginsAt se_X12_beginsAt rfl rfl rfl (by decide) hP (fun x_5 h_6 hP => ?_)
  refine bz_kVV (as := [.inl x_3, .inl x_5]) (st := []) (ci := 12) (pc := 20) dX12_goesWay_20 sc_X12_begin ml_X12_177 im_X12_begin se_X12_begin rfl rfl rfl (by decide) hP (fun h_8 hP => ?_)
  refine bz_iconst (v := 0) (pc := 23) dX12_goesWay_23 (by decide) ?_
  refine bz_s_istore (pc := 24) dX12_goesWay_24 (by decide) [some (.inr (some a0)), some (.inl x1), some (.inl x2), some (.inl x3), some (.inl x4), some (.inl x_1), some (.inl 0), none, none] rfl ?_
  exact hP
set_option maxRecDepth 20000 in
set_option maxHeartbeats 4000000 in
theorem g_X12_goesWay_26 {G : bz_G} {κ : bz_K} {l : Launch} {d : Nat} {F : Option bz_V → bz_H → Prop} {bc bs : Nat} (hl : κ.2.1 = l) (a0 : Nat) (x1 : Int32) (x2 : Int32) (x3 : Int32) (x4 : Int32) (x5 : Int32) (x6 : Int32) (u7 : Option bz_V) (u8 : Option bz_V) (h : bz_H) (hP : (4 ≤ x6 → bz_rI h a0 12 8 (fun x_9 => (x_9 = 0 → F (some (.inl 0)) h) ∧ (¬ (x_9 = 0) → bz_rI h a0 12 7 (fun x_10 => F (some (.inl (if 1439 < x_10 then 0 else 1))) h)))) ∧ (¬ (4 ≤ x6) → bz_cI G l d kX12_stepOf [.inl x4, .inl x6] h 0 0 (fun x_11 h_12 => (2 ≤ x_11 → bz_rc h_12 a0 12 (bz_cV G l d kX12_bring [.inr (some a0), .inl x5, .inl (if (x_11 - x_11 / 2 * 2) = 0 then x2 else x3), .inl (x_11 - 2)] h_12 0 0 (fun h_14 => bz_J G κ kX12_goesWay (d + 1) F bc bs 26 [some (.inr (some a0)), some (.inl x1), some (.inl x2), some (.inl x3), some (.inl x4), some (.inl x5), some (.inl (x6 + 1)), some (.inl x_11), some (.inl (if (x_11 - x_11 / 2 * 2) = 0 then x2 else x3))] [] h_14))) ∧ (¬ (2 ≤ x_11) → bz_rc h_12 a0 12 (bz_cV G l d kX12_pickUp [.inr (some a0), .inl x5, .inl (if (x_11 - x_11 / 2 * 2) = 0 then x2 else x3), .inl x_11] h_12 0 0 (fun h_16 => bz_J G κ kX12_goesWay (d + 1) F bc bs 26 [some (.inr (some a0)), some (.inl x1), some (.inl x2), some (.inl x3), some (.inl x4), some (.inl x5), some (.inl (x6 + 1)), some (.inl x_11), some (.inl (if (x_11 - x_11 / 2 * 2) = 0 then x2 else x3))] [] h_16)))))) : bz_J G κ kX12_goesWay (d + 1) F bc bs 26 [some (.inr (some a0)), some (.inl x1), some (.inl x2), some (.inl x3), some (.inl x4), some (.inl x5), some (.inl x6), u7, u8] [] h := by
  subst hl
  refine bz_iload (pc := 26) dX12_goesWay_26 rfl ?_
  refine bz_iconst (v := 4) (pc := 28) dX12_goesWay_28 (by decide) ?_
  refine bz_icmp_ge (tgt := 92) (pc := 29) dX12_goesWay_29 (by decide) (fun c => ?_) (fun c => ?_)
  · have hP := hP.1 c
    refine bz_aload_n (pc := 92) dX12_goesWay_92 rfl rfl ?_
    refine bz_rw_rI (pc := 93) dX12_goesWay_93 fl_X12_160 hP (fun x_9 hP => ?_)
    refine bz_if_eq (tgt := 113) (pc := 96) dX12_goesWay_96 (by decide) (fun c => ?_) (fun c => ?_)
    · have hP := hP.1 c
      refine bz_iconst (v := 0) (pc := 113) dX12_goesWay_113 (by decide) ?_
      exact bz_retI (pc := 114) dX12_goesWay_114 rfl rfl hP
    · have hP := hP.2 c
      refine bz_aload_n (pc := 99) dX12_goesWay_99 rfl rfl ?_
      refine bz_rw_rI (pc := 100) dX12_goesWay_100 fl_X12_167 hP (fun x_10 hP => ?_)
      refine bz_sipush (v := 1439) (pc := 103) dX12_goesWay_103 (by decide) ?_
      have hJ : bz_J G κ kX12_goesWay (d + 1) F bc bs 114 [some (.inr (some a0)), some (.inl x1), some (.inl x2), some (.inl x3), some (.inl x4), some (.inl x5), some (.inl x6), u7, u8] [.inl (if 1439 < x_10 then 0 else 1)] h := by
        exact bz_retI (pc := 114) dX12_goesWay_114 rfl (by (repeat' split) <;> rfl) hP
      refine bz_icmp_gt (tgt := 113) (pc := 106) dX12_goesWay_106 (by decide) (fun c => ?_) (fun c => ?_)
      · have e9 : ((if 1439 < x_10 then 0 else 1) : Int32) = (0) := if_pos c
        rw [e9] at hJ
        refine bz_iconst (v := 0) (pc := 113) dX12_goesWay_113 (by decide) ?_
        exact hJ
      · have e9 : ((if 1439 < x_10 then 0 else 1) : Int32) = (1) := if_neg c
        rw [e9] at hJ
        refine bz_iconst (v := 1) (pc := 109) dX12_goesWay_109 (by decide) ?_
        refine bz_goto (tgt := 114) (pc := 110) dX12_goesWay_110 (by decide) ?_
        exact hJ
  · have hP := hP.2 c
    refine bz_iload (pc := 32) dX12_goesWay_32 rfl ?_
    refine bz_iload (pc := 34) dX12_goesWay_34 rfl ?_
    refine bz_kIS (as := [.inl x4, .inl x6]) (st := []) (pc := 36) dX12_goesWay_36 sc_X12_stepOf ml_X12_197 ss_X12_stepOf rfl (by decide) hP (fun x_11 h_12 hP => ?_)
    refine bz_s_istore (pc := 39) dX12_goesWay_39 (by decide) [some (.inr (some a0)), some (.inl x1), some (.inl x2), some (.inl x3), some (.inl x4), some (.inl x5), some (.inl x6), some (.inl x_11), u8] rfl ?_
    refine bz_iload (pc := 41) dX12_goesWay_41 rfl ?_
    refine bz_iconst (v := 2) (pc := 43) dX12_goesWay_43 (by decide) ?_
    refine bz_irem (pc := 44) dX12_goesWay_44 (by decide) ?_
    have hJ : bz_J G κ kX12_goesWay (d + 1) F bc bs 53 [some (.inr (some a0)), some (.inl x1), some (.inl x2), some (.inl x3), some (.inl x4), some (.inl x5), some (.inl x6), some (.inl x_11), u8] [.inl (if (x_11 - x_11 / 2 * 2) = 0 then x2 else x3)] h_12 := by
      refine bz_s_istore (pc := 53) dX12_goesWay_53 (by decide) [some (.inr (some a0)), some (.inl x1), some (.inl x2), some (.inl x3), some (.inl x4), some (.inl x5), some (.inl x6), some (.inl x_11), some (.inl (if (x_11 - x_11 / 2 * 2) = 0 then x2 else x3))] rfl ?_
      refine bz_iload (pc := 55) dX12_goesWay_55 rfl ?_
      refine bz_iconst (v := 2) (pc := 57) dX12_goesWay_57 (by decide) ?_
      refine bz_icmp_ge (tgt := 74) (pc := 58) dX12_goesWay_58 (by decide) (fun c => ?_) (fun c => ?_)
      · have hP := hP.1 c
        refine bz_aload_n (pc := 74) dX12_goesWay_74 rfl rfl ?_
        refine bz_iload (pc := 75) dX12_goesWay_75 rfl ?_
        refine bz_iload (pc := 77) dX12_goesWay_77 rfl ?_
        refine bz_iload (pc := 79) dX12_goesWay_79 rfl ?_
        refine bz_iconst (v := 2) (pc := 81) dX12_goesWay_81 (by decide) ?_
        refine bz_isub (pc := 82) dX12_goesWay_82 ?_
        refine bz_kVV (as := [.inl x5, .inl (if (x_11 - x_11 / 2 * 2) = 0 then x2 else x3), .inl (x_11 - 2)]) (st := []) (ci := 12) (pc := 83) dX12_goesWay_83 sc_X12_bring ml_X12_184 im_X12_bring se_X12_bring rfl rfl rfl (by decide) hP (fun h_14 hP => ?_)
        refine bz_s_iinc (pc := 86) dX12_goesWay_86 (by decide) rfl rfl [some (.inr (some a0)), some (.inl x1), some (.inl x2), some (.inl x3), some (.inl x4), some (.inl x5), some (.inl (x6 + 1)), some (.inl x_11), some (.inl (if (x_11 - x_11 / 2 * 2) = 0 then x2 else x3))] rfl ?_
        refine bz_goto (tgt := 26) (pc := 89) dX12_goesWay_89 (by decide) ?_
        exact hP
      · have hP := hP.2 c
        refine bz_aload_n (pc := 61) dX12_goesWay_61 rfl rfl ?_
        refine bz_iload (pc := 62) dX12_goesWay_62 rfl ?_
        refine bz_iload (pc := 64) dX12_goesWay_64 rfl ?_
        refine bz_iload (pc := 66) dX12_goesWay_66 rfl ?_
        refine bz_kVV (as := [.inl x5, .inl (if (x_11 - x_11 / 2 * 2) = 0 then x2 else x3), .inl x_11]) (st := []) (ci := 12) (pc := 68) dX12_goesWay_68 sc_X12_pickUp ml_X12_180 im_X12_pickUp se_X12_pickUp rfl rfl rfl (by decide) hP (fun h_16 hP => ?_)
        refine bz_goto (tgt := 86) (pc := 71) dX12_goesWay_71 (by decide) ?_
        refine bz_s_iinc (pc := 86) dX12_goesWay_86 (by decide) rfl rfl [some (.inr (some a0)), some (.inl x1), some (.inl x2), some (.inl x3), some (.inl x4), some (.inl x5), some (.inl (x6 + 1)), some (.inl x_11), some (.inl (if (x_11 - x_11 / 2 * 2) = 0 then x2 else x3))] rfl ?_
        refine bz_goto (tgt := 26) (pc := 89) dX12_goesWay_89 (by decide) ?_
        exact hP
    refine bz_if_ne (tgt := 52) (pc := 45) dX12_goesWay_45 (by decide) (fun c => ?_) (fun c => ?_)
    · have e9 : ((if (x_11 - x_11 / 2 * 2) = 0 then x2 else x3) : Int32) = (x3) := if_neg c
      rw [e9] at hJ
      refine bz_iload_n (pc := 52) dX12_goesWay_52 rfl rfl ?_
      exact hJ
    · have e9 : ((if (x_11 - x_11 / 2 * 2) = 0 then x2 else x3) : Int32) = (x2) := if_pos c
      rw [e9] at hJ
      refine bz_iload_n (pc := 48) dX12_goesWay_48 rfl rfl ?_
      refine bz_goto (tgt := 53) (pc := 49) dX12_goesWay_49 (by decide) ?_
      exact hJ
theorem m_X12_goesWay {G : bz_G} {l : Launch} {d mc ms : Nat} {F : Option bz_V → bz_H → Prop} (a0 : Nat) (x1 : Int32) (x2 : Int32) (x3 : Int32) (x4 : Int32) (h : bz_H) (hP : ∀ (κ : bz_K) (bc bs : Nat), κ.2.1 = l → bz_rc h a0 12 (bz_cI G l d kX12_ofRider [.inr (some a0), .inl x1, .inl 0] h 0 0 (fun x_1 h_2 => bz_rc h_2 a0 12 (bz_cI G l d kX12_ofRider [.inr (some a0), .inl x1, .inl 1] h_2 0 0 (fun x_3 h_4 => bz_rc h_4 a0 12 (bz_cI G l d kX12_beginsAt [.inr (some a0), .inl x1] h_4 0 0 (fun x_5 h_6 => bz_rc h_6 a0 12 (bz_cV G l d kX12_begin [.inr (some a0), .inl x_3, .inl x_5] h_6 0 0 (fun h_8 => bz_J G κ kX12_goesWay (d + 1) F bc bs 26 [some (.inr (some a0)), some (.inl x1), some (.inl x2), some (.inl x3), some (.inl x4), some (.inl x_1), some (.inl 0), none, none] [] h_8))))))))) : bz_Call G l (d + 1) kX12_goesWay [.inr (some a0), .inl x1, .inl x2, .inl x3, .inl x4] h mc ms F :=
  bz_body (by decide) (by decide) (fun κ hl => g_X12_goesWay_0 hl a0 x1 x2 x3 x4 h (hP κ mc ms hl))
set_option maxRecDepth 20000 in
set_option maxHeartbeats 4000000 in
theorem g_X12_goes_0 {G : bz_G} {κ : bz_K} {l : Launch} {d : Nat} {F : Option bz_V → bz_H → Prop} {bc bs : Nat} (hl : κ.2.1 = l) (a0 : Nat) (x1 : Int32) (x2 : Int32) (x3 : Int32) (h : bz_H) (hP : bz_rc h a0 12 (bz_cI G l d kX12_isRider [.inr (some a0), .inl x1] h 0 0 (fun x_1 h_2 => (x_1 = 0 → bz_rc h_2 a0 12 (bz_cI G l d kX12_finding [.inr (some a0), .inl 0] h_2 0 0 (fun x_3 h_4 => F (some (.inl x_3)) h_4))) ∧ (¬ (x_1 = 0) → bz_cI G l d kX12_isCrossing [.inl x2] h_2 0 0 (fun x_5 h_6 => (x_5 = 0 → bz_rc h_6 a0 12 (bz_cI G l d kX12_finding [.inr (some a0), .inl 0] h_6 0 0 (fun x_7 h_8 => F (some (.inl x_7)) h_8))) ∧ (¬ (x_5 = 0) → bz_cI G l d kX12_isCrossing [.inl x3] h_6 0 0 (fun x_9 h_10 => (¬ x_9 = 0 → bz_rc h_10 a0 12 (bz_cI G l d kX12_ofRider [.inr (some a0), .inl x1, .inl 0] h_10 0 0 (fun x_11 h_12 => bz_rc h_12 a0 12 (bz_cI G l d kX12_goesOf [.inr (some a0), .inl x_11, .inl x2, .inl x3] h_12 0 0 (fun x_13 h_14 => bz_rc h_14 a0 12 (bz_cI G l d kX12_wayOf [.inr (some a0), .inl x2, .inl x3] h_14 0 0 (fun x_15 h_16 => (0 ≤ x_15 → F (some (.inl x_13)) h_16) ∧ (¬ (0 ≤ x_15) → bz_rc h_16 a0 12 (bz_cI G l d kX12_finding [.inr (some a0), .inl 3] h_16 0 0 (fun x_17 h_18 => F (some (.inl x_17)) h_18)))))))))) ∧ (x_9 = 0 → bz_rc h_10 a0 12 (bz_cI G l d kX12_finding [.inr (some a0), .inl 0] h_10 0 0 (fun x_19 h_20 => F (some (.inl x_19)) h_20)))))))))) : bz_J G κ kX12_goes (d + 1) F bc bs 0 [some (.inr (some a0)), some (.inl x1), some (.inl x2), some (.inl x3), none] [] h := by
  subst hl
  refine bz_aload_n (pc := 0) dX12_goes_0 rfl rfl ?_
  refine bz_iload_n (pc := 1) dX12_goes_1 rfl rfl ?_
  refine bz_kIV (as := [.inl x1]) (st := []) (ci := 12) (pc := 2) dX12_goes_2 sc_X12_isRider ml_X12_139 im_X12_isRider se_X12_isRider rfl rfl rfl (by decide) hP (fun x_1 h_2 hP => ?_)
  refine bz_if_eq (tgt := 22) (pc := 5) dX12_goes_5 (by decide) (fun c => ?_) (fun c => ?_)
  · have hP := hP.1 c
    refine bz_aload_n (pc := 22) dX12_goes_22 rfl rfl ?_
    refine bz_iconst (v := 0) (pc := 23) dX12_goes_23 (by decide) ?_
    refine bz_kIV (as := [.inl 0]) (st := []) (ci := 12) (pc := 24) dX12_goes_24 sc_X12_finding ml_X12_73 im_X12_finding se_X12_finding rfl rfl rfl (by decide) hP (fun x_3 h_4 hP => ?_)
    exact bz_retI (pc := 27) dX12_goes_27 rfl rfl hP
  · have hP := hP.2 c
    refine bz_iload_n (pc := 8) dX12_goes_8 rfl rfl ?_
    refine bz_kIS (as := [.inl x2]) (st := []) (pc := 9) dX12_goes_9 sc_X12_isCrossing ml_X12_69 ss_X12_isCrossing rfl (by decide) hP (fun x_5 h_6 hP => ?_)
    refine bz_if_eq (tgt := 22) (pc := 12) dX12_goes_12 (by decide) (fun c => ?_) (fun c => ?_)
    · have hP := hP.1 c
      refine bz_aload_n (pc := 22) dX12_goes_22 rfl rfl ?_
      refine bz_iconst (v := 0) (pc := 23) dX12_goes_23 (by decide) ?_
      refine bz_kIV (as := [.inl 0]) (st := []) (ci := 12) (pc := 24) dX12_goes_24 sc_X12_finding ml_X12_73 im_X12_finding se_X12_finding rfl rfl rfl (by decide) hP (fun x_7 h_8 hP => ?_)
      exact bz_retI (pc := 27) dX12_goes_27 rfl rfl hP
    · have hP := hP.2 c
      refine bz_iload_n (pc := 15) dX12_goes_15 rfl rfl ?_
      refine bz_kIS (as := [.inl x3]) (st := []) (pc := 16) dX12_goes_16 sc_X12_isCrossing ml_X12_69 ss_X12_isCrossing rfl (by decide) hP (fun x_9 h_10 hP => ?_)
      refine bz_if_ne (tgt := 28) (pc := 19) dX12_goes_19 (by decide) (fun c => ?_) (fun c => ?_)
      · have hP := hP.1 c
        refine bz_aload_n (pc := 28) dX12_goes_28 rfl rfl ?_
        refine bz_aload_n (pc := 29) dX12_goes_29 rfl rfl ?_
        refine bz_iload_n (pc := 30) dX12_goes_30 rfl rfl ?_
        refine bz_iconst (v := 0) (pc := 31) dX12_goes_31 (by decide) ?_
        refine bz_kIV (as := [.inl x1, .inl 0]) (st := [.inr (some a0)]) (ci := 12) (pc := 32) dX12_goes_32 sc_X12_ofRider ml_X12_136 im_X12_ofRider se_X12_ofRider rfl rfl rfl (by decide) hP (fun x_11 h_12 hP => ?_)
        refine bz_iload_n (pc := 35) dX12_goes_35 rfl rfl ?_
        refine bz_iload_n (pc := 36) dX12_goes_36 rfl rfl ?_
        refine bz_kIV (as := [.inl x_11, .inl x2, .inl x3]) (st := []) (ci := 12) (pc := 37) dX12_goes_37 sc_X12_goesOf ml_X12_157 im_X12_goesOf se_X12_goesOf rfl rfl rfl (by decide) hP (fun x_13 h_14 hP => ?_)
        refine bz_s_istore (pc := 40) dX12_goes_40 (by decide) [some (.inr (some a0)), some (.inl x1), some (.inl x2), some (.inl x3), some (.inl x_13)] rfl ?_
        refine bz_aload_n (pc := 42) dX12_goes_42 rfl rfl ?_
        refine bz_iload_n (pc := 43) dX12_goes_43 rfl rfl ?_
        refine bz_iload_n (pc := 44) dX12_goes_44 rfl rfl ?_
        refine bz_kIV (as := [.inl x2, .inl x3]) (st := []) (ci := 12) (pc := 45) dX12_goes_45 sc_X12_wayOf ml_X12_96 im_X12_wayOf se_X12_wayOf rfl rfl rfl (by decide) hP (fun x_15 h_16 hP => ?_)
        refine bz_if_ge (tgt := 59) (pc := 48) dX12_goes_48 (by decide) (fun c => ?_) (fun c => ?_)
        · have hP := hP.1 c
          refine bz_iload (pc := 59) dX12_goes_59 rfl ?_
          exact bz_retI (pc := 61) dX12_goes_61 rfl rfl hP
        · have hP := hP.2 c
          refine bz_aload_n (pc := 51) dX12_goes_51 rfl rfl ?_
          refine bz_iconst (v := 3) (pc := 52) dX12_goes_52 (by decide) ?_
          refine bz_kIV (as := [.inl 3]) (st := []) (ci := 12) (pc := 53) dX12_goes_53 sc_X12_finding ml_X12_73 im_X12_finding se_X12_finding rfl rfl rfl (by decide) hP (fun x_17 h_18 hP => ?_)
          refine bz_goto (tgt := 61) (pc := 56) dX12_goes_56 (by decide) ?_
          exact bz_retI (pc := 61) dX12_goes_61 rfl rfl hP
      · have hP := hP.2 c
        refine bz_aload_n (pc := 22) dX12_goes_22 rfl rfl ?_
        refine bz_iconst (v := 0) (pc := 23) dX12_goes_23 (by decide) ?_
        refine bz_kIV (as := [.inl 0]) (st := []) (ci := 12) (pc := 24) dX12_goes_24 sc_X12_finding ml_X12_73 im_X12_finding se_X12_finding rfl rfl rfl (by decide) hP (fun x_19 h_20 hP => ?_)
        exact bz_retI (pc := 27) dX12_goes_27 rfl rfl hP
theorem m_X12_goes {G : bz_G} {l : Launch} {d mc ms : Nat} {F : Option bz_V → bz_H → Prop} (a0 : Nat) (x1 : Int32) (x2 : Int32) (x3 : Int32) (h : bz_H) (hP : bz_rc h a0 12 (bz_cI G l d kX12_isRider [.inr (some a0), .inl x1] h 0 0 (fun x_1 h_2 => (x_1 = 0 → bz_rc h_2 a0 12 (bz_cI G l d kX12_finding [.inr (some a0), .inl 0] h_2 0 0 (fun x_3 h_4 => F (some (.inl x_3)) h_4))) ∧ (¬ (x_1 = 0) → bz_cI G l d kX12_isCrossing [.inl x2] h_2 0 0 (fun x_5 h_6 => (x_5 = 0 → bz_rc h_6 a0 12 (bz_cI G l d kX12_finding [.inr (some a0), .inl 0] h_6 0 0 (fun x_7 h_8 => F (some (.inl x_7)) h_8))) ∧ (¬ (x_5 = 0) → bz_cI G l d kX12_isCrossing [.inl x3] h_6 0 0 (fun x_9 h_10 => (¬ x_9 = 0 → bz_rc h_10 a0 12 (bz_cI G l d kX12_ofRider [.inr (some a0), .inl x1, .inl 0] h_10 0 0 (fun x_11 h_12 => bz_rc h_12 a0 12 (bz_cI G l d kX12_goesOf [.inr (some a0), .inl x_11, .inl x2, .inl x3] h_12 0 0 (fun x_13 h_14 => bz_rc h_14 a0 12 (bz_cI G l d kX12_wayOf [.inr (some a0), .inl x2, .inl x3] h_14 0 0 (fun x_15 h_16 => (0 ≤ x_15 → F (some (.inl x_13)) h_16) ∧ (¬ (0 ≤ x_15) → bz_rc h_16 a0 12 (bz_cI G l d kX12_finding [.inr (some a0), .inl 3] h_16 0 0 (fun x_17 h_18 => F (some (.inl x_17)) h_18)))))))))) ∧ (x_9 = 0 → bz_rc h_10 a0 12 (bz_cI G l d kX12_finding [.inr (some a0), .inl 0] h_10 0 0 (fun x_19 h_20 => F (some (.inl x_19)) h_20)))))))))) : bz_Call G l (d + 1) kX12_goes [.inr (some a0), .inl x1, .inl x2, .inl x3] h mc ms F :=
  bz_body (by decide) (by decide) (fun κ hl => g_X12_goes_0 hl a0 x1 x2 x3 h hP)
set_option maxRecDepth 20000 in
set_option maxHeartbeats 4000000 in
theorem g_X12_hinders_0 {G : bz_G} {κ : bz_K} {l : Launch} {d : Nat} {F : Option bz_V → bz_H → Prop} {bc bs : Nat} (hl : κ.2.1 = l) (a0 : Nat) (x1 : Int32) (x2 : Int32) (x3 : Int32) (h : bz_H) (hP : bz_rc h a0 12 (bz_cI G l d kX12_isRider [.inr (some a0), .inl x1] h 0 0 (fun x_1 h_2 => (x_1 = 0 → F (some (.inl 0)) h_2) ∧ (¬ (x_1 = 0) → bz_rc h_2 a0 12 (bz_cI G l d kX12_isOrder [.inr (some a0), .inl x2] h_2 0 0 (fun x_3 h_4 => (x_3 = 0 → F (some (.inl 0)) h_4) ∧ (¬ (x_3 = 0) → bz_rc h_4 a0 12 (bz_cI G l d kX12_isOrder [.inr (some a0), .inl x3] h_4 0 0 (fun x_5 h_6 => (x_5 = 0 → F (some (.inl 0)) h_6) ∧ (¬ (x_5 = 0) → (¬ x2 = x3 → bz_rc h_6 a0 12 (bz_cI G l d kX12_isWaiting [.inr (some a0), .inl x2] h_6 0 0 (fun x_7 h_8 => (x_7 = 0 → F (some (.inl 4)) h_8) ∧ (¬ (x_7 = 0) → bz_rc h_8 a0 12 (bz_cI G l d kX12_isWaiting [.inr (some a0), .inl x3] h_8 0 0 (fun x_9 h_10 => (¬ x_9 = 0 → bz_rc h_10 a0 12 (bz_cI G l d kX12_joins [.inr (some a0), .inl x1, .inl x2, .inl x3] h_10 0 0 (fun x_11 h_12 => F (some (.inl (if x_11 = 0 then 3 else (-1)))) h_12))) ∧ (x_9 = 0 → F (some (.inl 4)) h_10))))))) ∧ (x2 = x3 → F (some (.inl 0)) h_6))))))))))) : bz_J G κ kX12_hinders (d + 1) F bc bs 0 [some (.inr (some a0)), some (.inl x1), some (.inl x2), some (.inl x3)] [] h := by
  subst hl
  refine bz_aload_n (pc := 0) dX12_hinders_0 rfl rfl ?_
  refine bz_iload_n (pc := 1) dX12_hinders_1 rfl rfl ?_
  refine bz_kIV (as := [.inl x1]) (st := []) (ci := 12) (pc := 2) dX12_hinders_2 sc_X12_isRider ml_X12_139 im_X12_isRider se_X12_isRider rfl rfl rfl (by decide) hP (fun x_1 h_2 hP => ?_)
  refine bz_if_eq (tgt := 29) (pc := 5) dX12_hinders_5 (by decide) (fun c => ?_) (fun c => ?_)
  · have hP := hP.1 c
    refine bz_iconst (v := 0) (pc := 29) dX12_hinders_29 (by decide) ?_
    exact bz_retI (pc := 30) dX12_hinders_30 rfl rfl hP
  · have hP := hP.2 c
    refine bz_aload_n (pc := 8) dX12_hinders_8 rfl rfl ?_
    refine bz_iload_n (pc := 9) dX12_hinders_9 rfl rfl ?_
    refine bz_kIV (as := [.inl x2]) (st := []) (ci := 12) (pc := 10) dX12_hinders_10 sc_X12_isOrder ml_X12_117 im_X12_isOrder se_X12_isOrder rfl rfl rfl (by decide) hP (fun x_3 h_4 hP => ?_)
    refine bz_if_eq (tgt := 29) (pc := 13) dX12_hinders_13 (by decide) (fun c => ?_) (fun c => ?_)
    · have hP := hP.1 c
      refine bz_iconst (v := 0) (pc := 29) dX12_hinders_29 (by decide) ?_
      exact bz_retI (pc := 30) dX12_hinders_30 rfl rfl hP
    · have hP := hP.2 c
      refine bz_aload_n (pc := 16) dX12_hinders_16 rfl rfl ?_
      refine bz_iload_n (pc := 17) dX12_hinders_17 rfl rfl ?_
      refine bz_kIV (as := [.inl x3]) (st := []) (ci := 12) (pc := 18) dX12_hinders_18 sc_X12_isOrder ml_X12_117 im_X12_isOrder se_X12_isOrder rfl rfl rfl (by decide) hP (fun x_5 h_6 hP => ?_)
      refine bz_if_eq (tgt := 29) (pc := 21) dX12_hinders_21 (by decide) (fun c => ?_) (fun c => ?_)
      · have hP := hP.1 c
        refine bz_iconst (v := 0) (pc := 29) dX12_hinders_29 (by decide) ?_
        exact bz_retI (pc := 30) dX12_hinders_30 rfl rfl hP
      · have hP := hP.2 c
        refine bz_iload_n (pc := 24) dX12_hinders_24 rfl rfl ?_
        refine bz_iload_n (pc := 25) dX12_hinders_25 rfl rfl ?_
        refine bz_icmp_ne (tgt := 31) (pc := 26) dX12_hinders_26 (by decide) (fun c => ?_) (fun c => ?_)
        · have hP := hP.1 c
          refine bz_aload_n (pc := 31) dX12_hinders_31 rfl rfl ?_
          refine bz_iload_n (pc := 32) dX12_hinders_32 rfl rfl ?_
          refine bz_kIV (as := [.inl x2]) (st := []) (ci := 12) (pc := 33) dX12_hinders_33 sc_X12_isWaiting ml_X12_129 im_X12_isWaiting se_X12_isWaiting rfl rfl rfl (by decide) hP (fun x_7 h_8 hP => ?_)
          refine bz_if_eq (tgt := 47) (pc := 36) dX12_hinders_36 (by decide) (fun c => ?_) (fun c => ?_)
          · have hP := hP.1 c
            refine bz_iconst (v := 4) (pc := 47) dX12_hinders_47 (by decide) ?_
            refine bz_goto (tgt := 66) (pc := 48) dX12_hinders_48 (by decide) ?_
            exact bz_retI (pc := 66) dX12_hinders_66 rfl rfl hP
          · have hP := hP.2 c
            refine bz_aload_n (pc := 39) dX12_hinders_39 rfl rfl ?_
            refine bz_iload_n (pc := 40) dX12_hinders_40 rfl rfl ?_
            refine bz_kIV (as := [.inl x3]) (st := []) (ci := 12) (pc := 41) dX12_hinders_41 sc_X12_isWaiting ml_X12_129 im_X12_isWaiting se_X12_isWaiting rfl rfl rfl (by decide) hP (fun x_9 h_10 hP => ?_)
            refine bz_if_ne (tgt := 51) (pc := 44) dX12_hinders_44 (by decide) (fun c => ?_) (fun c => ?_)
            · have hP := hP.1 c
              refine bz_aload_n (pc := 51) dX12_hinders_51 rfl rfl ?_
              refine bz_iload_n (pc := 52) dX12_hinders_52 rfl rfl ?_
              refine bz_iload_n (pc := 53) dX12_hinders_53 rfl rfl ?_
              refine bz_iload_n (pc := 54) dX12_hinders_54 rfl rfl ?_
              refine bz_kIV (as := [.inl x1, .inl x2, .inl x3]) (st := []) (ci := 12) (pc := 55) dX12_hinders_55 sc_X12_joins ml_X12_209 im_X12_joins se_X12_joins rfl rfl rfl (by decide) hP (fun x_11 h_12 hP => ?_)
              have hJ : bz_J G κ kX12_hinders (d + 1) F bc bs 66 [some (.inr (some a0)), some (.inl x1), some (.inl x2), some (.inl x3)] [.inl (if x_11 = 0 then 3 else (-1))] h_12 := by
                exact bz_retI (pc := 66) dX12_hinders_66 rfl rfl hP
              refine bz_if_eq (tgt := 65) (pc := 58) dX12_hinders_58 (by decide) (fun c => ?_) (fun c => ?_)
              · have e9 : ((if x_11 = 0 then 3 else (-1)) : Int32) = (3) := if_pos c
                rw [e9] at hJ
                refine bz_iconst (v := 3) (pc := 65) dX12_hinders_65 (by decide) ?_
                exact hJ
              · have e9 : ((if x_11 = 0 then 3 else (-1)) : Int32) = ((-1)) := if_neg c
                rw [e9] at hJ
                refine bz_iconst (v := (-1)) (pc := 61) dX12_hinders_61 (by decide) ?_
                refine bz_goto (tgt := 66) (pc := 62) dX12_hinders_62 (by decide) ?_
                exact hJ
            · have hP := hP.2 c
              refine bz_iconst (v := 4) (pc := 47) dX12_hinders_47 (by decide) ?_
              refine bz_goto (tgt := 66) (pc := 48) dX12_hinders_48 (by decide) ?_
              exact bz_retI (pc := 66) dX12_hinders_66 rfl rfl hP
        · have hP := hP.2 c
          refine bz_iconst (v := 0) (pc := 29) dX12_hinders_29 (by decide) ?_
          exact bz_retI (pc := 30) dX12_hinders_30 rfl rfl hP
theorem m_X12_hinders {G : bz_G} {l : Launch} {d mc ms : Nat} {F : Option bz_V → bz_H → Prop} (a0 : Nat) (x1 : Int32) (x2 : Int32) (x3 : Int32) (h : bz_H) (hP : bz_rc h a0 12 (bz_cI G l d kX12_isRider [.inr (some a0), .inl x1] h 0 0 (fun x_1 h_2 => (x_1 = 0 → F (some (.inl 0)) h_2) ∧ (¬ (x_1 = 0) → bz_rc h_2 a0 12 (bz_cI G l d kX12_isOrder [.inr (some a0), .inl x2] h_2 0 0 (fun x_3 h_4 => (x_3 = 0 → F (some (.inl 0)) h_4) ∧ (¬ (x_3 = 0) → bz_rc h_4 a0 12 (bz_cI G l d kX12_isOrder [.inr (some a0), .inl x3] h_4 0 0 (fun x_5 h_6 => (x_5 = 0 → F (some (.inl 0)) h_6) ∧ (¬ (x_5 = 0) → (¬ x2 = x3 → bz_rc h_6 a0 12 (bz_cI G l d kX12_isWaiting [.inr (some a0), .inl x2] h_6 0 0 (fun x_7 h_8 => (x_7 = 0 → F (some (.inl 4)) h_8) ∧ (¬ (x_7 = 0) → bz_rc h_8 a0 12 (bz_cI G l d kX12_isWaiting [.inr (some a0), .inl x3] h_8 0 0 (fun x_9 h_10 => (¬ x_9 = 0 → bz_rc h_10 a0 12 (bz_cI G l d kX12_joins [.inr (some a0), .inl x1, .inl x2, .inl x3] h_10 0 0 (fun x_11 h_12 => F (some (.inl (if x_11 = 0 then 3 else (-1)))) h_12))) ∧ (x_9 = 0 → F (some (.inl 4)) h_10))))))) ∧ (x2 = x3 → F (some (.inl 0)) h_6))))))))))) : bz_Call G l (d + 1) kX12_hinders [.inr (some a0), .inl x1, .inl x2, .inl x3] h mc ms F :=
  bz_body (by decide) (by decide) (fun κ hl => g_X12_hinders_0 hl a0 x1 x2 x3 h hP)
set_option maxRecDepth 20000 in
set_option maxHeartbeats 4000000 in
theorem g_X12_hold_0 {G : bz_G} {κ : bz_K} {l : Launch} {d : Nat} {F : Option bz_V → bz_H → Prop} {bc bs : Nat} (hl : κ.2.1 = l) (a0 : Nat) (x1 : Int32) (x2 : Int32) (h : bz_H) (hP : bz_cI G l d kX12_isSpot [.inl x1] h 0 0 (fun x_1 h_2 => (x_1 = 0 → bz_rc h_2 a0 12 (bz_cI G l d kX12_finding [.inr (some a0), .inl 0] h_2 0 0 (fun x_3 h_4 => F (some (.inl x_3)) h_4))) ∧ (¬ (x_1 = 0) → (x2 = (-1) → bz_rR h_2 a0 12 0 (fun r_5 => bz_nn r_5 (fun a_6 => bz_wA h_2 a_6 (966 + x1) x2 (fun h_7 => F (some (.inl 1)) h_7)))) ∧ (¬ (x2 = (-1)) → bz_rc h_2 a0 12 (bz_cI G l d kX12_isRider [.inr (some a0), .inl x2] h_2 0 0 (fun x_8 h_9 => (¬ x_8 = 0 → bz_rR h_9 a0 12 0 (fun r_10 => bz_nn r_10 (fun a_11 => bz_wA h_9 a_11 (966 + x1) x2 (fun h_12 => F (some (.inl 1)) h_12)))) ∧ (x_8 = 0 → bz_rc h_9 a0 12 (bz_cI G l d kX12_finding [.inr (some a0), .inl 0] h_9 0 0 (fun x_13 h_14 => F (some (.inl x_13)) h_14))))))))) : bz_J G κ kX12_hold (d + 1) F bc bs 0 [some (.inr (some a0)), some (.inl x1), some (.inl x2)] [] h := by
  subst hl
  refine bz_iload_n (pc := 0) dX12_hold_0 rfl rfl ?_
  refine bz_kIS (as := [.inl x1]) (st := []) (pc := 1) dX12_hold_1 sc_X12_isSpot ml_X12_335 ss_X12_isSpot rfl (by decide) hP (fun x_1 h_2 hP => ?_)
  refine bz_if_eq (tgt := 20) (pc := 4) dX12_hold_4 (by decide) (fun c => ?_) (fun c => ?_)
  · have hP := hP.1 c
    refine bz_aload_n (pc := 20) dX12_hold_20 rfl rfl ?_
    refine bz_iconst (v := 0) (pc := 21) dX12_hold_21 (by decide) ?_
    refine bz_kIV (as := [.inl 0]) (st := []) (ci := 12) (pc := 22) dX12_hold_22 sc_X12_finding ml_X12_73 im_X12_finding se_X12_finding rfl rfl rfl (by decide) hP (fun x_3 h_4 hP => ?_)
    exact bz_retI (pc := 25) dX12_hold_25 rfl rfl hP
  · have hP := hP.2 c
    refine bz_iload_n (pc := 7) dX12_hold_7 rfl rfl ?_
    refine bz_iconst (v := (-1)) (pc := 8) dX12_hold_8 (by decide) ?_
    refine bz_icmp_eq (tgt := 26) (pc := 9) dX12_hold_9 (by decide) (fun c => ?_) (fun c => ?_)
    · have hP := hP.1 c
      refine bz_aload_n (pc := 26) dX12_hold_26 rfl rfl ?_
      refine bz_rw_rR (pc := 27) dX12_hold_27 fl_X12_7 hP (fun r_5 hP => ?_)
      refine bz_sipush (v := 966) (pc := 30) dX12_hold_30 (by decide) ?_
      refine bz_iload_n (pc := 33) dX12_hold_33 rfl rfl ?_
      refine bz_iadd (pc := 34) dX12_hold_34 ?_
      refine bz_iload_n (pc := 35) dX12_hold_35 rfl rfl ?_
      obtain ⟨a_6, rfl, hP⟩ := hP
      refine bz_rw_wA (pc := 36) dX12_hold_36 hP (fun h_7 hP => ?_)
      refine bz_iconst (v := 1) (pc := 37) dX12_hold_37 (by decide) ?_
      exact bz_retI (pc := 38) dX12_hold_38 rfl rfl hP
    · have hP := hP.2 c
      refine bz_aload_n (pc := 12) dX12_hold_12 rfl rfl ?_
      refine bz_iload_n (pc := 13) dX12_hold_13 rfl rfl ?_
      refine bz_kIV (as := [.inl x2]) (st := []) (ci := 12) (pc := 14) dX12_hold_14 sc_X12_isRider ml_X12_139 im_X12_isRider se_X12_isRider rfl rfl rfl (by decide) hP (fun x_8 h_9 hP => ?_)
      refine bz_if_ne (tgt := 26) (pc := 17) dX12_hold_17 (by decide) (fun c => ?_) (fun c => ?_)
      · have hP := hP.1 c
        refine bz_aload_n (pc := 26) dX12_hold_26 rfl rfl ?_
        refine bz_rw_rR (pc := 27) dX12_hold_27 fl_X12_7 hP (fun r_10 hP => ?_)
        refine bz_sipush (v := 966) (pc := 30) dX12_hold_30 (by decide) ?_
        refine bz_iload_n (pc := 33) dX12_hold_33 rfl rfl ?_
        refine bz_iadd (pc := 34) dX12_hold_34 ?_
        refine bz_iload_n (pc := 35) dX12_hold_35 rfl rfl ?_
        obtain ⟨a_11, rfl, hP⟩ := hP
        refine bz_rw_wA (pc := 36) dX12_hold_36 hP (fun h_12 hP => ?_)
        refine bz_iconst (v := 1) (pc := 37) dX12_hold_37 (by decide) ?_
        exact bz_retI (pc := 38) dX12_hold_38 rfl rfl hP
      · have hP := hP.2 c
        refine bz_aload_n (pc := 20) dX12_hold_20 rfl rfl ?_
        refine bz_iconst (v := 0) (pc := 21) dX12_hold_21 (by decide) ?_
        refine bz_kIV (as := [.inl 0]) (st := []) (ci := 12) (pc := 22) dX12_hold_22 sc_X12_finding ml_X12_73 im_X12_finding se_X12_finding rfl rfl rfl (by decide) hP (fun x_13 h_14 hP => ?_)
        exact bz_retI (pc := 25) dX12_hold_25 rfl rfl hP
theorem m_X12_hold {G : bz_G} {l : Launch} {d mc ms : Nat} {F : Option bz_V → bz_H → Prop} (a0 : Nat) (x1 : Int32) (x2 : Int32) (h : bz_H) (hP : bz_cI G l d kX12_isSpot [.inl x1] h 0 0 (fun x_1 h_2 => (x_1 = 0 → bz_rc h_2 a0 12 (bz_cI G l d kX12_finding [.inr (some a0), .inl 0] h_2 0 0 (fun x_3 h_4 => F (some (.inl x_3)) h_4))) ∧ (¬ (x_1 = 0) → (x2 = (-1) → bz_rR h_2 a0 12 0 (fun r_5 => bz_nn r_5 (fun a_6 => bz_wA h_2 a_6 (966 + x1) x2 (fun h_7 => F (some (.inl 1)) h_7)))) ∧ (¬ (x2 = (-1)) → bz_rc h_2 a0 12 (bz_cI G l d kX12_isRider [.inr (some a0), .inl x2] h_2 0 0 (fun x_8 h_9 => (¬ x_8 = 0 → bz_rR h_9 a0 12 0 (fun r_10 => bz_nn r_10 (fun a_11 => bz_wA h_9 a_11 (966 + x1) x2 (fun h_12 => F (some (.inl 1)) h_12)))) ∧ (x_8 = 0 → bz_rc h_9 a0 12 (bz_cI G l d kX12_finding [.inr (some a0), .inl 0] h_9 0 0 (fun x_13 h_14 => F (some (.inl x_13)) h_14))))))))) : bz_Call G l (d + 1) kX12_hold [.inr (some a0), .inl x1, .inl x2] h mc ms F :=
  bz_body (by decide) (by decide) (fun κ hl => g_X12_hold_0 hl a0 x1 x2 h hP)
set_option maxRecDepth 20000 in
set_option maxHeartbeats 4000000 in
theorem g_X12_image_0 {G : bz_G} {κ : bz_K} {l : Launch} {d : Nat} {F : Option bz_V → bz_H → Prop} {bc bs : Nat} (hl : κ.2.1 = l) (a0 : Nat) (h : bz_H) (hP : bz_J G κ kX12_image (d + 1) F bc bs 2 [some (.inr (some a0)), some (.inl 0)] [] h) : bz_J G κ kX12_image (d + 1) F bc bs 0 [some (.inr (some a0)), none] [] h := by
  subst hl
  refine bz_iconst (v := 0) (pc := 0) dX12_image_0 (by decide) ?_
  refine bz_s_istore_n (pc := 1) dX12_image_1 rfl (by decide) [some (.inr (some a0)), some (.inl 0)] rfl ?_
  exact hP
set_option maxRecDepth 20000 in
set_option maxHeartbeats 4000000 in
theorem g_X12_image_2 {G : bz_G} {κ : bz_K} {l : Launch} {d : Nat} {F : Option bz_V → bz_H → Prop} {bc bs : Nat} (hl : κ.2.1 = l) (a0 : Nat) (x1 : Int32) (h : bz_H) (hP : (2296 ≤ x1 → bz_b 1 (bz_wI h a0 12 2 1 (fun h_1 => F (some (.inl 1)) h_1))) ∧ (¬ (2296 ≤ x1) → bz_rR h a0 12 1 (fun r_2 => bz_rR h a0 12 0 (fun r_3 => bz_nn r_3 (fun a_4 => bz_rA h a_4 x1 (fun x_5 => bz_nn r_2 (fun a_6 => bz_wA h a_6 x1 x_5 (fun h_7 => bz_J G κ kX12_image (d + 1) F bc bs 2 [some (.inr (some a0)), some (.inl (x1 + 1))] [] h_7)))))))) : bz_J G κ kX12_image (d + 1) F bc bs 2 [some (.inr (some a0)), some (.inl x1)] [] h := by
  subst hl
  refine bz_iload_n (pc := 2) dX12_image_2 rfl rfl ?_
  refine bz_sipush (v := 2296) (pc := 3) dX12_image_3 (by decide) ?_
  refine bz_icmp_ge (tgt := 27) (pc := 6) dX12_image_6 (by decide) (fun c => ?_) (fun c => ?_)
  · have hP := hP.1 c
    refine bz_aload_n (pc := 27) dX12_image_27 rfl rfl ?_
    refine bz_iconst (v := 1) (pc := 28) dX12_image_28 (by decide) ?_
    refine bz_rw_wZ (pc := 29) dX12_image_29 fl_X12_344 (fun q h9 => by cases h9; rfl) rfl hP (fun h_1 hP => ?_)
    refine bz_iconst (v := 1) (pc := 32) dX12_image_32 (by decide) ?_
    exact bz_retI (pc := 33) dX12_image_33 rfl rfl hP
  · have hP := hP.2 c
    refine bz_aload_n (pc := 9) dX12_image_9 rfl rfl ?_
    refine bz_rw_rR (pc := 10) dX12_image_10 fl_X12_13 hP (fun r_2 hP => ?_)
    refine bz_iload_n (pc := 13) dX12_image_13 rfl rfl ?_
    refine bz_aload_n (pc := 14) dX12_image_14 rfl rfl ?_
    refine bz_rw_rR (pc := 15) dX12_image_15 fl_X12_7 hP (fun r_3 hP => ?_)
    refine bz_iload_n (pc := 18) dX12_image_18 rfl rfl ?_
    obtain ⟨a_4, rfl, hP⟩ := hP
    refine bz_rw_rA (pc := 19) dX12_image_19 hP (fun x_5 hP => ?_)
    obtain ⟨a_6, rfl, hP⟩ := hP
    refine bz_rw_wA (pc := 20) dX12_image_20 hP (fun h_7 hP => ?_)
    refine bz_s_iinc (pc := 21) dX12_image_21 (by decide) rfl rfl [some (.inr (some a0)), some (.inl (x1 + 1))] rfl ?_
    refine bz_goto (tgt := 2) (pc := 24) dX12_image_24 (by decide) ?_
    exact hP
theorem m_X12_image {G : bz_G} {l : Launch} {d mc ms : Nat} {F : Option bz_V → bz_H → Prop} (a0 : Nat) (h : bz_H) (hP : ∀ (κ : bz_K) (bc bs : Nat), κ.2.1 = l → bz_J G κ kX12_image (d + 1) F bc bs 2 [some (.inr (some a0)), some (.inl 0)] [] h) : bz_Call G l (d + 1) kX12_image [.inr (some a0)] h mc ms F :=
  bz_body (by decide) (by decide) (fun κ hl => g_X12_image_0 hl a0 h (hP κ mc ms hl))
set_option maxRecDepth 20000 in
set_option maxHeartbeats 4000000 in
theorem g_X12_in_0 {G : bz_G} {κ : bz_K} {l : Launch} {d : Nat} {F : Option bz_V → bz_H → Prop} {bc bs : Nat} (hl : κ.2.1 = l) (x0 : Int32) (x1 : Int32) (x2 : Int32) (h : bz_H) (hP : F (some (.inl (if x0 < x1 then 0 else if x2 < x0 then 0 else 1))) h) : bz_J G κ kX12_in (d + 1) F bc bs 0 [some (.inl x0), some (.inl x1), some (.inl x2)] [] h := by
  subst hl
  refine bz_iload_n (pc := 0) dX12_in_0 rfl rfl ?_
  refine bz_iload_n (pc := 1) dX12_in_1 rfl rfl ?_
  have hJ : bz_J G κ kX12_in (d + 1) F bc bs 15 [some (.inl x0), some (.inl x1), some (.inl x2)] [.inl (if x0 < x1 then 0 else if x2 < x0 then 0 else 1)] h := by
    exact bz_retI (pc := 15) dX12_in_15 rfl (by (repeat' split) <;> rfl) hP
  refine bz_icmp_lt (tgt := 14) (pc := 2) dX12_in_2 (by decide) (fun c => ?_) (fun c => ?_)
  · have e9 : ((if x0 < x1 then 0 else if x2 < x0 then 0 else 1) : Int32) = (0) := if_pos c
    rw [e9] at hJ
    refine bz_iconst (v := 0) (pc := 14) dX12_in_14 (by decide) ?_
    exact hJ
  · have e9 : ((if x0 < x1 then 0 else if x2 < x0 then 0 else 1) : Int32) = (if x2 < x0 then 0 else 1) := if_neg c
    rw [e9] at hJ
    refine bz_iload_n (pc := 5) dX12_in_5 rfl rfl ?_
    refine bz_iload_n (pc := 6) dX12_in_6 rfl rfl ?_
    refine bz_icmp_gt (tgt := 14) (pc := 7) dX12_in_7 (by decide) (fun c => ?_) (fun c => ?_)
    · have e9 : ((if x2 < x0 then 0 else 1) : Int32) = (0) := if_pos c
      rw [e9] at hJ
      refine bz_iconst (v := 0) (pc := 14) dX12_in_14 (by decide) ?_
      exact hJ
    · have e9 : ((if x2 < x0 then 0 else 1) : Int32) = (1) := if_neg c
      rw [e9] at hJ
      refine bz_iconst (v := 1) (pc := 10) dX12_in_10 (by decide) ?_
      refine bz_goto (tgt := 15) (pc := 11) dX12_in_11 (by decide) ?_
      exact hJ
theorem m_X12_in {G : bz_G} {l : Launch} {d mc ms : Nat} {F : Option bz_V → bz_H → Prop} (x0 : Int32) (x1 : Int32) (x2 : Int32) (h : bz_H) (hP : F (some (.inl (if x0 < x1 then 0 else if x2 < x0 then 0 else 1))) h) : bz_Call G l (d + 1) kX12_in [.inl x0, .inl x1, .inl x2] h mc ms F :=
  bz_body (by decide) (by decide) (fun κ hl => g_X12_in_0 hl x0 x1 x2 h hP)
set_option maxRecDepth 20000 in
set_option maxHeartbeats 4000000 in
theorem g_X12_isCrossing_0 {G : bz_G} {κ : bz_K} {l : Launch} {d : Nat} {F : Option bz_V → bz_H → Prop} {bc bs : Nat} (hl : κ.2.1 = l) (x0 : Int32) (h : bz_H) (hP : bz_cI G l d kX12_in [.inl x0, .inl 0, .inl 15] h 0 0 (fun x_1 h_2 => bz_b x_1 (F (some (.inl x_1)) h_2))) : bz_J G κ kX12_isCrossing (d + 1) F bc bs 0 [some (.inl x0)] [] h := by
  subst hl
  refine bz_iload_n (pc := 0) dX12_isCrossing_0 rfl rfl ?_
  refine bz_iconst (v := 0) (pc := 1) dX12_isCrossing_1 (by decide) ?_
  refine bz_bipush (v := 15) (pc := 2) dX12_isCrossing_2 (by decide) ?_
  refine bz_kIS (as := [.inl x0, .inl 0, .inl 15]) (st := []) (pc := 4) dX12_isCrossing_4 sc_X12_in ml_X12_65 ss_X12_in rfl (by decide) hP (fun x_1 h_2 hP => ?_)
  obtain ⟨hb, hP⟩ := hP
  exact bz_retI (pc := 7) dX12_isCrossing_7 rfl (by rcases hb with hb | hb <;> rw [hb] <;> rfl) hP
theorem m_X12_isCrossing {G : bz_G} {l : Launch} {d mc ms : Nat} {F : Option bz_V → bz_H → Prop} (x0 : Int32) (h : bz_H) (hP : bz_cI G l d kX12_in [.inl x0, .inl 0, .inl 15] h 0 0 (fun x_1 h_2 => bz_b x_1 (F (some (.inl x_1)) h_2))) : bz_Call G l (d + 1) kX12_isCrossing [.inl x0] h mc ms F :=
  bz_body (by decide) (by decide) (fun κ hl => g_X12_isCrossing_0 hl x0 h hP)
set_option maxRecDepth 20000 in
set_option maxHeartbeats 4000000 in
theorem g_X12_isDigit_0 {G : bz_G} {κ : bz_K} {l : Launch} {d : Nat} {F : Option bz_V → bz_H → Prop} {bc bs : Nat} (hl : κ.2.1 = l) (a0 : Nat) (x1 : Int32) (h : bz_H) (hP : bz_rI h a0 12 14 (fun x_1 => (x_1 ≤ x1 → F (some (.inl 0)) h) ∧ (¬ (x_1 ≤ x1) → bz_rR h a0 12 13 (fun r_2 => bz_nn r_2 (fun a_3 => bz_rA h a_3 x1 (fun x_4 => bz_cI G l d kX12_in [.inl x_4, .inl 48, .inl 57] h 0 0 (fun x_5 h_6 => F (some (.inl (if x_5 = 0 then 0 else 1))) h_6))))))) : bz_J G κ kX12_isDigit (d + 1) F bc bs 0 [some (.inr (some a0)), some (.inl x1)] [] h := by
  subst hl
  refine bz_iload_n (pc := 0) dX12_isDigit_0 rfl rfl ?_
  refine bz_aload_n (pc := 1) dX12_isDigit_1 rfl rfl ?_
  refine bz_rw_rI (pc := 2) dX12_isDigit_2 fl_X12_235 hP (fun x_1 hP => ?_)
  refine bz_icmp_ge (tgt := 28) (pc := 5) dX12_isDigit_5 (by decide) (fun c => ?_) (fun c => ?_)
  · have hP := hP.1 c
    refine bz_iconst (v := 0) (pc := 28) dX12_isDigit_28 (by decide) ?_
    exact bz_retI (pc := 29) dX12_isDigit_29 rfl rfl hP
  · have hP := hP.2 c
    refine bz_aload_n (pc := 8) dX12_isDigit_8 rfl rfl ?_
    refine bz_rw_rR (pc := 9) dX12_isDigit_9 fl_X12_28 hP (fun r_2 hP => ?_)
    refine bz_iload_n (pc := 12) dX12_isDigit_12 rfl rfl ?_
    obtain ⟨a_3, rfl, hP⟩ := hP
    refine bz_rw_rA (pc := 13) dX12_isDigit_13 hP (fun x_4 hP => ?_)
    refine bz_bipush (v := 48) (pc := 14) dX12_isDigit_14 (by decide) ?_
    refine bz_bipush (v := 57) (pc := 16) dX12_isDigit_16 (by decide) ?_
    refine bz_kIS (as := [.inl x_4, .inl 48, .inl 57]) (st := []) (pc := 18) dX12_isDigit_18 sc_X12_in ml_X12_65 ss_X12_in rfl (by decide) hP (fun x_5 h_6 hP => ?_)
    have hJ : bz_J G κ kX12_isDigit (d + 1) F bc bs 29 [some (.inr (some a0)), some (.inl x1)] [.inl (if x_5 = 0 then 0 else 1)] h_6 := by
      exact bz_retI (pc := 29) dX12_isDigit_29 rfl (by (repeat' split) <;> rfl) hP
    refine bz_if_eq (tgt := 28) (pc := 21) dX12_isDigit_21 (by decide) (fun c => ?_) (fun c => ?_)
    · have e9 : ((if x_5 = 0 then 0 else 1) : Int32) = (0) := if_pos c
      rw [e9] at hJ
      refine bz_iconst (v := 0) (pc := 28) dX12_isDigit_28 (by decide) ?_
      exact hJ
    · have e9 : ((if x_5 = 0 then 0 else 1) : Int32) = (1) := if_neg c
      rw [e9] at hJ
      refine bz_iconst (v := 1) (pc := 24) dX12_isDigit_24 (by decide) ?_
      refine bz_goto (tgt := 29) (pc := 25) dX12_isDigit_25 (by decide) ?_
      exact hJ
theorem m_X12_isDigit {G : bz_G} {l : Launch} {d mc ms : Nat} {F : Option bz_V → bz_H → Prop} (a0 : Nat) (x1 : Int32) (h : bz_H) (hP : bz_rI h a0 12 14 (fun x_1 => (x_1 ≤ x1 → F (some (.inl 0)) h) ∧ (¬ (x_1 ≤ x1) → bz_rR h a0 12 13 (fun r_2 => bz_nn r_2 (fun a_3 => bz_rA h a_3 x1 (fun x_4 => bz_cI G l d kX12_in [.inl x_4, .inl 48, .inl 57] h 0 0 (fun x_5 h_6 => F (some (.inl (if x_5 = 0 then 0 else 1))) h_6))))))) : bz_Call G l (d + 1) kX12_isDigit [.inr (some a0), .inl x1] h mc ms F :=
  bz_body (by decide) (by decide) (fun κ hl => g_X12_isDigit_0 hl a0 x1 h hP)
set_option maxRecDepth 20000 in
set_option maxHeartbeats 4000000 in
theorem g_X12_isDouble_0 {G : bz_G} {κ : bz_K} {l : Launch} {d : Nat} {F : Option bz_V → bz_H → Prop} {bc bs : Nat} (hl : κ.2.1 = l) (a0 : Nat) (x1 : Int32) (x2 : Int32) (h : bz_H) (hP : bz_rR h a0 12 0 (fun r_1 => bz_nn r_1 (fun a_2 => bz_rA h a_2 ((834 + (3 * x2)) + 2) (fun x_3 => bz_rR h a0 12 0 (fun r_4 => bz_nn r_4 (fun a_5 => bz_rA h a_5 ((834 + (3 * x1)) + 2) (fun x_6 => bz_J G κ kX12_isDouble (d + 1) F bc bs 42 [some (.inr (some a0)), some (.inl x1), some (.inl x2), some (.inl (834 + (3 * x1))), some (.inl (834 + (3 * x2))), none, none, none] [.inl (if x_6 ≤ x_3 then 0 else 1)] h))))))) : bz_J G κ kX12_isDouble (d + 1) F bc bs 0 [some (.inr (some a0)), some (.inl x1), some (.inl x2), none, none, none, none, none] [] h := by
  subst hl
  refine bz_sipush (v := 834) (pc := 0) dX12_isDouble_0 (by decide) ?_
  refine bz_iconst (v := 3) (pc := 3) dX12_isDouble_3 (by decide) ?_
  refine bz_iload_n (pc := 4) dX12_isDouble_4 rfl rfl ?_
  refine bz_imul (pc := 5) dX12_isDouble_5 ?_
  refine bz_iadd (pc := 6) dX12_isDouble_6 ?_
  refine bz_s_istore_n (pc := 7) dX12_isDouble_7 rfl (by decide) [some (.inr (some a0)), some (.inl x1), some (.inl x2), some (.inl (834 + (3 * x1))), none, none, none, none] rfl ?_
  refine bz_sipush (v := 834) (pc := 8) dX12_isDouble_8 (by decide) ?_
  refine bz_iconst (v := 3) (pc := 11) dX12_isDouble_11 (by decide) ?_
  refine bz_iload_n (pc := 12) dX12_isDouble_12 rfl rfl ?_
  refine bz_imul (pc := 13) dX12_isDouble_13 ?_
  refine bz_iadd (pc := 14) dX12_isDouble_14 ?_
  refine bz_s_istore (pc := 15) dX12_isDouble_15 (by decide) [some (.inr (some a0)), some (.inl x1), some (.inl x2), some (.inl (834 + (3 * x1))), some (.inl (834 + (3 * x2))), none, none, none] rfl ?_
  refine bz_aload_n (pc := 17) dX12_isDouble_17 rfl rfl ?_
  refine bz_rw_rR (pc := 18) dX12_isDouble_18 fl_X12_7 hP (fun r_1 hP => ?_)
  refine bz_iload (pc := 21) dX12_isDouble_21 rfl ?_
  refine bz_iconst (v := 2) (pc := 23) dX12_isDouble_23 (by decide) ?_
  refine bz_iadd (pc := 24) dX12_isDouble_24 ?_
  obtain ⟨a_2, rfl, hP⟩ := hP
  refine bz_rw_rA (pc := 25) dX12_isDouble_25 hP (fun x_3 hP => ?_)
  refine bz_aload_n (pc := 26) dX12_isDouble_26 rfl rfl ?_
  refine bz_rw_rR (pc := 27) dX12_isDouble_27 fl_X12_7 hP (fun r_4 hP => ?_)
  refine bz_iload_n (pc := 30) dX12_isDouble_30 rfl rfl ?_
  refine bz_iconst (v := 2) (pc := 31) dX12_isDouble_31 (by decide) ?_
  refine bz_iadd (pc := 32) dX12_isDouble_32 ?_
  obtain ⟨a_5, rfl, hP⟩ := hP
  refine bz_rw_rA (pc := 33) dX12_isDouble_33 hP (fun x_6 hP => ?_)
  have hJ : bz_J G κ kX12_isDouble (d + 1) F bc bs 42 [some (.inr (some a0)), some (.inl x1), some (.inl x2), some (.inl (834 + (3 * x1))), some (.inl (834 + (3 * x2))), none, none, none] [.inl (if x_6 ≤ x_3 then 0 else 1)] h := by
    exact hP
  refine bz_icmp_ge (tgt := 41) (pc := 34) dX12_isDouble_34 (by decide) (fun c => ?_) (fun c => ?_)
  · have e9 : ((if x_6 ≤ x_3 then 0 else 1) : Int32) = (0) := if_pos c
    rw [e9] at hJ
    refine bz_iconst (v := 0) (pc := 41) dX12_isDouble_41 (by decide) ?_
    exact hJ
  · have e9 : ((if x_6 ≤ x_3 then 0 else 1) : Int32) = (1) := if_neg c
    rw [e9] at hJ
    refine bz_iconst (v := 1) (pc := 37) dX12_isDouble_37 (by decide) ?_
    refine bz_goto (tgt := 42) (pc := 38) dX12_isDouble_38 (by decide) ?_
    exact hJ
set_option maxRecDepth 20000 in
set_option maxHeartbeats 4000000 in
theorem g_X12_isDouble_42 {G : bz_G} {κ : bz_K} {l : Launch} {d : Nat} {F : Option bz_V → bz_H → Prop} {bc bs : Nat} (hl : κ.2.1 = l) (a0 : Nat) (x1 : Int32) (x2 : Int32) (x3 : Int32) (x4 : Int32) (u5 : Option bz_V) (u6 : Option bz_V) (u7 : Option bz_V) (y0 : Int32) (h : bz_H) (hP : (y0 = 0 → bz_rR h a0 12 0 (fun r_7 => bz_nn r_7 (fun a_8 => bz_rA h a_8 (x3 + 1) (fun x_9 => bz_rR h a0 12 0 (fun r_10 => bz_nn r_10 (fun a_11 => bz_rA h a_11 (x4 + 1) (fun x_12 => bz_rc h a0 12 (bz_cI G l d kX12_wayOf [.inr (some a0), .inl x_9, .inl x_12] h 0 0 (fun x_13 h_14 => bz_J G κ kX12_isDouble (d + 1) F bc bs 94 [some (.inr (some a0)), some (.inl x1), some (.inl x2), some (.inl x3), some (.inl x4), some (.inl y0), u6, u7] [.inl x_13] h_14))))))))) ∧ (¬ (y0 = 0) → bz_rR h a0 12 0 (fun r_15 => bz_nn r_15 (fun a_16 => bz_rA h a_16 (x4 + 1) (fun x_17 => bz_rR h a0 12 0 (fun r_18 => bz_nn r_18 (fun a_19 => bz_rA h a_19 (x3 + 1) (fun x_20 => bz_rc h a0 12 (bz_cI G l d kX12_wayOf [.inr (some a0), .inl x_17, .inl x_20] h 0 0 (fun x_21 h_22 => bz_J G κ kX12_isDouble (d + 1) F bc bs 94 [some (.inr (some a0)), some (.inl x1), some (.inl x2), some (.inl x3), some (.inl x4), some (.inl y0), u6, u7] [.inl x_21] h_22)))))))))) : bz_J G κ kX12_isDouble (d + 1) F bc bs 42 [some (.inr (some a0)), some (.inl x1), some (.inl x2), some (.inl x3), some (.inl x4), u5, u6, u7] [.inl y0] h := by
  subst hl
  refine bz_s_istore (pc := 42) dX12_isDouble_42 (by decide) [some (.inr (some a0)), some (.inl x1), some (.inl x2), some (.inl x3), some (.inl x4), some (.inl y0), u6, u7] rfl ?_
  refine bz_iload (pc := 44) dX12_isDouble_44 rfl ?_
  refine bz_if_eq (tgt := 73) (pc := 46) dX12_isDouble_46 (by decide) (fun c => ?_) (fun c => ?_)
  · have hP := hP.1 c
    refine bz_aload_n (pc := 73) dX12_isDouble_73 rfl rfl ?_
    refine bz_aload_n (pc := 74) dX12_isDouble_74 rfl rfl ?_
    refine bz_rw_rR (pc := 75) dX12_isDouble_75 fl_X12_7 hP (fun r_7 hP => ?_)
    refine bz_iload_n (pc := 78) dX12_isDouble_78 rfl rfl ?_
    refine bz_iconst (v := 1) (pc := 79) dX12_isDouble_79 (by decide) ?_
    refine bz_iadd (pc := 80) dX12_isDouble_80 ?_
    obtain ⟨a_8, rfl, hP⟩ := hP
    refine bz_rw_rA (pc := 81) dX12_isDouble_81 hP (fun x_9 hP => ?_)
    refine bz_aload_n (pc := 82) dX12_isDouble_82 rfl rfl ?_
    refine bz_rw_rR (pc := 83) dX12_isDouble_83 fl_X12_7 hP (fun r_10 hP => ?_)
    refine bz_iload (pc := 86) dX12_isDouble_86 rfl ?_
    refine bz_iconst (v := 1) (pc := 88) dX12_isDouble_88 (by decide) ?_
    refine bz_iadd (pc := 89) dX12_isDouble_89 ?_
    obtain ⟨a_11, rfl, hP⟩ := hP
    refine bz_rw_rA (pc := 90) dX12_isDouble_90 hP (fun x_12 hP => ?_)
    refine bz_kIV (as := [.inl x_9, .inl x_12]) (st := []) (ci := 12) (pc := 91) dX12_isDouble_91 sc_X12_wayOf ml_X12_96 im_X12_wayOf se_X12_wayOf rfl rfl rfl (by decide) hP (fun x_13 h_14 hP => ?_)
    exact hP
  · have hP := hP.2 c
    refine bz_aload_n (pc := 49) dX12_isDouble_49 rfl rfl ?_
    refine bz_aload_n (pc := 50) dX12_isDouble_50 rfl rfl ?_
    refine bz_rw_rR (pc := 51) dX12_isDouble_51 fl_X12_7 hP (fun r_15 hP => ?_)
    refine bz_iload (pc := 54) dX12_isDouble_54 rfl ?_
    refine bz_iconst (v := 1) (pc := 56) dX12_isDouble_56 (by decide) ?_
    refine bz_iadd (pc := 57) dX12_isDouble_57 ?_
    obtain ⟨a_16, rfl, hP⟩ := hP
    refine bz_rw_rA (pc := 58) dX12_isDouble_58 hP (fun x_17 hP => ?_)
    refine bz_aload_n (pc := 59) dX12_isDouble_59 rfl rfl ?_
    refine bz_rw_rR (pc := 60) dX12_isDouble_60 fl_X12_7 hP (fun r_18 hP => ?_)
    refine bz_iload_n (pc := 63) dX12_isDouble_63 rfl rfl ?_
    refine bz_iconst (v := 1) (pc := 64) dX12_isDouble_64 (by decide) ?_
    refine bz_iadd (pc := 65) dX12_isDouble_65 ?_
    obtain ⟨a_19, rfl, hP⟩ := hP
    refine bz_rw_rA (pc := 66) dX12_isDouble_66 hP (fun x_20 hP => ?_)
    refine bz_kIV (as := [.inl x_17, .inl x_20]) (st := []) (ci := 12) (pc := 67) dX12_isDouble_67 sc_X12_wayOf ml_X12_96 im_X12_wayOf se_X12_wayOf rfl rfl rfl (by decide) hP (fun x_21 h_22 hP => ?_)
    refine bz_goto (tgt := 94) (pc := 70) dX12_isDouble_70 (by decide) ?_
    exact hP
set_option maxRecDepth 20000 in
set_option maxHeartbeats 4000000 in
theorem g_X12_isDouble_94 {G : bz_G} {κ : bz_K} {l : Launch} {d : Nat} {F : Option bz_V → bz_H → Prop} {bc bs : Nat} (hl : κ.2.1 = l) (a0 : Nat) (x1 : Int32) (x2 : Int32) (x3 : Int32) (x4 : Int32) (x5 : Int32) (u6 : Option bz_V) (u7 : Option bz_V) (y0 : Int32) (h : bz_H) (hP : (x5 = 0 → bz_rR h a0 12 0 (fun r_23 => bz_nn r_23 (fun a_24 => bz_rA h a_24 (x4 + 2) (fun x_25 => bz_rR h a0 12 0 (fun r_26 => bz_nn r_26 (fun a_27 => bz_rA h a_27 (x3 + 2) (fun x_28 => F (some (.inl (if y0 < 0 then 1 else if y0 ≤ (x_25 - x_28) then 0 else 1))) h))))))) ∧ (¬ (x5 = 0) → bz_rR h a0 12 0 (fun r_29 => bz_nn r_29 (fun a_30 => bz_rA h a_30 (x3 + 2) (fun x_31 => bz_rR h a0 12 0 (fun r_32 => bz_nn r_32 (fun a_33 => bz_rA h a_33 (x4 + 2) (fun x_34 => F (some (.inl (if y0 < 0 then 1 else if y0 ≤ (x_31 - x_34) then 0 else 1))) h)))))))) : bz_J G κ kX12_isDouble (d + 1) F bc bs 94 [some (.inr (some a0)), some (.inl x1), some (.inl x2), some (.inl x3), some (.inl x4), some (.inl x5), u6, u7] [.inl y0] h := by
  subst hl
  refine bz_s_istore (pc := 94) dX12_isDouble_94 (by decide) [some (.inr (some a0)), some (.inl x1), some (.inl x2), some (.inl x3), some (.inl x4), some (.inl x5), some (.inl y0), u7] rfl ?_
  refine bz_iload (pc := 96) dX12_isDouble_96 rfl ?_
  refine bz_if_eq (tgt := 122) (pc := 98) dX12_isDouble_98 (by decide) (fun c => ?_) (fun c => ?_)
  · have hP := hP.1 c
    refine bz_aload_n (pc := 122) dX12_isDouble_122 rfl rfl ?_
    refine bz_rw_rR (pc := 123) dX12_isDouble_123 fl_X12_7 hP (fun r_23 hP => ?_)
    refine bz_iload (pc := 126) dX12_isDouble_126 rfl ?_
    refine bz_iconst (v := 2) (pc := 128) dX12_isDouble_128 (by decide) ?_
    refine bz_iadd (pc := 129) dX12_isDouble_129 ?_
    obtain ⟨a_24, rfl, hP⟩ := hP
    refine bz_rw_rA (pc := 130) dX12_isDouble_130 hP (fun x_25 hP => ?_)
    refine bz_aload_n (pc := 131) dX12_isDouble_131 rfl rfl ?_
    refine bz_rw_rR (pc := 132) dX12_isDouble_132 fl_X12_7 hP (fun r_26 hP => ?_)
    refine bz_iload_n (pc := 135) dX12_isDouble_135 rfl rfl ?_
    refine bz_iconst (v := 2) (pc := 136) dX12_isDouble_136 (by decide) ?_
    refine bz_iadd (pc := 137) dX12_isDouble_137 ?_
    obtain ⟨a_27, rfl, hP⟩ := hP
    refine bz_rw_rA (pc := 138) dX12_isDouble_138 hP (fun x_28 hP => ?_)
    refine bz_isub (pc := 139) dX12_isDouble_139 ?_
    refine bz_s_istore (pc := 140) dX12_isDouble_140 (by decide) [some (.inr (some a0)), some (.inl x1), some (.inl x2), some (.inl x3), some (.inl x4), some (.inl x5), some (.inl y0), some (.inl (x_25 - x_28))] rfl ?_
    refine bz_iload (pc := 142) dX12_isDouble_142 rfl ?_
    have hJ : bz_J G κ kX12_isDouble (d + 1) F bc bs 159 [some (.inr (some a0)), some (.inl x1), some (.inl x2), some (.inl x3), some (.inl x4), some (.inl x5), some (.inl y0), some (.inl (x_25 - x_28))] [.inl (if y0 < 0 then 1 else if y0 ≤ (x_25 - x_28) then 0 else 1)] h := by
      exact bz_retI (pc := 159) dX12_isDouble_159 rfl (by (repeat' split) <;> rfl) hP
    refine bz_if_lt (tgt := 154) (pc := 144) dX12_isDouble_144 (by decide) (fun c => ?_) (fun c => ?_)
    · have e9 : ((if y0 < 0 then 1 else if y0 ≤ (x_25 - x_28) then 0 else 1) : Int32) = (1) := if_pos c
      rw [e9] at hJ
      refine bz_iconst (v := 1) (pc := 154) dX12_isDouble_154 (by decide) ?_
      refine bz_goto (tgt := 159) (pc := 155) dX12_isDouble_155 (by decide) ?_
      exact hJ
    · have e9 : ((if y0 < 0 then 1 else if y0 ≤ (x_25 - x_28) then 0 else 1) : Int32) = (if y0 ≤ (x_25 - x_28) then 0 else 1) := if_neg c
      rw [e9] at hJ
      refine bz_iload (pc := 147) dX12_isDouble_147 rfl ?_
      refine bz_iload (pc := 149) dX12_isDouble_149 rfl ?_
      refine bz_icmp_le (tgt := 158) (pc := 151) dX12_isDouble_151 (by decide) (fun c => ?_) (fun c => ?_)
      · have e9 : ((if y0 ≤ (x_25 - x_28) then 0 else 1) : Int32) = (0) := if_pos c
        rw [e9] at hJ
        refine bz_iconst (v := 0) (pc := 158) dX12_isDouble_158 (by decide) ?_
        exact hJ
      · have e9 : ((if y0 ≤ (x_25 - x_28) then 0 else 1) : Int32) = (1) := if_neg c
        rw [e9] at hJ
        refine bz_iconst (v := 1) (pc := 154) dX12_isDouble_154 (by decide) ?_
        refine bz_goto (tgt := 159) (pc := 155) dX12_isDouble_155 (by decide) ?_
        exact hJ
  · have hP := hP.2 c
    refine bz_aload_n (pc := 101) dX12_isDouble_101 rfl rfl ?_
    refine bz_rw_rR (pc := 102) dX12_isDouble_102 fl_X12_7 hP (fun r_29 hP => ?_)
    refine bz_iload_n (pc := 105) dX12_isDouble_105 rfl rfl ?_
    refine bz_iconst (v := 2) (pc := 106) dX12_isDouble_106 (by decide) ?_
    refine bz_iadd (pc := 107) dX12_isDouble_107 ?_
    obtain ⟨a_30, rfl, hP⟩ := hP
    refine bz_rw_rA (pc := 108) dX12_isDouble_108 hP (fun x_31 hP => ?_)
    refine bz_aload_n (pc := 109) dX12_isDouble_109 rfl rfl ?_
    refine bz_rw_rR (pc := 110) dX12_isDouble_110 fl_X12_7 hP (fun r_32 hP => ?_)
    refine bz_iload (pc := 113) dX12_isDouble_113 rfl ?_
    refine bz_iconst (v := 2) (pc := 115) dX12_isDouble_115 (by decide) ?_
    refine bz_iadd (pc := 116) dX12_isDouble_116 ?_
    obtain ⟨a_33, rfl, hP⟩ := hP
    refine bz_rw_rA (pc := 117) dX12_isDouble_117 hP (fun x_34 hP => ?_)
    refine bz_isub (pc := 118) dX12_isDouble_118 ?_
    refine bz_goto (tgt := 140) (pc := 119) dX12_isDouble_119 (by decide) ?_
    refine bz_s_istore (pc := 140) dX12_isDouble_140 (by decide) [some (.inr (some a0)), some (.inl x1), some (.inl x2), some (.inl x3), some (.inl x4), some (.inl x5), some (.inl y0), some (.inl (x_31 - x_34))] rfl ?_
    refine bz_iload (pc := 142) dX12_isDouble_142 rfl ?_
    have hJ : bz_J G κ kX12_isDouble (d + 1) F bc bs 159 [some (.inr (some a0)), some (.inl x1), some (.inl x2), some (.inl x3), some (.inl x4), some (.inl x5), some (.inl y0), some (.inl (x_31 - x_34))] [.inl (if y0 < 0 then 1 else if y0 ≤ (x_31 - x_34) then 0 else 1)] h := by
      exact bz_retI (pc := 159) dX12_isDouble_159 rfl (by (repeat' split) <;> rfl) hP
    refine bz_if_lt (tgt := 154) (pc := 144) dX12_isDouble_144 (by decide) (fun c => ?_) (fun c => ?_)
    · have e9 : ((if y0 < 0 then 1 else if y0 ≤ (x_31 - x_34) then 0 else 1) : Int32) = (1) := if_pos c
      rw [e9] at hJ
      refine bz_iconst (v := 1) (pc := 154) dX12_isDouble_154 (by decide) ?_
      refine bz_goto (tgt := 159) (pc := 155) dX12_isDouble_155 (by decide) ?_
      exact hJ
    · have e9 : ((if y0 < 0 then 1 else if y0 ≤ (x_31 - x_34) then 0 else 1) : Int32) = (if y0 ≤ (x_31 - x_34) then 0 else 1) := if_neg c
      rw [e9] at hJ
      refine bz_iload (pc := 147) dX12_isDouble_147 rfl ?_
      refine bz_iload (pc := 149) dX12_isDouble_149 rfl ?_
      refine bz_icmp_le (tgt := 158) (pc := 151) dX12_isDouble_151 (by decide) (fun c => ?_) (fun c => ?_)
      · have e9 : ((if y0 ≤ (x_31 - x_34) then 0 else 1) : Int32) = (0) := if_pos c
        rw [e9] at hJ
        refine bz_iconst (v := 0) (pc := 158) dX12_isDouble_158 (by decide) ?_
        exact hJ
      · have e9 : ((if y0 ≤ (x_31 - x_34) then 0 else 1) : Int32) = (1) := if_neg c
        rw [e9] at hJ
        refine bz_iconst (v := 1) (pc := 154) dX12_isDouble_154 (by decide) ?_
        refine bz_goto (tgt := 159) (pc := 155) dX12_isDouble_155 (by decide) ?_
        exact hJ
theorem m_X12_isDouble {G : bz_G} {l : Launch} {d mc ms : Nat} {F : Option bz_V → bz_H → Prop} (a0 : Nat) (x1 : Int32) (x2 : Int32) (h : bz_H) (hP : ∀ (κ : bz_K) (bc bs : Nat), κ.2.1 = l → bz_rR h a0 12 0 (fun r_1 => bz_nn r_1 (fun a_2 => bz_rA h a_2 ((834 + (3 * x2)) + 2) (fun x_3 => bz_rR h a0 12 0 (fun r_4 => bz_nn r_4 (fun a_5 => bz_rA h a_5 ((834 + (3 * x1)) + 2) (fun x_6 => bz_J G κ kX12_isDouble (d + 1) F bc bs 42 [some (.inr (some a0)), some (.inl x1), some (.inl x2), some (.inl (834 + (3 * x1))), some (.inl (834 + (3 * x2))), none, none, none] [.inl (if x_6 ≤ x_3 then 0 else 1)] h))))))) : bz_Call G l (d + 1) kX12_isDouble [.inr (some a0), .inl x1, .inl x2] h mc ms F :=
  bz_body (by decide) (by decide) (fun κ hl => g_X12_isDouble_0 hl a0 x1 x2 h (hP κ mc ms hl))
set_option maxRecDepth 20000 in
set_option maxHeartbeats 4000000 in
theorem g_X12_isElsewhere_0 {G : bz_G} {κ : bz_K} {l : Launch} {d : Nat} {F : Option bz_V → bz_H → Prop} {bc bs : Nat} (hl : κ.2.1 = l) (a0 : Nat) (x1 : Int32) (x2 : Int32) (h : bz_H) (hP : bz_J G κ kX12_isElsewhere (d + 1) F bc bs 15 [some (.inr (some a0)), some (.inl x1), some (.inl x2), some (.inl (726 + (9 * x1))), some (.inl 0), some (.inl 0)] [] h) : bz_J G κ kX12_isElsewhere (d + 1) F bc bs 0 [some (.inr (some a0)), some (.inl x1), some (.inl x2), none, none, none] [] h := by
  subst hl
  refine bz_sipush (v := 726) (pc := 0) dX12_isElsewhere_0 (by decide) ?_
  refine bz_bipush (v := 9) (pc := 3) dX12_isElsewhere_3 (by decide) ?_
  refine bz_iload_n (pc := 5) dX12_isElsewhere_5 rfl rfl ?_
  refine bz_imul (pc := 6) dX12_isElsewhere_6 ?_
  refine bz_iadd (pc := 7) dX12_isElsewhere_7 ?_
  refine bz_s_istore_n (pc := 8) dX12_isElsewhere_8 rfl (by decide) [some (.inr (some a0)), some (.inl x1), some (.inl x2), some (.inl (726 + (9 * x1))), none, none] rfl ?_
  refine bz_iconst (v := 0) (pc := 9) dX12_isElsewhere_9 (by decide) ?_
  refine bz_s_istore (pc := 10) dX12_isElsewhere_10 (by decide) [some (.inr (some a0)), some (.inl x1), some (.inl x2), some (.inl (726 + (9 * x1))), some (.inl 0), none] rfl ?_
  refine bz_iconst (v := 0) (pc := 12) dX12_isElsewhere_12 (by decide) ?_
  refine bz_s_istore (pc := 13) dX12_isElsewhere_13 (by decide) [some (.inr (some a0)), some (.inl x1), some (.inl x2), some (.inl (726 + (9 * x1))), some (.inl 0), some (.inl 0)] rfl ?_
  exact hP
set_option maxRecDepth 20000 in
set_option maxHeartbeats 4000000 in
theorem g_X12_isElsewhere_15 {G : bz_G} {κ : bz_K} {l : Launch} {d : Nat} {F : Option bz_V → bz_H → Prop} {bc bs : Nat} (hl : κ.2.1 = l) (a0 : Nat) (x1 : Int32) (x2 : Int32) (x3 : Int32) (x4 : Int32) (x5 : Int32) (h : bz_H) (hP : bz_rR h a0 12 0 (fun r_1 => bz_nn r_1 (fun a_2 => bz_rA h a_2 x3 (fun x_3 => (x_3 ≤ x5 → bz_b x4 (F (some (.inl x4)) h)) ∧ (¬ (x_3 ≤ x5) → (¬ x4 = 0 → bz_b x4 (F (some (.inl x4)) h)) ∧ (x4 = 0 → bz_rR h a0 12 0 (fun r_4 => bz_nn r_4 (fun a_5 => bz_rA h a_5 ((x3 + 1) + (2 * x5)) (fun x_6 => bz_rR h a0 12 0 (fun r_7 => bz_nn r_7 (fun a_8 => bz_rA h a_8 ((x3 + 2) + (2 * x5)) (fun x_9 => bz_cI G l d kX12_in [.inl x2, .inl x_6, .inl (x_9 - 1)] h 0 0 (fun x_10 h_11 => bz_J G κ kX12_isElsewhere (d + 1) F bc bs 15 [some (.inr (some a0)), some (.inl x1), some (.inl x2), some (.inl x3), some (.inl x_10), some (.inl (x5 + 1))] [] h_11))))))))))))) : bz_J G κ kX12_isElsewhere (d + 1) F bc bs 15 [some (.inr (some a0)), some (.inl x1), some (.inl x2), some (.inl x3), some (.inl x4), some (.inl x5)] [] h := by
  subst hl
  refine bz_iload (pc := 15) dX12_isElsewhere_15 rfl ?_
  refine bz_aload_n (pc := 17) dX12_isElsewhere_17 rfl rfl ?_
  refine bz_rw_rR (pc := 18) dX12_isElsewhere_18 fl_X12_7 hP (fun r_1 hP => ?_)
  refine bz_iload_n (pc := 21) dX12_isElsewhere_21 rfl rfl ?_
  obtain ⟨a_2, rfl, hP⟩ := hP
  refine bz_rw_rA (pc := 22) dX12_isElsewhere_22 hP (fun x_3 hP => ?_)
  refine bz_icmp_ge (tgt := 71) (pc := 23) dX12_isElsewhere_23 (by decide) (fun c => ?_) (fun c => ?_)
  · have hP := hP.1 c
    refine bz_iload (pc := 71) dX12_isElsewhere_71 rfl ?_
    obtain ⟨hb, hP⟩ := hP
    exact bz_retI (pc := 73) dX12_isElsewhere_73 rfl (by rcases hb with hb | hb <;> rw [hb] <;> rfl) hP
  · have hP := hP.2 c
    refine bz_iload (pc := 26) dX12_isElsewhere_26 rfl ?_
    refine bz_if_ne (tgt := 71) (pc := 28) dX12_isElsewhere_28 (by decide) (fun c => ?_) (fun c => ?_)
    · have hP := hP.1 c
      refine bz_iload (pc := 71) dX12_isElsewhere_71 rfl ?_
      obtain ⟨hb, hP⟩ := hP
      exact bz_retI (pc := 73) dX12_isElsewhere_73 rfl (by rcases hb with hb | hb <;> rw [hb] <;> rfl) hP
    · have hP := hP.2 c
      refine bz_iload_n (pc := 31) dX12_isElsewhere_31 rfl rfl ?_
      refine bz_aload_n (pc := 32) dX12_isElsewhere_32 rfl rfl ?_
      refine bz_rw_rR (pc := 33) dX12_isElsewhere_33 fl_X12_7 hP (fun r_4 hP => ?_)
      refine bz_iload_n (pc := 36) dX12_isElsewhere_36 rfl rfl ?_
      refine bz_iconst (v := 1) (pc := 37) dX12_isElsewhere_37 (by decide) ?_
      refine bz_iadd (pc := 38) dX12_isElsewhere_38 ?_
      refine bz_iconst (v := 2) (pc := 39) dX12_isElsewhere_39 (by decide) ?_
      refine bz_iload (pc := 40) dX12_isElsewhere_40 rfl ?_
      refine bz_imul (pc := 42) dX12_isElsewhere_42 ?_
      refine bz_iadd (pc := 43) dX12_isElsewhere_43 ?_
      obtain ⟨a_5, rfl, hP⟩ := hP
      refine bz_rw_rA (pc := 44) dX12_isElsewhere_44 hP (fun x_6 hP => ?_)
      refine bz_aload_n (pc := 45) dX12_isElsewhere_45 rfl rfl ?_
      refine bz_rw_rR (pc := 46) dX12_isElsewhere_46 fl_X12_7 hP (fun r_7 hP => ?_)
      refine bz_iload_n (pc := 49) dX12_isElsewhere_49 rfl rfl ?_
      refine bz_iconst (v := 2) (pc := 50) dX12_isElsewhere_50 (by decide) ?_
      refine bz_iadd (pc := 51) dX12_isElsewhere_51 ?_
      refine bz_iconst (v := 2) (pc := 52) dX12_isElsewhere_52 (by decide) ?_
      refine bz_iload (pc := 53) dX12_isElsewhere_53 rfl ?_
      refine bz_imul (pc := 55) dX12_isElsewhere_55 ?_
      refine bz_iadd (pc := 56) dX12_isElsewhere_56 ?_
      obtain ⟨a_8, rfl, hP⟩ := hP
      refine bz_rw_rA (pc := 57) dX12_isElsewhere_57 hP (fun x_9 hP => ?_)
      refine bz_iconst (v := 1) (pc := 58) dX12_isElsewhere_58 (by decide) ?_
      refine bz_isub (pc := 59) dX12_isElsewhere_59 ?_
      refine bz_kIS (as := [.inl x2, .inl x_6, .inl (x_9 - 1)]) (st := []) (pc := 60) dX12_isElsewhere_60 sc_X12_in ml_X12_65 ss_X12_in rfl (by decide) hP (fun x_10 h_11 hP => ?_)
      refine bz_s_istore (pc := 63) dX12_isElsewhere_63 (by decide) [some (.inr (some a0)), some (.inl x1), some (.inl x2), some (.inl x3), some (.inl x_10), some (.inl x5)] rfl ?_
      refine bz_s_iinc (pc := 65) dX12_isElsewhere_65 (by decide) rfl rfl [some (.inr (some a0)), some (.inl x1), some (.inl x2), some (.inl x3), some (.inl x_10), some (.inl (x5 + 1))] rfl ?_
      refine bz_goto (tgt := 15) (pc := 68) dX12_isElsewhere_68 (by decide) ?_
      exact hP
theorem m_X12_isElsewhere {G : bz_G} {l : Launch} {d mc ms : Nat} {F : Option bz_V → bz_H → Prop} (a0 : Nat) (x1 : Int32) (x2 : Int32) (h : bz_H) (hP : ∀ (κ : bz_K) (bc bs : Nat), κ.2.1 = l → bz_J G κ kX12_isElsewhere (d + 1) F bc bs 15 [some (.inr (some a0)), some (.inl x1), some (.inl x2), some (.inl (726 + (9 * x1))), some (.inl 0), some (.inl 0)] [] h) : bz_Call G l (d + 1) kX12_isElsewhere [.inr (some a0), .inl x1, .inl x2] h mc ms F :=
  bz_body (by decide) (by decide) (fun κ hl => g_X12_isElsewhere_0 hl a0 x1 x2 h (hP κ mc ms hl))
set_option maxRecDepth 20000 in
set_option maxHeartbeats 4000000 in
theorem g_X12_isGiven_0 {G : bz_G} {κ : bz_K} {l : Launch} {d : Nat} {F : Option bz_V → bz_H → Prop} {bc bs : Nat} (hl : κ.2.1 = l) (a0 : Nat) (x1 : Int32) (h : bz_H) (hP : bz_rc h a0 12 (bz_cI G l d kX12_ofOrder [.inr (some a0), .inl x1, .inl 5] h 0 0 (fun x_1 h_2 => F (some (.inl (if x_1 = 1 then 1 else 0))) h_2))) : bz_J G κ kX12_isGiven (d + 1) F bc bs 0 [some (.inr (some a0)), some (.inl x1)] [] h := by
  subst hl
  refine bz_aload_n (pc := 0) dX12_isGiven_0 rfl rfl ?_
  refine bz_iload_n (pc := 1) dX12_isGiven_1 rfl rfl ?_
  refine bz_iconst (v := 5) (pc := 2) dX12_isGiven_2 (by decide) ?_
  refine bz_kIV (as := [.inl x1, .inl 5]) (st := []) (ci := 12) (pc := 3) dX12_isGiven_3 sc_X12_ofOrder ml_X12_99 im_X12_ofOrder se_X12_ofOrder rfl rfl rfl (by decide) hP (fun x_1 h_2 hP => ?_)
  refine bz_iconst (v := 1) (pc := 6) dX12_isGiven_6 (by decide) ?_
  have hJ : bz_J G κ kX12_isGiven (d + 1) F bc bs 15 [some (.inr (some a0)), some (.inl x1)] [.inl (if x_1 = 1 then 1 else 0)] h_2 := by
    exact bz_retI (pc := 15) dX12_isGiven_15 rfl (by (repeat' split) <;> rfl) hP
  refine bz_icmp_ne (tgt := 14) (pc := 7) dX12_isGiven_7 (by decide) (fun c => ?_) (fun c => ?_)
  · have e9 : ((if x_1 = 1 then 1 else 0) : Int32) = (0) := if_neg c
    rw [e9] at hJ
    refine bz_iconst (v := 0) (pc := 14) dX12_isGiven_14 (by decide) ?_
    exact hJ
  · have e9 : ((if x_1 = 1 then 1 else 0) : Int32) = (1) := if_pos c
    rw [e9] at hJ
    refine bz_iconst (v := 1) (pc := 10) dX12_isGiven_10 (by decide) ?_
    refine bz_goto (tgt := 15) (pc := 11) dX12_isGiven_11 (by decide) ?_
    exact hJ
theorem m_X12_isGiven {G : bz_G} {l : Launch} {d mc ms : Nat} {F : Option bz_V → bz_H → Prop} (a0 : Nat) (x1 : Int32) (h : bz_H) (hP : bz_rc h a0 12 (bz_cI G l d kX12_ofOrder [.inr (some a0), .inl x1, .inl 5] h 0 0 (fun x_1 h_2 => F (some (.inl (if x_1 = 1 then 1 else 0))) h_2))) : bz_Call G l (d + 1) kX12_isGiven [.inr (some a0), .inl x1] h mc ms F :=
  bz_body (by decide) (by decide) (fun κ hl => g_X12_isGiven_0 hl a0 x1 h hP)
set_option maxRecDepth 20000 in
set_option maxHeartbeats 4000000 in
theorem g_X12_isHis_0 {G : bz_G} {κ : bz_K} {l : Launch} {d : Nat} {F : Option bz_V → bz_H → Prop} {bc bs : Nat} (hl : κ.2.1 = l) (a0 : Nat) (x1 : Int32) (x2 : Int32) (h : bz_H) (hP : bz_rc h a0 12 (bz_cI G l d kX12_isGiven [.inr (some a0), .inl x2] h 0 0 (fun x_1 h_2 => (x_1 = 0 → F (some (.inl 0)) h_2) ∧ (¬ (x_1 = 0) → bz_rc h_2 a0 12 (bz_cI G l d kX12_ofOrder [.inr (some a0), .inl x2, .inl 6] h_2 0 0 (fun x_3 h_4 => F (some (.inl (if x_3 = x1 then 1 else 0))) h_4)))))) : bz_J G κ kX12_isHis (d + 1) F bc bs 0 [some (.inr (some a0)), some (.inl x1), some (.inl x2)] [] h := by
  subst hl
  refine bz_aload_n (pc := 0) dX12_isHis_0 rfl rfl ?_
  refine bz_iload_n (pc := 1) dX12_isHis_1 rfl rfl ?_
  refine bz_kIV (as := [.inl x2]) (st := []) (ci := 12) (pc := 2) dX12_isHis_2 sc_X12_isGiven ml_X12_120 im_X12_isGiven se_X12_isGiven rfl rfl rfl (by decide) hP (fun x_1 h_2 hP => ?_)
  refine bz_if_eq (tgt := 23) (pc := 5) dX12_isHis_5 (by decide) (fun c => ?_) (fun c => ?_)
  · have hP := hP.1 c
    refine bz_iconst (v := 0) (pc := 23) dX12_isHis_23 (by decide) ?_
    exact bz_retI (pc := 24) dX12_isHis_24 rfl rfl hP
  · have hP := hP.2 c
    refine bz_aload_n (pc := 8) dX12_isHis_8 rfl rfl ?_
    refine bz_iload_n (pc := 9) dX12_isHis_9 rfl rfl ?_
    refine bz_bipush (v := 6) (pc := 10) dX12_isHis_10 (by decide) ?_
    refine bz_kIV (as := [.inl x2, .inl 6]) (st := []) (ci := 12) (pc := 12) dX12_isHis_12 sc_X12_ofOrder ml_X12_99 im_X12_ofOrder se_X12_ofOrder rfl rfl rfl (by decide) hP (fun x_3 h_4 hP => ?_)
    refine bz_iload_n (pc := 15) dX12_isHis_15 rfl rfl ?_
    have hJ : bz_J G κ kX12_isHis (d + 1) F bc bs 24 [some (.inr (some a0)), some (.inl x1), some (.inl x2)] [.inl (if x_3 = x1 then 1 else 0)] h_4 := by
      exact bz_retI (pc := 24) dX12_isHis_24 rfl (by (repeat' split) <;> rfl) hP
    refine bz_icmp_ne (tgt := 23) (pc := 16) dX12_isHis_16 (by decide) (fun c => ?_) (fun c => ?_)
    · have e9 : ((if x_3 = x1 then 1 else 0) : Int32) = (0) := if_neg c
      rw [e9] at hJ
      refine bz_iconst (v := 0) (pc := 23) dX12_isHis_23 (by decide) ?_
      exact hJ
    · have e9 : ((if x_3 = x1 then 1 else 0) : Int32) = (1) := if_pos c
      rw [e9] at hJ
      refine bz_iconst (v := 1) (pc := 19) dX12_isHis_19 (by decide) ?_
      refine bz_goto (tgt := 24) (pc := 20) dX12_isHis_20 (by decide) ?_
      exact hJ
theorem m_X12_isHis {G : bz_G} {l : Launch} {d mc ms : Nat} {F : Option bz_V → bz_H → Prop} (a0 : Nat) (x1 : Int32) (x2 : Int32) (h : bz_H) (hP : bz_rc h a0 12 (bz_cI G l d kX12_isGiven [.inr (some a0), .inl x2] h 0 0 (fun x_1 h_2 => (x_1 = 0 → F (some (.inl 0)) h_2) ∧ (¬ (x_1 = 0) → bz_rc h_2 a0 12 (bz_cI G l d kX12_ofOrder [.inr (some a0), .inl x2, .inl 6] h_2 0 0 (fun x_3 h_4 => F (some (.inl (if x_3 = x1 then 1 else 0))) h_4)))))) : bz_Call G l (d + 1) kX12_isHis [.inr (some a0), .inl x1, .inl x2] h mc ms F :=
  bz_body (by decide) (by decide) (fun κ hl => g_X12_isHis_0 hl a0 x1 x2 h hP)
set_option maxRecDepth 20000 in
set_option maxHeartbeats 4000000 in
theorem g_X12_isMinute_0 {G : bz_G} {κ : bz_K} {l : Launch} {d : Nat} {F : Option bz_V → bz_H → Prop} {bc bs : Nat} (hl : κ.2.1 = l) (x0 : Int32) (h : bz_H) (hP : bz_cI G l d kX12_in [.inl x0, .inl 0, .inl 1439] h 0 0 (fun x_1 h_2 => bz_b x_1 (F (some (.inl x_1)) h_2))) : bz_J G κ kX12_isMinute (d + 1) F bc bs 0 [some (.inl x0)] [] h := by
  subst hl
  refine bz_iload_n (pc := 0) dX12_isMinute_0 rfl rfl ?_
  refine bz_iconst (v := 0) (pc := 1) dX12_isMinute_1 (by decide) ?_
  refine bz_sipush (v := 1439) (pc := 2) dX12_isMinute_2 (by decide) ?_
  refine bz_kIS (as := [.inl x0, .inl 0, .inl 1439]) (st := []) (pc := 5) dX12_isMinute_5 sc_X12_in ml_X12_65 ss_X12_in rfl (by decide) hP (fun x_1 h_2 hP => ?_)
  obtain ⟨hb, hP⟩ := hP
  exact bz_retI (pc := 8) dX12_isMinute_8 rfl (by rcases hb with hb | hb <;> rw [hb] <;> rfl) hP
theorem m_X12_isMinute {G : bz_G} {l : Launch} {d mc ms : Nat} {F : Option bz_V → bz_H → Prop} (x0 : Int32) (h : bz_H) (hP : bz_cI G l d kX12_in [.inl x0, .inl 0, .inl 1439] h 0 0 (fun x_1 h_2 => bz_b x_1 (F (some (.inl x_1)) h_2))) : bz_Call G l (d + 1) kX12_isMinute [.inl x0] h mc ms F :=
  bz_body (by decide) (by decide) (fun κ hl => g_X12_isMinute_0 hl x0 h hP)
set_option maxRecDepth 20000 in
set_option maxHeartbeats 4000000 in
theorem g_X12_isName_0 {G : bz_G} {κ : bz_K} {l : Launch} {d : Nat} {F : Option bz_V → bz_H → Prop} {bc bs : Nat} (hl : κ.2.1 = l) (x0 : Int32) (h : bz_H) (hP : F (some (.inl (if x0 = 100 then 1 else if x0 = 119 then 1 else if x0 = 104 then 1 else if x0 = 114 then 1 else if x0 = 108 then 1 else if x0 = 99 then 1 else if x0 = 110 then 1 else 0))) h) : bz_J G κ kX12_isName (d + 1) F bc bs 0 [some (.inl x0)] [] h := by
  subst hl
  refine bz_iload_n (pc := 0) dX12_isName_0 rfl rfl ?_
  refine bz_bipush (v := 100) (pc := 1) dX12_isName_1 (by decide) ?_
  have hJ : bz_J G κ kX12_isName (d + 1) F bc bs 47 [some (.inl x0)] [.inl (if x0 = 100 then 1 else if x0 = 119 then 1 else if x0 = 104 then 1 else if x0 = 114 then 1 else if x0 = 108 then 1 else if x0 = 99 then 1 else if x0 = 110 then 1 else 0)] h := by
    exact bz_retI (pc := 47) dX12_isName_47 rfl (by (repeat' split) <;> rfl) hP
  refine bz_icmp_eq (tgt := 42) (pc := 3) dX12_isName_3 (by decide) (fun c => ?_) (fun c => ?_)
  · have e9 : ((if x0 = 100 then 1 else if x0 = 119 then 1 else if x0 = 104 then 1 else if x0 = 114 then 1 else if x0 = 108 then 1 else if x0 = 99 then 1 else if x0 = 110 then 1 else 0) : Int32) = (1) := if_pos c
    rw [e9] at hJ
    refine bz_iconst (v := 1) (pc := 42) dX12_isName_42 (by decide) ?_
    refine bz_goto (tgt := 47) (pc := 43) dX12_isName_43 (by decide) ?_
    exact hJ
  · have e9 : ((if x0 = 100 then 1 else if x0 = 119 then 1 else if x0 = 104 then 1 else if x0 = 114 then 1 else if x0 = 108 then 1 else if x0 = 99 then 1 else if x0 = 110 then 1 else 0) : Int32) = (if x0 = 119 then 1 else if x0 = 104 then 1 else if x0 = 114 then 1 else if x0 = 108 then 1 else if x0 = 99 then 1 else if x0 = 110 then 1 else 0) := if_neg c
    rw [e9] at hJ
    refine bz_iload_n (pc := 6) dX12_isName_6 rfl rfl ?_
    refine bz_bipush (v := 119) (pc := 7) dX12_isName_7 (by decide) ?_
    refine bz_icmp_eq (tgt := 42) (pc := 9) dX12_isName_9 (by decide) (fun c => ?_) (fun c => ?_)
    · have e9 : ((if x0 = 119 then 1 else if x0 = 104 then 1 else if x0 = 114 then 1 else if x0 = 108 then 1 else if x0 = 99 then 1 else if x0 = 110 then 1 else 0) : Int32) = (1) := if_pos c
      rw [e9] at hJ
      refine bz_iconst (v := 1) (pc := 42) dX12_isName_42 (by decide) ?_
      refine bz_goto (tgt := 47) (pc := 43) dX12_isName_43 (by decide) ?_
      exact hJ
    · have e9 : ((if x0 = 119 then 1 else if x0 = 104 then 1 else if x0 = 114 then 1 else if x0 = 108 then 1 else if x0 = 99 then 1 else if x0 = 110 then 1 else 0) : Int32) = (if x0 = 104 then 1 else if x0 = 114 then 1 else if x0 = 108 then 1 else if x0 = 99 then 1 else if x0 = 110 then 1 else 0) := if_neg c
      rw [e9] at hJ
      refine bz_iload_n (pc := 12) dX12_isName_12 rfl rfl ?_
      refine bz_bipush (v := 104) (pc := 13) dX12_isName_13 (by decide) ?_
      refine bz_icmp_eq (tgt := 42) (pc := 15) dX12_isName_15 (by decide) (fun c => ?_) (fun c => ?_)
      · have e9 : ((if x0 = 104 then 1 else if x0 = 114 then 1 else if x0 = 108 then 1 else if x0 = 99 then 1 else if x0 = 110 then 1 else 0) : Int32) = (1) := if_pos c
        rw [e9] at hJ
        refine bz_iconst (v := 1) (pc := 42) dX12_isName_42 (by decide) ?_
        refine bz_goto (tgt := 47) (pc := 43) dX12_isName_43 (by decide) ?_
        exact hJ
      · have e9 : ((if x0 = 104 then 1 else if x0 = 114 then 1 else if x0 = 108 then 1 else if x0 = 99 then 1 else if x0 = 110 then 1 else 0) : Int32) = (if x0 = 114 then 1 else if x0 = 108 then 1 else if x0 = 99 then 1 else if x0 = 110 then 1 else 0) := if_neg c
        rw [e9] at hJ
        refine bz_iload_n (pc := 18) dX12_isName_18 rfl rfl ?_
        refine bz_bipush (v := 114) (pc := 19) dX12_isName_19 (by decide) ?_
        refine bz_icmp_eq (tgt := 42) (pc := 21) dX12_isName_21 (by decide) (fun c => ?_) (fun c => ?_)
        · have e9 : ((if x0 = 114 then 1 else if x0 = 108 then 1 else if x0 = 99 then 1 else if x0 = 110 then 1 else 0) : Int32) = (1) := if_pos c
          rw [e9] at hJ
          refine bz_iconst (v := 1) (pc := 42) dX12_isName_42 (by decide) ?_
          refine bz_goto (tgt := 47) (pc := 43) dX12_isName_43 (by decide) ?_
          exact hJ
        · have e9 : ((if x0 = 114 then 1 else if x0 = 108 then 1 else if x0 = 99 then 1 else if x0 = 110 then 1 else 0) : Int32) = (if x0 = 108 then 1 else if x0 = 99 then 1 else if x0 = 110 then 1 else 0) := if_neg c
          rw [e9] at hJ
          refine bz_iload_n (pc := 24) dX12_isName_24 rfl rfl ?_
          refine bz_bipush (v := 108) (pc := 25) dX12_isName_25 (by decide) ?_
          refine bz_icmp_eq (tgt := 42) (pc := 27) dX12_isName_27 (by decide) (fun c => ?_) (fun c => ?_)
          · have e9 : ((if x0 = 108 then 1 else if x0 = 99 then 1 else if x0 = 110 then 1 else 0) : Int32) = (1) := if_pos c
            rw [e9] at hJ
            refine bz_iconst (v := 1) (pc := 42) dX12_isName_42 (by decide) ?_
            refine bz_goto (tgt := 47) (pc := 43) dX12_isName_43 (by decide) ?_
            exact hJ
          · have e9 : ((if x0 = 108 then 1 else if x0 = 99 then 1 else if x0 = 110 then 1 else 0) : Int32) = (if x0 = 99 then 1 else if x0 = 110 then 1 else 0) := if_neg c
            rw [e9] at hJ
            refine bz_iload_n (pc := 30) dX12_isName_30 rfl rfl ?_
            refine bz_bipush (v := 99) (pc := 31) dX12_isName_31 (by decide) ?_
            refine bz_icmp_eq (tgt := 42) (pc := 33) dX12_isName_33 (by decide) (fun c => ?_) (fun c => ?_)
            · have e9 : ((if x0 = 99 then 1 else if x0 = 110 then 1 else 0) : Int32) = (1) := if_pos c
              rw [e9] at hJ
              refine bz_iconst (v := 1) (pc := 42) dX12_isName_42 (by decide) ?_
              refine bz_goto (tgt := 47) (pc := 43) dX12_isName_43 (by decide) ?_
              exact hJ
            · have e9 : ((if x0 = 99 then 1 else if x0 = 110 then 1 else 0) : Int32) = (if x0 = 110 then 1 else 0) := if_neg c
              rw [e9] at hJ
              refine bz_iload_n (pc := 36) dX12_isName_36 rfl rfl ?_
              refine bz_bipush (v := 110) (pc := 37) dX12_isName_37 (by decide) ?_
              refine bz_icmp_ne (tgt := 46) (pc := 39) dX12_isName_39 (by decide) (fun c => ?_) (fun c => ?_)
              · have e9 : ((if x0 = 110 then 1 else 0) : Int32) = (0) := if_neg c
                rw [e9] at hJ
                refine bz_iconst (v := 0) (pc := 46) dX12_isName_46 (by decide) ?_
                exact hJ
              · have e9 : ((if x0 = 110 then 1 else 0) : Int32) = (1) := if_pos c
                rw [e9] at hJ
                refine bz_iconst (v := 1) (pc := 42) dX12_isName_42 (by decide) ?_
                refine bz_goto (tgt := 47) (pc := 43) dX12_isName_43 (by decide) ?_
                exact hJ
theorem m_X12_isName {G : bz_G} {l : Launch} {d mc ms : Nat} {F : Option bz_V → bz_H → Prop} (x0 : Int32) (h : bz_H) (hP : F (some (.inl (if x0 = 100 then 1 else if x0 = 119 then 1 else if x0 = 104 then 1 else if x0 = 114 then 1 else if x0 = 108 then 1 else if x0 = 99 then 1 else if x0 = 110 then 1 else 0))) h) : bz_Call G l (d + 1) kX12_isName [.inl x0] h mc ms F :=
  bz_body (by decide) (by decide) (fun κ hl => g_X12_isName_0 hl x0 h hP)
set_option maxRecDepth 20000 in
set_option maxHeartbeats 4000000 in
theorem g_X12_isOf_0 {G : bz_G} {κ : bz_K} {l : Launch} {d : Nat} {F : Option bz_V → bz_H → Prop} {bc bs : Nat} (hl : κ.2.1 = l) (x0 : Int32) (x1 : Int32) (h : bz_H) (hP : F (some (.inl (if x1 = 0 then 1 else if x0 = x1 then 1 else if x1 = 1 then if x0 = 4 then 1 else if x0 = 5 then 1 else if x1 = 3 then if x0 = 6 then 1 else 0 else 0 else if x1 = 3 then if x0 = 6 then 1 else 0 else 0))) h) : bz_J G κ kX12_isOf (d + 1) F bc bs 0 [some (.inl x0), some (.inl x1)] [] h := by
  subst hl
  refine bz_iload_n (pc := 0) dX12_isOf_0 rfl rfl ?_
  have hJ : bz_J G κ kX12_isOf (d + 1) F bc bs 40 [some (.inl x0), some (.inl x1)] [.inl (if x1 = 0 then 1 else if x0 = x1 then 1 else if x1 = 1 then if x0 = 4 then 1 else if x0 = 5 then 1 else if x1 = 3 then if x0 = 6 then 1 else 0 else 0 else if x1 = 3 then if x0 = 6 then 1 else 0 else 0)] h := by
    exact bz_retI (pc := 40) dX12_isOf_40 rfl (by (repeat' split) <;> rfl) hP
  refine bz_if_eq (tgt := 35) (pc := 1) dX12_isOf_1 (by decide) (fun c => ?_) (fun c => ?_)
  · have e9 : ((if x1 = 0 then 1 else if x0 = x1 then 1 else if x1 = 1 then if x0 = 4 then 1 else if x0 = 5 then 1 else if x1 = 3 then if x0 = 6 then 1 else 0 else 0 else if x1 = 3 then if x0 = 6 then 1 else 0 else 0) : Int32) = (1) := if_pos c
    rw [e9] at hJ
    refine bz_iconst (v := 1) (pc := 35) dX12_isOf_35 (by decide) ?_
    refine bz_goto (tgt := 40) (pc := 36) dX12_isOf_36 (by decide) ?_
    exact hJ
  · have e9 : ((if x1 = 0 then 1 else if x0 = x1 then 1 else if x1 = 1 then if x0 = 4 then 1 else if x0 = 5 then 1 else if x1 = 3 then if x0 = 6 then 1 else 0 else 0 else if x1 = 3 then if x0 = 6 then 1 else 0 else 0) : Int32) = (if x0 = x1 then 1 else if x1 = 1 then if x0 = 4 then 1 else if x0 = 5 then 1 else if x1 = 3 then if x0 = 6 then 1 else 0 else 0 else if x1 = 3 then if x0 = 6 then 1 else 0 else 0) := if_neg c
    rw [e9] at hJ
    refine bz_iload_n (pc := 4) dX12_isOf_4 rfl rfl ?_
    refine bz_iload_n (pc := 5) dX12_isOf_5 rfl rfl ?_
    refine bz_icmp_eq (tgt := 35) (pc := 6) dX12_isOf_6 (by decide) (fun c => ?_) (fun c => ?_)
    · have e9 : ((if x0 = x1 then 1 else if x1 = 1 then if x0 = 4 then 1 else if x0 = 5 then 1 else if x1 = 3 then if x0 = 6 then 1 else 0 else 0 else if x1 = 3 then if x0 = 6 then 1 else 0 else 0) : Int32) = (1) := if_pos c
      rw [e9] at hJ
      refine bz_iconst (v := 1) (pc := 35) dX12_isOf_35 (by decide) ?_
      refine bz_goto (tgt := 40) (pc := 36) dX12_isOf_36 (by decide) ?_
      exact hJ
    · have e9 : ((if x0 = x1 then 1 else if x1 = 1 then if x0 = 4 then 1 else if x0 = 5 then 1 else if x1 = 3 then if x0 = 6 then 1 else 0 else 0 else if x1 = 3 then if x0 = 6 then 1 else 0 else 0) : Int32) = (if x1 = 1 then if x0 = 4 then 1 else if x0 = 5 then 1 else if x1 = 3 then if x0 = 6 then 1 else 0 else 0 else if x1 = 3 then if x0 = 6 then 1 else 0 else 0) := if_neg c
      rw [e9] at hJ
      refine bz_iload_n (pc := 9) dX12_isOf_9 rfl rfl ?_
      refine bz_iconst (v := 1) (pc := 10) dX12_isOf_10 (by decide) ?_
      refine bz_icmp_ne (tgt := 24) (pc := 11) dX12_isOf_11 (by decide) (fun c => ?_) (fun c => ?_)
      · have e9 : ((if x1 = 1 then if x0 = 4 then 1 else if x0 = 5 then 1 else if x1 = 3 then if x0 = 6 then 1 else 0 else 0 else if x1 = 3 then if x0 = 6 then 1 else 0 else 0) : Int32) = (if x1 = 3 then if x0 = 6 then 1 else 0 else 0) := if_neg c
        rw [e9] at hJ
        refine bz_iload_n (pc := 24) dX12_isOf_24 rfl rfl ?_
        refine bz_iconst (v := 3) (pc := 25) dX12_isOf_25 (by decide) ?_
        refine bz_icmp_ne (tgt := 39) (pc := 26) dX12_isOf_26 (by decide) (fun c => ?_) (fun c => ?_)
        · have e9 : ((if x1 = 3 then if x0 = 6 then 1 else 0 else 0) : Int32) = (0) := if_neg c
          rw [e9] at hJ
          refine bz_iconst (v := 0) (pc := 39) dX12_isOf_39 (by decide) ?_
          exact hJ
        · have e9 : ((if x1 = 3 then if x0 = 6 then 1 else 0 else 0) : Int32) = (if x0 = 6 then 1 else 0) := if_pos c
          rw [e9] at hJ
          refine bz_iload_n (pc := 29) dX12_isOf_29 rfl rfl ?_
          refine bz_bipush (v := 6) (pc := 30) dX12_isOf_30 (by decide) ?_
          refine bz_icmp_ne (tgt := 39) (pc := 32) dX12_isOf_32 (by decide) (fun c => ?_) (fun c => ?_)
          · have e9 : ((if x0 = 6 then 1 else 0) : Int32) = (0) := if_neg c
            rw [e9] at hJ
            refine bz_iconst (v := 0) (pc := 39) dX12_isOf_39 (by decide) ?_
            exact hJ
          · have e9 : ((if x0 = 6 then 1 else 0) : Int32) = (1) := if_pos c
            rw [e9] at hJ
            refine bz_iconst (v := 1) (pc := 35) dX12_isOf_35 (by decide) ?_
            refine bz_goto (tgt := 40) (pc := 36) dX12_isOf_36 (by decide) ?_
            exact hJ
      · have e9 : ((if x1 = 1 then if x0 = 4 then 1 else if x0 = 5 then 1 else if x1 = 3 then if x0 = 6 then 1 else 0 else 0 else if x1 = 3 then if x0 = 6 then 1 else 0 else 0) : Int32) = (if x0 = 4 then 1 else if x0 = 5 then 1 else if x1 = 3 then if x0 = 6 then 1 else 0 else 0) := if_pos c
        rw [e9] at hJ
        refine bz_iload_n (pc := 14) dX12_isOf_14 rfl rfl ?_
        refine bz_iconst (v := 4) (pc := 15) dX12_isOf_15 (by decide) ?_
        refine bz_icmp_eq (tgt := 35) (pc := 16) dX12_isOf_16 (by decide) (fun c => ?_) (fun c => ?_)
        · have e9 : ((if x0 = 4 then 1 else if x0 = 5 then 1 else if x1 = 3 then if x0 = 6 then 1 else 0 else 0) : Int32) = (1) := if_pos c
          rw [e9] at hJ
          refine bz_iconst (v := 1) (pc := 35) dX12_isOf_35 (by decide) ?_
          refine bz_goto (tgt := 40) (pc := 36) dX12_isOf_36 (by decide) ?_
          exact hJ
        · have e9 : ((if x0 = 4 then 1 else if x0 = 5 then 1 else if x1 = 3 then if x0 = 6 then 1 else 0 else 0) : Int32) = (if x0 = 5 then 1 else if x1 = 3 then if x0 = 6 then 1 else 0 else 0) := if_neg c
          rw [e9] at hJ
          refine bz_iload_n (pc := 19) dX12_isOf_19 rfl rfl ?_
          refine bz_iconst (v := 5) (pc := 20) dX12_isOf_20 (by decide) ?_
          refine bz_icmp_eq (tgt := 35) (pc := 21) dX12_isOf_21 (by decide) (fun c => ?_) (fun c => ?_)
          · have e9 : ((if x0 = 5 then 1 else if x1 = 3 then if x0 = 6 then 1 else 0 else 0) : Int32) = (1) := if_pos c
            rw [e9] at hJ
            refine bz_iconst (v := 1) (pc := 35) dX12_isOf_35 (by decide) ?_
            refine bz_goto (tgt := 40) (pc := 36) dX12_isOf_36 (by decide) ?_
            exact hJ
          · have e9 : ((if x0 = 5 then 1 else if x1 = 3 then if x0 = 6 then 1 else 0 else 0) : Int32) = (if x1 = 3 then if x0 = 6 then 1 else 0 else 0) := if_neg c
            rw [e9] at hJ
            refine bz_iload_n (pc := 24) dX12_isOf_24 rfl rfl ?_
            refine bz_iconst (v := 3) (pc := 25) dX12_isOf_25 (by decide) ?_
            refine bz_icmp_ne (tgt := 39) (pc := 26) dX12_isOf_26 (by decide) (fun c => ?_) (fun c => ?_)
            · have e9 : ((if x1 = 3 then if x0 = 6 then 1 else 0 else 0) : Int32) = (0) := if_neg c
              rw [e9] at hJ
              refine bz_iconst (v := 0) (pc := 39) dX12_isOf_39 (by decide) ?_
              exact hJ
            · have e9 : ((if x1 = 3 then if x0 = 6 then 1 else 0 else 0) : Int32) = (if x0 = 6 then 1 else 0) := if_pos c
              rw [e9] at hJ
              refine bz_iload_n (pc := 29) dX12_isOf_29 rfl rfl ?_
              refine bz_bipush (v := 6) (pc := 30) dX12_isOf_30 (by decide) ?_
              refine bz_icmp_ne (tgt := 39) (pc := 32) dX12_isOf_32 (by decide) (fun c => ?_) (fun c => ?_)
              · have e9 : ((if x0 = 6 then 1 else 0) : Int32) = (0) := if_neg c
                rw [e9] at hJ
                refine bz_iconst (v := 0) (pc := 39) dX12_isOf_39 (by decide) ?_
                exact hJ
              · have e9 : ((if x0 = 6 then 1 else 0) : Int32) = (1) := if_pos c
                rw [e9] at hJ
                refine bz_iconst (v := 1) (pc := 35) dX12_isOf_35 (by decide) ?_
                refine bz_goto (tgt := 40) (pc := 36) dX12_isOf_36 (by decide) ?_
                exact hJ
theorem m_X12_isOf {G : bz_G} {l : Launch} {d mc ms : Nat} {F : Option bz_V → bz_H → Prop} (x0 : Int32) (x1 : Int32) (h : bz_H) (hP : F (some (.inl (if x1 = 0 then 1 else if x0 = x1 then 1 else if x1 = 1 then if x0 = 4 then 1 else if x0 = 5 then 1 else if x1 = 3 then if x0 = 6 then 1 else 0 else 0 else if x1 = 3 then if x0 = 6 then 1 else 0 else 0))) h) : bz_Call G l (d + 1) kX12_isOf [.inl x0, .inl x1] h mc ms F :=
  bz_body (by decide) (by decide) (fun κ hl => g_X12_isOf_0 hl x0 x1 h hP)
set_option maxRecDepth 20000 in
set_option maxHeartbeats 4000000 in
theorem g_X12_isOrder_0 {G : bz_G} {κ : bz_K} {l : Launch} {d : Nat} {F : Option bz_V → bz_H → Prop} {bc bs : Nat} (hl : κ.2.1 = l) (a0 : Nat) (x1 : Int32) (h : bz_H) (hP : bz_rR h a0 12 0 (fun r_1 => bz_nn r_1 (fun a_2 => bz_rA h a_2 2 (fun x_3 => bz_cI G l d kX12_in [.inl x1, .inl 0, .inl (x_3 - 1)] h 0 0 (fun x_4 h_5 => bz_b x_4 (F (some (.inl x_4)) h_5)))))) : bz_J G κ kX12_isOrder (d + 1) F bc bs 0 [some (.inr (some a0)), some (.inl x1)] [] h := by
  subst hl
  refine bz_iload_n (pc := 0) dX12_isOrder_0 rfl rfl ?_
  refine bz_iconst (v := 0) (pc := 1) dX12_isOrder_1 (by decide) ?_
  refine bz_aload_n (pc := 2) dX12_isOrder_2 rfl rfl ?_
  refine bz_rw_rR (pc := 3) dX12_isOrder_3 fl_X12_7 hP (fun r_1 hP => ?_)
  refine bz_iconst (v := 2) (pc := 6) dX12_isOrder_6 (by decide) ?_
  obtain ⟨a_2, rfl, hP⟩ := hP
  refine bz_rw_rA (pc := 7) dX12_isOrder_7 hP (fun x_3 hP => ?_)
  refine bz_iconst (v := 1) (pc := 8) dX12_isOrder_8 (by decide) ?_
  refine bz_isub (pc := 9) dX12_isOrder_9 ?_
  refine bz_kIS (as := [.inl x1, .inl 0, .inl (x_3 - 1)]) (st := []) (pc := 10) dX12_isOrder_10 sc_X12_in ml_X12_65 ss_X12_in rfl (by decide) hP (fun x_4 h_5 hP => ?_)
  obtain ⟨hb, hP⟩ := hP
  exact bz_retI (pc := 13) dX12_isOrder_13 rfl (by rcases hb with hb | hb <;> rw [hb] <;> rfl) hP
theorem m_X12_isOrder {G : bz_G} {l : Launch} {d mc ms : Nat} {F : Option bz_V → bz_H → Prop} (a0 : Nat) (x1 : Int32) (h : bz_H) (hP : bz_rR h a0 12 0 (fun r_1 => bz_nn r_1 (fun a_2 => bz_rA h a_2 2 (fun x_3 => bz_cI G l d kX12_in [.inl x1, .inl 0, .inl (x_3 - 1)] h 0 0 (fun x_4 h_5 => bz_b x_4 (F (some (.inl x_4)) h_5)))))) : bz_Call G l (d + 1) kX12_isOrder [.inr (some a0), .inl x1] h mc ms F :=
  bz_body (by decide) (by decide) (fun κ hl => g_X12_isOrder_0 hl a0 x1 h hP)
set_option maxRecDepth 20000 in
set_option maxHeartbeats 4000000 in
theorem g_X12_isRider_0 {G : bz_G} {κ : bz_K} {l : Launch} {d : Nat} {F : Option bz_V → bz_H → Prop} {bc bs : Nat} (hl : κ.2.1 = l) (a0 : Nat) (x1 : Int32) (h : bz_H) (hP : bz_rR h a0 12 0 (fun r_1 => bz_nn r_1 (fun a_2 => bz_rA h a_2 3 (fun x_3 => bz_cI G l d kX12_in [.inl x1, .inl 0, .inl (x_3 - 1)] h 0 0 (fun x_4 h_5 => bz_b x_4 (F (some (.inl x_4)) h_5)))))) : bz_J G κ kX12_isRider (d + 1) F bc bs 0 [some (.inr (some a0)), some (.inl x1)] [] h := by
  subst hl
  refine bz_iload_n (pc := 0) dX12_isRider_0 rfl rfl ?_
  refine bz_iconst (v := 0) (pc := 1) dX12_isRider_1 (by decide) ?_
  refine bz_aload_n (pc := 2) dX12_isRider_2 rfl rfl ?_
  refine bz_rw_rR (pc := 3) dX12_isRider_3 fl_X12_7 hP (fun r_1 hP => ?_)
  refine bz_iconst (v := 3) (pc := 6) dX12_isRider_6 (by decide) ?_
  obtain ⟨a_2, rfl, hP⟩ := hP
  refine bz_rw_rA (pc := 7) dX12_isRider_7 hP (fun x_3 hP => ?_)
  refine bz_iconst (v := 1) (pc := 8) dX12_isRider_8 (by decide) ?_
  refine bz_isub (pc := 9) dX12_isRider_9 ?_
  refine bz_kIS (as := [.inl x1, .inl 0, .inl (x_3 - 1)]) (st := []) (pc := 10) dX12_isRider_10 sc_X12_in ml_X12_65 ss_X12_in rfl (by decide) hP (fun x_4 h_5 hP => ?_)
  obtain ⟨hb, hP⟩ := hP
  exact bz_retI (pc := 13) dX12_isRider_13 rfl (by rcases hb with hb | hb <;> rw [hb] <;> rfl) hP
theorem m_X12_isRider {G : bz_G} {l : Launch} {d mc ms : Nat} {F : Option bz_V → bz_H → Prop} (a0 : Nat) (x1 : Int32) (h : bz_H) (hP : bz_rR h a0 12 0 (fun r_1 => bz_nn r_1 (fun a_2 => bz_rA h a_2 3 (fun x_3 => bz_cI G l d kX12_in [.inl x1, .inl 0, .inl (x_3 - 1)] h 0 0 (fun x_4 h_5 => bz_b x_4 (F (some (.inl x_4)) h_5)))))) : bz_Call G l (d + 1) kX12_isRider [.inr (some a0), .inl x1] h mc ms F :=
  bz_body (by decide) (by decide) (fun κ hl => g_X12_isRider_0 hl a0 x1 h hP)
set_option maxRecDepth 20000 in
set_option maxHeartbeats 4000000 in
theorem g_X12_isRoad_0 {G : bz_G} {κ : bz_K} {l : Launch} {d : Nat} {F : Option bz_V → bz_H → Prop} {bc bs : Nat} (hl : κ.2.1 = l) (x0 : Int32) (x1 : Int32) (x2 : Int32) (h : bz_H) (hP : bz_cI G l d kX12_isCrossing [.inl x0] h 0 0 (fun x_1 h_2 => (x_1 = 0 → F (some (.inl 0)) h_2) ∧ (¬ (x_1 = 0) → bz_cI G l d kX12_isCrossing [.inl x1] h_2 0 0 (fun x_3 h_4 => (x_3 = 0 → F (some (.inl 0)) h_4) ∧ (¬ (x_3 = 0) → (x0 = x1 → F (some (.inl 0)) h_4) ∧ (¬ (x0 = x1) → bz_cI G l d kX12_in [.inl x2, .inl 1, .inl 60] h_4 0 0 (fun x_5 h_6 => F (some (.inl (if x_5 = 0 then 0 else 1))) h_6))))))) : bz_J G κ kX12_isRoad (d + 1) F bc bs 0 [some (.inl x0), some (.inl x1), some (.inl x2)] [] h := by
  subst hl
  refine bz_iload_n (pc := 0) dX12_isRoad_0 rfl rfl ?_
  refine bz_kIS (as := [.inl x0]) (st := []) (pc := 1) dX12_isRoad_1 sc_X12_isCrossing ml_X12_69 ss_X12_isCrossing rfl (by decide) hP (fun x_1 h_2 hP => ?_)
  refine bz_if_eq (tgt := 33) (pc := 4) dX12_isRoad_4 (by decide) (fun c => ?_) (fun c => ?_)
  · have hP := hP.1 c
    refine bz_iconst (v := 0) (pc := 33) dX12_isRoad_33 (by decide) ?_
    exact bz_retI (pc := 34) dX12_isRoad_34 rfl rfl hP
  · have hP := hP.2 c
    refine bz_iload_n (pc := 7) dX12_isRoad_7 rfl rfl ?_
    refine bz_kIS (as := [.inl x1]) (st := []) (pc := 8) dX12_isRoad_8 sc_X12_isCrossing ml_X12_69 ss_X12_isCrossing rfl (by decide) hP (fun x_3 h_4 hP => ?_)
    refine bz_if_eq (tgt := 33) (pc := 11) dX12_isRoad_11 (by decide) (fun c => ?_) (fun c => ?_)
    · have hP := hP.1 c
      refine bz_iconst (v := 0) (pc := 33) dX12_isRoad_33 (by decide) ?_
      exact bz_retI (pc := 34) dX12_isRoad_34 rfl rfl hP
    · have hP := hP.2 c
      refine bz_iload_n (pc := 14) dX12_isRoad_14 rfl rfl ?_
      refine bz_iload_n (pc := 15) dX12_isRoad_15 rfl rfl ?_
      refine bz_icmp_eq (tgt := 33) (pc := 16) dX12_isRoad_16 (by decide) (fun c => ?_) (fun c => ?_)
      · have hP := hP.1 c
        refine bz_iconst (v := 0) (pc := 33) dX12_isRoad_33 (by decide) ?_
        exact bz_retI (pc := 34) dX12_isRoad_34 rfl rfl hP
      · have hP := hP.2 c
        refine bz_iload_n (pc := 19) dX12_isRoad_19 rfl rfl ?_
        refine bz_iconst (v := 1) (pc := 20) dX12_isRoad_20 (by decide) ?_
        refine bz_bipush (v := 60) (pc := 21) dX12_isRoad_21 (by decide) ?_
        refine bz_kIS (as := [.inl x2, .inl 1, .inl 60]) (st := []) (pc := 23) dX12_isRoad_23 sc_X12_in ml_X12_65 ss_X12_in rfl (by decide) hP (fun x_5 h_6 hP => ?_)
        have hJ : bz_J G κ kX12_isRoad (d + 1) F bc bs 34 [some (.inl x0), some (.inl x1), some (.inl x2)] [.inl (if x_5 = 0 then 0 else 1)] h_6 := by
          exact bz_retI (pc := 34) dX12_isRoad_34 rfl (by (repeat' split) <;> rfl) hP
        refine bz_if_eq (tgt := 33) (pc := 26) dX12_isRoad_26 (by decide) (fun c => ?_) (fun c => ?_)
        · have e9 : ((if x_5 = 0 then 0 else 1) : Int32) = (0) := if_pos c
          rw [e9] at hJ
          refine bz_iconst (v := 0) (pc := 33) dX12_isRoad_33 (by decide) ?_
          exact hJ
        · have e9 : ((if x_5 = 0 then 0 else 1) : Int32) = (1) := if_neg c
          rw [e9] at hJ
          refine bz_iconst (v := 1) (pc := 29) dX12_isRoad_29 (by decide) ?_
          refine bz_goto (tgt := 34) (pc := 30) dX12_isRoad_30 (by decide) ?_
          exact hJ
theorem m_X12_isRoad {G : bz_G} {l : Launch} {d mc ms : Nat} {F : Option bz_V → bz_H → Prop} (x0 : Int32) (x1 : Int32) (x2 : Int32) (h : bz_H) (hP : bz_cI G l d kX12_isCrossing [.inl x0] h 0 0 (fun x_1 h_2 => (x_1 = 0 → F (some (.inl 0)) h_2) ∧ (¬ (x_1 = 0) → bz_cI G l d kX12_isCrossing [.inl x1] h_2 0 0 (fun x_3 h_4 => (x_3 = 0 → F (some (.inl 0)) h_4) ∧ (¬ (x_3 = 0) → (x0 = x1 → F (some (.inl 0)) h_4) ∧ (¬ (x0 = x1) → bz_cI G l d kX12_in [.inl x2, .inl 1, .inl 60] h_4 0 0 (fun x_5 h_6 => F (some (.inl (if x_5 = 0 then 0 else 1))) h_6))))))) : bz_Call G l (d + 1) kX12_isRoad [.inl x0, .inl x1, .inl x2] h mc ms F :=
  bz_body (by decide) (by decide) (fun κ hl => g_X12_isRoad_0 hl x0 x1 x2 h hP)
set_option maxRecDepth 20000 in
set_option maxHeartbeats 4000000 in
theorem g_X12_isSheet_0 {G : bz_G} {κ : bz_K} {l : Launch} {d : Nat} {F : Option bz_V → bz_H → Prop} {bc bs : Nat} (hl : κ.2.1 = l) (x0 : Int32) (h : bz_H) (hP : bz_cI G l d kX12_in [.inl x0, .inl 0, .inl 3] h 0 0 (fun x_1 h_2 => bz_b x_1 (F (some (.inl x_1)) h_2))) : bz_J G κ kX12_isSheet (d + 1) F bc bs 0 [some (.inl x0)] [] h := by
  subst hl
  refine bz_iload_n (pc := 0) dX12_isSheet_0 rfl rfl ?_
  refine bz_iconst (v := 0) (pc := 1) dX12_isSheet_1 (by decide) ?_
  refine bz_iconst (v := 3) (pc := 2) dX12_isSheet_2 (by decide) ?_
  refine bz_kIS (as := [.inl x0, .inl 0, .inl 3]) (st := []) (pc := 3) dX12_isSheet_3 sc_X12_in ml_X12_65 ss_X12_in rfl (by decide) hP (fun x_1 h_2 hP => ?_)
  obtain ⟨hb, hP⟩ := hP
  exact bz_retI (pc := 6) dX12_isSheet_6 rfl (by rcases hb with hb | hb <;> rw [hb] <;> rfl) hP
theorem m_X12_isSheet {G : bz_G} {l : Launch} {d mc ms : Nat} {F : Option bz_V → bz_H → Prop} (x0 : Int32) (h : bz_H) (hP : bz_cI G l d kX12_in [.inl x0, .inl 0, .inl 3] h 0 0 (fun x_1 h_2 => bz_b x_1 (F (some (.inl x_1)) h_2))) : bz_Call G l (d + 1) kX12_isSheet [.inl x0] h mc ms F :=
  bz_body (by decide) (by decide) (fun κ hl => g_X12_isSheet_0 hl x0 h hP)
set_option maxRecDepth 20000 in
set_option maxHeartbeats 4000000 in
theorem g_X12_isSignByte_0 {G : bz_G} {κ : bz_K} {l : Launch} {d : Nat} {F : Option bz_V → bz_H → Prop} {bc bs : Nat} (hl : κ.2.1 = l) (x0 : Int32) (h : bz_H) (hP : (x0 = 43 → F (some (.inl 1)) h) ∧ (¬ (x0 = 43) → F (some (.inl (if x0 = 45 then 1 else if x0 = 42 then 1 else if x0 = 47 then 1 else if x0 = 40 then 1 else if x0 = 41 then 1 else if x0 = 60 then 1 else if x0 = 61 then 1 else 0))) h)) : bz_J G κ kX12_isSignByte (d + 1) F bc bs 0 [some (.inl x0)] [] h := by
  subst hl
  refine bz_iload_n (pc := 0) dX12_isSignByte_0 rfl rfl ?_
  refine bz_bipush (v := 43) (pc := 1) dX12_isSignByte_1 (by decide) ?_
  refine bz_icmp_eq (tgt := 48) (pc := 3) dX12_isSignByte_3 (by decide) (fun c => ?_) (fun c => ?_)
  · have hP := hP.1 c
    refine bz_iconst (v := 1) (pc := 48) dX12_isSignByte_48 (by decide) ?_
    refine bz_goto (tgt := 53) (pc := 49) dX12_isSignByte_49 (by decide) ?_
    exact bz_retI (pc := 53) dX12_isSignByte_53 rfl rfl hP
  · have hP := hP.2 c
    refine bz_iload_n (pc := 6) dX12_isSignByte_6 rfl rfl ?_
    refine bz_bipush (v := 45) (pc := 7) dX12_isSignByte_7 (by decide) ?_
    have hJ : bz_J G κ kX12_isSignByte (d + 1) F bc bs 53 [some (.inl x0)] [.inl (if x0 = 45 then 1 else if x0 = 42 then 1 else if x0 = 47 then 1 else if x0 = 40 then 1 else if x0 = 41 then 1 else if x0 = 60 then 1 else if x0 = 61 then 1 else 0)] h := by
      exact bz_retI (pc := 53) dX12_isSignByte_53 rfl (by (repeat' split) <;> rfl) hP
    refine bz_icmp_eq (tgt := 48) (pc := 9) dX12_isSignByte_9 (by decide) (fun c => ?_) (fun c => ?_)
    · have e9 : ((if x0 = 45 then 1 else if x0 = 42 then 1 else if x0 = 47 then 1 else if x0 = 40 then 1 else if x0 = 41 then 1 else if x0 = 60 then 1 else if x0 = 61 then 1 else 0) : Int32) = (1) := if_pos c
      rw [e9] at hJ
      refine bz_iconst (v := 1) (pc := 48) dX12_isSignByte_48 (by decide) ?_
      refine bz_goto (tgt := 53) (pc := 49) dX12_isSignByte_49 (by decide) ?_
      exact hJ
    · have e9 : ((if x0 = 45 then 1 else if x0 = 42 then 1 else if x0 = 47 then 1 else if x0 = 40 then 1 else if x0 = 41 then 1 else if x0 = 60 then 1 else if x0 = 61 then 1 else 0) : Int32) = (if x0 = 42 then 1 else if x0 = 47 then 1 else if x0 = 40 then 1 else if x0 = 41 then 1 else if x0 = 60 then 1 else if x0 = 61 then 1 else 0) := if_neg c
      rw [e9] at hJ
      refine bz_iload_n (pc := 12) dX12_isSignByte_12 rfl rfl ?_
      refine bz_bipush (v := 42) (pc := 13) dX12_isSignByte_13 (by decide) ?_
      refine bz_icmp_eq (tgt := 48) (pc := 15) dX12_isSignByte_15 (by decide) (fun c => ?_) (fun c => ?_)
      · have e9 : ((if x0 = 42 then 1 else if x0 = 47 then 1 else if x0 = 40 then 1 else if x0 = 41 then 1 else if x0 = 60 then 1 else if x0 = 61 then 1 else 0) : Int32) = (1) := if_pos c
        rw [e9] at hJ
        refine bz_iconst (v := 1) (pc := 48) dX12_isSignByte_48 (by decide) ?_
        refine bz_goto (tgt := 53) (pc := 49) dX12_isSignByte_49 (by decide) ?_
        exact hJ
      · have e9 : ((if x0 = 42 then 1 else if x0 = 47 then 1 else if x0 = 40 then 1 else if x0 = 41 then 1 else if x0 = 60 then 1 else if x0 = 61 then 1 else 0) : Int32) = (if x0 = 47 then 1 else if x0 = 40 then 1 else if x0 = 41 then 1 else if x0 = 60 then 1 else if x0 = 61 then 1 else 0) := if_neg c
        rw [e9] at hJ
        refine bz_iload_n (pc := 18) dX12_isSignByte_18 rfl rfl ?_
        refine bz_bipush (v := 47) (pc := 19) dX12_isSignByte_19 (by decide) ?_
        refine bz_icmp_eq (tgt := 48) (pc := 21) dX12_isSignByte_21 (by decide) (fun c => ?_) (fun c => ?_)
        · have e9 : ((if x0 = 47 then 1 else if x0 = 40 then 1 else if x0 = 41 then 1 else if x0 = 60 then 1 else if x0 = 61 then 1 else 0) : Int32) = (1) := if_pos c
          rw [e9] at hJ
          refine bz_iconst (v := 1) (pc := 48) dX12_isSignByte_48 (by decide) ?_
          refine bz_goto (tgt := 53) (pc := 49) dX12_isSignByte_49 (by decide) ?_
          exact hJ
        · have e9 : ((if x0 = 47 then 1 else if x0 = 40 then 1 else if x0 = 41 then 1 else if x0 = 60 then 1 else if x0 = 61 then 1 else 0) : Int32) = (if x0 = 40 then 1 else if x0 = 41 then 1 else if x0 = 60 then 1 else if x0 = 61 then 1 else 0) := if_neg c
          rw [e9] at hJ
          refine bz_iload_n (pc := 24) dX12_isSignByte_24 rfl rfl ?_
          refine bz_bipush (v := 40) (pc := 25) dX12_isSignByte_25 (by decide) ?_
          refine bz_icmp_eq (tgt := 48) (pc := 27) dX12_isSignByte_27 (by decide) (fun c => ?_) (fun c => ?_)
          · have e9 : ((if x0 = 40 then 1 else if x0 = 41 then 1 else if x0 = 60 then 1 else if x0 = 61 then 1 else 0) : Int32) = (1) := if_pos c
            rw [e9] at hJ
            refine bz_iconst (v := 1) (pc := 48) dX12_isSignByte_48 (by decide) ?_
            refine bz_goto (tgt := 53) (pc := 49) dX12_isSignByte_49 (by decide) ?_
            exact hJ
          · have e9 : ((if x0 = 40 then 1 else if x0 = 41 then 1 else if x0 = 60 then 1 else if x0 = 61 then 1 else 0) : Int32) = (if x0 = 41 then 1 else if x0 = 60 then 1 else if x0 = 61 then 1 else 0) := if_neg c
            rw [e9] at hJ
            refine bz_iload_n (pc := 30) dX12_isSignByte_30 rfl rfl ?_
            refine bz_bipush (v := 41) (pc := 31) dX12_isSignByte_31 (by decide) ?_
            refine bz_icmp_eq (tgt := 48) (pc := 33) dX12_isSignByte_33 (by decide) (fun c => ?_) (fun c => ?_)
            · have e9 : ((if x0 = 41 then 1 else if x0 = 60 then 1 else if x0 = 61 then 1 else 0) : Int32) = (1) := if_pos c
              rw [e9] at hJ
              refine bz_iconst (v := 1) (pc := 48) dX12_isSignByte_48 (by decide) ?_
              refine bz_goto (tgt := 53) (pc := 49) dX12_isSignByte_49 (by decide) ?_
              exact hJ
            · have e9 : ((if x0 = 41 then 1 else if x0 = 60 then 1 else if x0 = 61 then 1 else 0) : Int32) = (if x0 = 60 then 1 else if x0 = 61 then 1 else 0) := if_neg c
              rw [e9] at hJ
              refine bz_iload_n (pc := 36) dX12_isSignByte_36 rfl rfl ?_
              refine bz_bipush (v := 60) (pc := 37) dX12_isSignByte_37 (by decide) ?_
              refine bz_icmp_eq (tgt := 48) (pc := 39) dX12_isSignByte_39 (by decide) (fun c => ?_) (fun c => ?_)
              · have e9 : ((if x0 = 60 then 1 else if x0 = 61 then 1 else 0) : Int32) = (1) := if_pos c
                rw [e9] at hJ
                refine bz_iconst (v := 1) (pc := 48) dX12_isSignByte_48 (by decide) ?_
                refine bz_goto (tgt := 53) (pc := 49) dX12_isSignByte_49 (by decide) ?_
                exact hJ
              · have e9 : ((if x0 = 60 then 1 else if x0 = 61 then 1 else 0) : Int32) = (if x0 = 61 then 1 else 0) := if_neg c
                rw [e9] at hJ
                refine bz_iload_n (pc := 42) dX12_isSignByte_42 rfl rfl ?_
                refine bz_bipush (v := 61) (pc := 43) dX12_isSignByte_43 (by decide) ?_
                refine bz_icmp_ne (tgt := 52) (pc := 45) dX12_isSignByte_45 (by decide) (fun c => ?_) (fun c => ?_)
                · have e9 : ((if x0 = 61 then 1 else 0) : Int32) = (0) := if_neg c
                  rw [e9] at hJ
                  refine bz_iconst (v := 0) (pc := 52) dX12_isSignByte_52 (by decide) ?_
                  exact hJ
                · have e9 : ((if x0 = 61 then 1 else 0) : Int32) = (1) := if_pos c
                  rw [e9] at hJ
                  refine bz_iconst (v := 1) (pc := 48) dX12_isSignByte_48 (by decide) ?_
                  refine bz_goto (tgt := 53) (pc := 49) dX12_isSignByte_49 (by decide) ?_
                  exact hJ
theorem m_X12_isSignByte {G : bz_G} {l : Launch} {d mc ms : Nat} {F : Option bz_V → bz_H → Prop} (x0 : Int32) (h : bz_H) (hP : (x0 = 43 → F (some (.inl 1)) h) ∧ (¬ (x0 = 43) → F (some (.inl (if x0 = 45 then 1 else if x0 = 42 then 1 else if x0 = 47 then 1 else if x0 = 40 then 1 else if x0 = 41 then 1 else if x0 = 60 then 1 else if x0 = 61 then 1 else 0))) h)) : bz_Call G l (d + 1) kX12_isSignByte [.inl x0] h mc ms F :=
  bz_body (by decide) (by decide) (fun κ hl => g_X12_isSignByte_0 hl x0 h hP)
set_option maxRecDepth 20000 in
set_option maxHeartbeats 4000000 in
theorem g_X12_isSign_0 {G : bz_G} {κ : bz_K} {l : Launch} {d : Nat} {F : Option bz_V → bz_H → Prop} {bc bs : Nat} (hl : κ.2.1 = l) (a0 : Nat) (x1 : Int32) (h : bz_H) (hP : bz_rI h a0 12 15 (fun x_1 => (¬ x_1 = 3 → F (some (.inl 0)) h) ∧ (x_1 = 3 → bz_rI h a0 12 18 (fun x_2 => F (some (.inl (if x_2 = x1 then 1 else 0))) h)))) : bz_J G κ kX12_isSign (d + 1) F bc bs 0 [some (.inr (some a0)), some (.inl x1)] [] h := by
  subst hl
  refine bz_aload_n (pc := 0) dX12_isSign_0 rfl rfl ?_
  refine bz_rw_rI (pc := 1) dX12_isSign_1 fl_X12_244 hP (fun x_1 hP => ?_)
  refine bz_iconst (v := 3) (pc := 4) dX12_isSign_4 (by decide) ?_
  refine bz_icmp_ne (tgt := 20) (pc := 5) dX12_isSign_5 (by decide) (fun c => ?_) (fun c => ?_)
  · have hP := hP.1 c
    refine bz_iconst (v := 0) (pc := 20) dX12_isSign_20 (by decide) ?_
    exact bz_retI (pc := 21) dX12_isSign_21 rfl rfl hP
  · have hP := hP.2 c
    refine bz_aload_n (pc := 8) dX12_isSign_8 rfl rfl ?_
    refine bz_rw_rI (pc := 9) dX12_isSign_9 fl_X12_247 hP (fun x_2 hP => ?_)
    refine bz_iload_n (pc := 12) dX12_isSign_12 rfl rfl ?_
    have hJ : bz_J G κ kX12_isSign (d + 1) F bc bs 21 [some (.inr (some a0)), some (.inl x1)] [.inl (if x_2 = x1 then 1 else 0)] h := by
      exact bz_retI (pc := 21) dX12_isSign_21 rfl (by (repeat' split) <;> rfl) hP
    refine bz_icmp_ne (tgt := 20) (pc := 13) dX12_isSign_13 (by decide) (fun c => ?_) (fun c => ?_)
    · have e9 : ((if x_2 = x1 then 1 else 0) : Int32) = (0) := if_neg c
      rw [e9] at hJ
      refine bz_iconst (v := 0) (pc := 20) dX12_isSign_20 (by decide) ?_
      exact hJ
    · have e9 : ((if x_2 = x1 then 1 else 0) : Int32) = (1) := if_pos c
      rw [e9] at hJ
      refine bz_iconst (v := 1) (pc := 16) dX12_isSign_16 (by decide) ?_
      refine bz_goto (tgt := 21) (pc := 17) dX12_isSign_17 (by decide) ?_
      exact hJ
theorem m_X12_isSign {G : bz_G} {l : Launch} {d mc ms : Nat} {F : Option bz_V → bz_H → Prop} (a0 : Nat) (x1 : Int32) (h : bz_H) (hP : bz_rI h a0 12 15 (fun x_1 => (¬ x_1 = 3 → F (some (.inl 0)) h) ∧ (x_1 = 3 → bz_rI h a0 12 18 (fun x_2 => F (some (.inl (if x_2 = x1 then 1 else 0))) h)))) : bz_Call G l (d + 1) kX12_isSign [.inr (some a0), .inl x1] h mc ms F :=
  bz_body (by decide) (by decide) (fun κ hl => g_X12_isSign_0 hl a0 x1 h hP)
set_option maxRecDepth 20000 in
set_option maxHeartbeats 4000000 in
theorem g_X12_isSpot_0 {G : bz_G} {κ : bz_K} {l : Launch} {d : Nat} {F : Option bz_V → bz_H → Prop} {bc bs : Nat} (hl : κ.2.1 = l) (x0 : Int32) (h : bz_H) (hP : bz_cI G l d kX12_in [.inl x0, .inl 0, .inl 9] h 0 0 (fun x_1 h_2 => bz_b x_1 (F (some (.inl x_1)) h_2))) : bz_J G κ kX12_isSpot (d + 1) F bc bs 0 [some (.inl x0)] [] h := by
  subst hl
  refine bz_iload_n (pc := 0) dX12_isSpot_0 rfl rfl ?_
  refine bz_iconst (v := 0) (pc := 1) dX12_isSpot_1 (by decide) ?_
  refine bz_bipush (v := 9) (pc := 2) dX12_isSpot_2 (by decide) ?_
  refine bz_kIS (as := [.inl x0, .inl 0, .inl 9]) (st := []) (pc := 4) dX12_isSpot_4 sc_X12_in ml_X12_65 ss_X12_in rfl (by decide) hP (fun x_1 h_2 hP => ?_)
  obtain ⟨hb, hP⟩ := hP
  exact bz_retI (pc := 7) dX12_isSpot_7 rfl (by rcases hb with hb | hb <;> rw [hb] <;> rfl) hP
theorem m_X12_isSpot {G : bz_G} {l : Launch} {d mc ms : Nat} {F : Option bz_V → bz_H → Prop} (x0 : Int32) (h : bz_H) (hP : bz_cI G l d kX12_in [.inl x0, .inl 0, .inl 9] h 0 0 (fun x_1 h_2 => bz_b x_1 (F (some (.inl x_1)) h_2))) : bz_Call G l (d + 1) kX12_isSpot [.inl x0] h mc ms F :=
  bz_body (by decide) (by decide) (fun κ hl => g_X12_isSpot_0 hl x0 h hP)
set_option maxRecDepth 20000 in
set_option maxHeartbeats 4000000 in
theorem g_X12_isText_0 {G : bz_G} {κ : bz_K} {l : Launch} {d : Nat} {F : Option bz_V → bz_H → Prop} {bc bs : Nat} (hl : κ.2.1 = l) (a0 : Nat) (x1 : Int32) (h : bz_H) (hP : bz_rR h a0 12 0 (fun r_1 => bz_nn r_1 (fun a_2 => bz_rA h a_2 4 (fun x_3 => bz_cI G l d kX12_in [.inl x1, .inl 0, .inl (x_3 - 1)] h 0 0 (fun x_4 h_5 => bz_b x_4 (F (some (.inl x_4)) h_5)))))) : bz_J G κ kX12_isText (d + 1) F bc bs 0 [some (.inr (some a0)), some (.inl x1)] [] h := by
  subst hl
  refine bz_iload_n (pc := 0) dX12_isText_0 rfl rfl ?_
  refine bz_iconst (v := 0) (pc := 1) dX12_isText_1 (by decide) ?_
  refine bz_aload_n (pc := 2) dX12_isText_2 rfl rfl ?_
  refine bz_rw_rR (pc := 3) dX12_isText_3 fl_X12_7 hP (fun r_1 hP => ?_)
  refine bz_iconst (v := 4) (pc := 6) dX12_isText_6 (by decide) ?_
  obtain ⟨a_2, rfl, hP⟩ := hP
  refine bz_rw_rA (pc := 7) dX12_isText_7 hP (fun x_3 hP => ?_)
  refine bz_iconst (v := 1) (pc := 8) dX12_isText_8 (by decide) ?_
  refine bz_isub (pc := 9) dX12_isText_9 ?_
  refine bz_kIS (as := [.inl x1, .inl 0, .inl (x_3 - 1)]) (st := []) (pc := 10) dX12_isText_10 sc_X12_in ml_X12_65 ss_X12_in rfl (by decide) hP (fun x_4 h_5 hP => ?_)
  obtain ⟨hb, hP⟩ := hP
  exact bz_retI (pc := 13) dX12_isText_13 rfl (by rcases hb with hb | hb <;> rw [hb] <;> rfl) hP
theorem m_X12_isText {G : bz_G} {l : Launch} {d mc ms : Nat} {F : Option bz_V → bz_H → Prop} (a0 : Nat) (x1 : Int32) (h : bz_H) (hP : bz_rR h a0 12 0 (fun r_1 => bz_nn r_1 (fun a_2 => bz_rA h a_2 4 (fun x_3 => bz_cI G l d kX12_in [.inl x1, .inl 0, .inl (x_3 - 1)] h 0 0 (fun x_4 h_5 => bz_b x_4 (F (some (.inl x_4)) h_5)))))) : bz_Call G l (d + 1) kX12_isText [.inr (some a0), .inl x1] h mc ms F :=
  bz_body (by decide) (by decide) (fun κ hl => g_X12_isText_0 hl a0 x1 h hP)
set_option maxRecDepth 20000 in
set_option maxHeartbeats 4000000 in
theorem g_X12_isWaiting_0 {G : bz_G} {κ : bz_K} {l : Launch} {d : Nat} {F : Option bz_V → bz_H → Prop} {bc bs : Nat} (hl : κ.2.1 = l) (a0 : Nat) (x1 : Int32) (h : bz_H) (hP : bz_rc h a0 12 (bz_cI G l d kX12_ofOrder [.inr (some a0), .inl x1, .inl 5] h 0 0 (fun x_1 h_2 => F (some (.inl (if x_1 = 0 then 1 else 0))) h_2))) : bz_J G κ kX12_isWaiting (d + 1) F bc bs 0 [some (.inr (some a0)), some (.inl x1)] [] h := by
  subst hl
  refine bz_aload_n (pc := 0) dX12_isWaiting_0 rfl rfl ?_
  refine bz_iload_n (pc := 1) dX12_isWaiting_1 rfl rfl ?_
  refine bz_iconst (v := 5) (pc := 2) dX12_isWaiting_2 (by decide) ?_
  refine bz_kIV (as := [.inl x1, .inl 5]) (st := []) (ci := 12) (pc := 3) dX12_isWaiting_3 sc_X12_ofOrder ml_X12_99 im_X12_ofOrder se_X12_ofOrder rfl rfl rfl (by decide) hP (fun x_1 h_2 hP => ?_)
  have hJ : bz_J G κ kX12_isWaiting (d + 1) F bc bs 14 [some (.inr (some a0)), some (.inl x1)] [.inl (if x_1 = 0 then 1 else 0)] h_2 := by
    exact bz_retI (pc := 14) dX12_isWaiting_14 rfl (by (repeat' split) <;> rfl) hP
  refine bz_if_ne (tgt := 13) (pc := 6) dX12_isWaiting_6 (by decide) (fun c => ?_) (fun c => ?_)
  · have e9 : ((if x_1 = 0 then 1 else 0) : Int32) = (0) := if_neg c
    rw [e9] at hJ
    refine bz_iconst (v := 0) (pc := 13) dX12_isWaiting_13 (by decide) ?_
    exact hJ
  · have e9 : ((if x_1 = 0 then 1 else 0) : Int32) = (1) := if_pos c
    rw [e9] at hJ
    refine bz_iconst (v := 1) (pc := 9) dX12_isWaiting_9 (by decide) ?_
    refine bz_goto (tgt := 14) (pc := 10) dX12_isWaiting_10 (by decide) ?_
    exact hJ
theorem m_X12_isWaiting {G : bz_G} {l : Launch} {d mc ms : Nat} {F : Option bz_V → bz_H → Prop} (a0 : Nat) (x1 : Int32) (h : bz_H) (hP : bz_rc h a0 12 (bz_cI G l d kX12_ofOrder [.inr (some a0), .inl x1, .inl 5] h 0 0 (fun x_1 h_2 => F (some (.inl (if x_1 = 0 then 1 else 0))) h_2))) : bz_Call G l (d + 1) kX12_isWaiting [.inr (some a0), .inl x1] h mc ms F :=
  bz_body (by decide) (by decide) (fun κ hl => g_X12_isWaiting_0 hl a0 x1 h hP)
set_option maxRecDepth 20000 in
set_option maxHeartbeats 4000000 in
theorem g_X12_join_0 {G : bz_G} {κ : bz_K} {l : Launch} {d : Nat} {F : Option bz_V → bz_H → Prop} {bc bs : Nat} (hl : κ.2.1 = l) (a0 : Nat) (x1 : Int32) (x2 : Int32) (x3 : Int32) (x4 : Int32) (h : bz_H) (hP : bz_cI G l d kX12_in [.inl x4, .inl 0, .inl 4] h 0 0 (fun x_1 h_2 => (x_1 = 0 → bz_J G κ kX12_join (d + 1) F bc bs 21 [some (.inr (some a0)), some (.inl x1), some (.inl x2), some (.inl x3), some (.inl x4), none] [.inl 0] h_2) ∧ (¬ (x_1 = 0) → bz_rc h_2 a0 12 (bz_cI G l d kX12_hinders [.inr (some a0), .inl x1, .inl x2, .inl x3] h_2 0 0 (fun x_3 h_4 => bz_J G κ kX12_join (d + 1) F bc bs 21 [some (.inr (some a0)), some (.inl x1), some (.inl x2), some (.inl x3), some (.inl x4), none] [.inl x_3] h_4))))) : bz_J G κ kX12_join (d + 1) F bc bs 0 [some (.inr (some a0)), some (.inl x1), some (.inl x2), some (.inl x3), some (.inl x4), none] [] h := by
  subst hl
  refine bz_iload (pc := 0) dX12_join_0 rfl ?_
  refine bz_iconst (v := 0) (pc := 2) dX12_join_2 (by decide) ?_
  refine bz_iconst (v := 4) (pc := 3) dX12_join_3 (by decide) ?_
  refine bz_kIS (as := [.inl x4, .inl 0, .inl 4]) (st := []) (pc := 4) dX12_join_4 sc_X12_in ml_X12_65 ss_X12_in rfl (by decide) hP (fun x_1 h_2 hP => ?_)
  refine bz_if_eq (tgt := 20) (pc := 7) dX12_join_7 (by decide) (fun c => ?_) (fun c => ?_)
  · have hP := hP.1 c
    refine bz_iconst (v := 0) (pc := 20) dX12_join_20 (by decide) ?_
    exact hP
  · have hP := hP.2 c
    refine bz_aload_n (pc := 10) dX12_join_10 rfl rfl ?_
    refine bz_iload_n (pc := 11) dX12_join_11 rfl rfl ?_
    refine bz_iload_n (pc := 12) dX12_join_12 rfl rfl ?_
    refine bz_iload_n (pc := 13) dX12_join_13 rfl rfl ?_
    refine bz_kIV (as := [.inl x1, .inl x2, .inl x3]) (st := []) (ci := 12) (pc := 14) dX12_join_14 sc_X12_hinders ml_X12_212 im_X12_hinders se_X12_hinders rfl rfl rfl (by decide) hP (fun x_3 h_4 hP => ?_)
    refine bz_goto (tgt := 21) (pc := 17) dX12_join_17 (by decide) ?_
    exact hP
set_option maxRecDepth 20000 in
set_option maxHeartbeats 4000000 in
theorem g_X12_join_21 {G : bz_G} {κ : bz_K} {l : Launch} {d : Nat} {F : Option bz_V → bz_H → Prop} {bc bs : Nat} (hl : κ.2.1 = l) (a0 : Nat) (x1 : Int32) (x2 : Int32) (x3 : Int32) (x4 : Int32) (u5 : Option bz_V) (y0 : Int32) (h : bz_H) (hP : (y0 < 0 → (¬ x4 = 0 → (¬ x4 = 1 → (¬ x4 = 2 → bz_rR h a0 12 10 (fun r_5 => bz_nn r_5 (fun a_6 => bz_rA h a_6 (x4 - 3) (fun x_7 => F (some (.inl x_7)) h)))) ∧ (x4 = 2 → bz_rI h a0 12 7 (fun x_8 => F (some (.inl x_8)) h))) ∧ (x4 = 1 → bz_rI h a0 12 12 (fun x_9 => F (some (.inl x_9)) h))) ∧ (x4 = 0 → bz_rI h a0 12 11 (fun x_10 => F (some (.inl x_10)) h))) ∧ (¬ (y0 < 0) → bz_rc h a0 12 (bz_cI G l d kX12_finding [.inr (some a0), .inl y0] h 0 0 (fun x_11 h_12 => F (some (.inl x_11)) h_12)))) : bz_J G κ kX12_join (d + 1) F bc bs 21 [some (.inr (some a0)), some (.inl x1), some (.inl x2), some (.inl x3), some (.inl x4), u5] [.inl y0] h := by
  subst hl
  refine bz_s_istore (pc := 21) dX12_join_21 (by decide) [some (.inr (some a0)), some (.inl x1), some (.inl x2), some (.inl x3), some (.inl x4), some (.inl y0)] rfl ?_
  refine bz_iload (pc := 23) dX12_join_23 rfl ?_
  refine bz_if_lt (tgt := 35) (pc := 25) dX12_join_25 (by decide) (fun c => ?_) (fun c => ?_)
  · have hP := hP.1 c
    refine bz_iload (pc := 35) dX12_join_35 rfl ?_
    refine bz_if_ne (tgt := 47) (pc := 37) dX12_join_37 (by decide) (fun c => ?_) (fun c => ?_)
    · have hP := hP.1 c
      refine bz_iload (pc := 47) dX12_join_47 rfl ?_
      refine bz_iconst (v := 1) (pc := 49) dX12_join_49 (by decide) ?_
      refine bz_icmp_ne (tgt := 60) (pc := 50) dX12_join_50 (by decide) (fun c => ?_) (fun c => ?_)
      · have hP := hP.1 c
        refine bz_iload (pc := 60) dX12_join_60 rfl ?_
        refine bz_iconst (v := 2) (pc := 62) dX12_join_62 (by decide) ?_
        refine bz_icmp_ne (tgt := 73) (pc := 63) dX12_join_63 (by decide) (fun c => ?_) (fun c => ?_)
        · have hP := hP.1 c
          refine bz_aload_n (pc := 73) dX12_join_73 rfl rfl ?_
          refine bz_rw_rR (pc := 74) dX12_join_74 fl_X12_25 hP (fun r_5 hP => ?_)
          refine bz_iload (pc := 77) dX12_join_77 rfl ?_
          refine bz_iconst (v := 3) (pc := 79) dX12_join_79 (by decide) ?_
          refine bz_isub (pc := 80) dX12_join_80 ?_
          obtain ⟨a_6, rfl, hP⟩ := hP
          refine bz_rw_rA (pc := 81) dX12_join_81 hP (fun x_7 hP => ?_)
          exact bz_retI (pc := 82) dX12_join_82 rfl rfl hP
        · have hP := hP.2 c
          refine bz_aload_n (pc := 66) dX12_join_66 rfl rfl ?_
          refine bz_rw_rI (pc := 67) dX12_join_67 fl_X12_167 hP (fun x_8 hP => ?_)
          refine bz_goto (tgt := 82) (pc := 70) dX12_join_70 (by decide) ?_
          exact bz_retI (pc := 82) dX12_join_82 rfl rfl hP
      · have hP := hP.2 c
        refine bz_aload_n (pc := 53) dX12_join_53 rfl rfl ?_
        refine bz_rw_rI (pc := 54) dX12_join_54 fl_X12_206 hP (fun x_9 hP => ?_)
        refine bz_goto (tgt := 82) (pc := 57) dX12_join_57 (by decide) ?_
        exact bz_retI (pc := 82) dX12_join_82 rfl rfl hP
    · have hP := hP.2 c
      refine bz_aload_n (pc := 40) dX12_join_40 rfl rfl ?_
      refine bz_rw_rI (pc := 41) dX12_join_41 fl_X12_200 hP (fun x_10 hP => ?_)
      refine bz_goto (tgt := 82) (pc := 44) dX12_join_44 (by decide) ?_
      exact bz_retI (pc := 82) dX12_join_82 rfl rfl hP
  · have hP := hP.2 c
    refine bz_aload_n (pc := 28) dX12_join_28 rfl rfl ?_
    refine bz_iload (pc := 29) dX12_join_29 rfl ?_
    refine bz_kIV (as := [.inl y0]) (st := []) (ci := 12) (pc := 31) dX12_join_31 sc_X12_finding ml_X12_73 im_X12_finding se_X12_finding rfl rfl rfl (by decide) hP (fun x_11 h_12 hP => ?_)
    exact bz_retI (pc := 34) dX12_join_34 rfl rfl hP
theorem m_X12_join {G : bz_G} {l : Launch} {d mc ms : Nat} {F : Option bz_V → bz_H → Prop} (a0 : Nat) (x1 : Int32) (x2 : Int32) (x3 : Int32) (x4 : Int32) (h : bz_H) (hP : ∀ (κ : bz_K) (bc bs : Nat), κ.2.1 = l → bz_cI G l d kX12_in [.inl x4, .inl 0, .inl 4] h 0 0 (fun x_1 h_2 => (x_1 = 0 → bz_J G κ kX12_join (d + 1) F bc bs 21 [some (.inr (some a0)), some (.inl x1), some (.inl x2), some (.inl x3), some (.inl x4), none] [.inl 0] h_2) ∧ (¬ (x_1 = 0) → bz_rc h_2 a0 12 (bz_cI G l d kX12_hinders [.inr (some a0), .inl x1, .inl x2, .inl x3] h_2 0 0 (fun x_3 h_4 => bz_J G κ kX12_join (d + 1) F bc bs 21 [some (.inr (some a0)), some (.inl x1), some (.inl x2), some (.inl x3), some (.inl x4), none] [.inl x_3] h_4))))) : bz_Call G l (d + 1) kX12_join [.inr (some a0), .inl x1, .inl x2, .inl x3, .inl x4] h mc ms F :=
  bz_body (by decide) (by decide) (fun κ hl => g_X12_join_0 hl a0 x1 x2 x3 x4 h (hP κ mc ms hl))
set_option maxRecDepth 20000 in
set_option maxHeartbeats 4000000 in
theorem g_X12_joined_0 {G : bz_G} {κ : bz_K} {l : Launch} {d : Nat} {F : Option bz_V → bz_H → Prop} {bc bs : Nat} (hl : κ.2.1 = l) (x0 : Int32) (x1 : Int32) (x2 : Int32) (h : bz_H) (hP : (x0 = 42 → F (some (.inl (x1 * x2))) h) ∧ (¬ x0 = 42 → (x0 = 43 → F (some (.inl (x1 + x2))) h) ∧ (¬ x0 = 43 → (x0 = 45 → F (some (.inl (x1 - x2))) h) ∧ (¬ x0 = 45 → (x0 = 47 → (¬ x2 = 0 → (¬ x2 = (-1) → (¬ x2 = 0) ∧ (F (some (.inl (x1 / x2))) h)) ∧ (x2 = (-1) → F (some (.inl (-x1))) h)) ∧ (x2 = 0 → F (some (.inl 0)) h)) ∧ (¬ x0 = 47 → (x0 = 60 → F (some (.inl (if x2 ≤ x1 then 0 else 1))) h) ∧ (¬ x0 = 60 → F (some (.inl (if x1 = x2 then 1 else 0))) h)))))) : bz_J G κ kX12_joined (d + 1) F bc bs 0 [some (.inl x0), some (.inl x1), some (.inl x2)] [] h := by
  subst hl
  refine bz_iload_n (pc := 0) dX12_joined_0 rfl rfl ?_
  refine bz_lookup (pc := 1) [(42, 59), (43, 51), (45, 55), (47, 63), (60, 85)] dX12_joined_1 (by decide) (by decide) (by decide) (by decide) ?_
  refine ⟨fun c => ?_, fun c => ?_⟩
  · have hP := hP.1 c
    show bz_J G κ kX12_joined (d + 1) F bc bs 60 [some (.inl x0), some (.inl x1), some (.inl x2)] [] h
    refine bz_iload_n (pc := 60) dX12_joined_60 rfl rfl ?_
    refine bz_iload_n (pc := 61) dX12_joined_61 rfl rfl ?_
    refine bz_imul (pc := 62) dX12_joined_62 ?_
    exact bz_retI (pc := 63) dX12_joined_63 rfl rfl hP
  · have hP := hP.2 c
    refine ⟨fun c => ?_, fun c => ?_⟩
    · have hP := hP.1 c
      show bz_J G κ kX12_joined (d + 1) F bc bs 52 [some (.inl x0), some (.inl x1), some (.inl x2)] [] h
      refine bz_iload_n (pc := 52) dX12_joined_52 rfl rfl ?_
      refine bz_iload_n (pc := 53) dX12_joined_53 rfl rfl ?_
      refine bz_iadd (pc := 54) dX12_joined_54 ?_
      exact bz_retI (pc := 55) dX12_joined_55 rfl rfl hP
    · have hP := hP.2 c
      refine ⟨fun c => ?_, fun c => ?_⟩
      · have hP := hP.1 c
        show bz_J G κ kX12_joined (d + 1) F bc bs 56 [some (.inl x0), some (.inl x1), some (.inl x2)] [] h
        refine bz_iload_n (pc := 56) dX12_joined_56 rfl rfl ?_
        refine bz_iload_n (pc := 57) dX12_joined_57 rfl rfl ?_
        refine bz_isub (pc := 58) dX12_joined_58 ?_
        exact bz_retI (pc := 59) dX12_joined_59 rfl rfl hP
      · have hP := hP.2 c
        refine ⟨fun c => ?_, fun c => ?_⟩
        · have hP := hP.1 c
          show bz_J G κ kX12_joined (d + 1) F bc bs 64 [some (.inl x0), some (.inl x1), some (.inl x2)] [] h
          refine bz_iload_n (pc := 64) dX12_joined_64 rfl rfl ?_
          refine bz_if_ne (tgt := 72) (pc := 65) dX12_joined_65 (by decide) (fun c => ?_) (fun c => ?_)
          · have hP := hP.1 c
            refine bz_iload_n (pc := 72) dX12_joined_72 rfl rfl ?_
            refine bz_iconst (v := (-1)) (pc := 73) dX12_joined_73 (by decide) ?_
            refine bz_icmp_ne (tgt := 82) (pc := 74) dX12_joined_74 (by decide) (fun c => ?_) (fun c => ?_)
            · have hP := hP.1 c
              refine bz_iload_n (pc := 82) dX12_joined_82 rfl rfl ?_
              refine bz_iload_n (pc := 83) dX12_joined_83 rfl rfl ?_
              obtain ⟨hz, hP⟩ := hP
              refine bz_idiv (pc := 84) dX12_joined_84 hz ?_
              exact bz_retI (pc := 85) dX12_joined_85 rfl rfl hP
            · have hP := hP.2 c
              refine bz_iload_n (pc := 77) dX12_joined_77 rfl rfl ?_
              refine bz_ineg (pc := 78) dX12_joined_78 ?_
              refine bz_goto (tgt := 85) (pc := 79) dX12_joined_79 (by decide) ?_
              exact bz_retI (pc := 85) dX12_joined_85 rfl rfl hP
          · have hP := hP.2 c
            refine bz_iconst (v := 0) (pc := 68) dX12_joined_68 (by decide) ?_
            refine bz_goto (tgt := 85) (pc := 69) dX12_joined_69 (by decide) ?_
            exact bz_retI (pc := 85) dX12_joined_85 rfl rfl hP
        · have hP := hP.2 c
          refine ⟨fun c => ?_, fun c => ?_⟩
          · have hP := hP.1 c
            show bz_J G κ kX12_joined (d + 1) F bc bs 86 [some (.inl x0), some (.inl x1), some (.inl x2)] [] h
            refine bz_iload_n (pc := 86) dX12_joined_86 rfl rfl ?_
            refine bz_iload_n (pc := 87) dX12_joined_87 rfl rfl ?_
            have hJ : bz_J G κ kX12_joined (d + 1) F bc bs 96 [some (.inl x0), some (.inl x1), some (.inl x2)] [.inl (if x2 ≤ x1 then 0 else 1)] h := by
              exact bz_retI (pc := 96) dX12_joined_96 rfl rfl hP
            refine bz_icmp_ge (tgt := 95) (pc := 88) dX12_joined_88 (by decide) (fun c => ?_) (fun c => ?_)
            · have e9 : ((if x2 ≤ x1 then 0 else 1) : Int32) = (0) := if_pos c
              rw [e9] at hJ
              refine bz_iconst (v := 0) (pc := 95) dX12_joined_95 (by decide) ?_
              exact hJ
            · have e9 : ((if x2 ≤ x1 then 0 else 1) : Int32) = (1) := if_neg c
              rw [e9] at hJ
              refine bz_iconst (v := 1) (pc := 91) dX12_joined_91 (by decide) ?_
              refine bz_goto (tgt := 96) (pc := 92) dX12_joined_92 (by decide) ?_
              exact hJ
          · have hP := hP.2 c
            show bz_J G κ kX12_joined (d + 1) F bc bs 97 [some (.inl x0), some (.inl x1), some (.inl x2)] [] h
            refine bz_iload_n (pc := 97) dX12_joined_97 rfl rfl ?_
            refine bz_iload_n (pc := 98) dX12_joined_98 rfl rfl ?_
            have hJ : bz_J G κ kX12_joined (d + 1) F bc bs 107 [some (.inl x0), some (.inl x1), some (.inl x2)] [.inl (if x1 = x2 then 1 else 0)] h := by
              exact bz_retI (pc := 107) dX12_joined_107 rfl rfl hP
            refine bz_icmp_ne (tgt := 106) (pc := 99) dX12_joined_99 (by decide) (fun c => ?_) (fun c => ?_)
            · have e9 : ((if x1 = x2 then 1 else 0) : Int32) = (0) := if_neg c
              rw [e9] at hJ
              refine bz_iconst (v := 0) (pc := 106) dX12_joined_106 (by decide) ?_
              exact hJ
            · have e9 : ((if x1 = x2 then 1 else 0) : Int32) = (1) := if_pos c
              rw [e9] at hJ
              refine bz_iconst (v := 1) (pc := 102) dX12_joined_102 (by decide) ?_
              refine bz_goto (tgt := 107) (pc := 103) dX12_joined_103 (by decide) ?_
              exact hJ
theorem m_X12_joined {G : bz_G} {l : Launch} {d mc ms : Nat} {F : Option bz_V → bz_H → Prop} (x0 : Int32) (x1 : Int32) (x2 : Int32) (h : bz_H) (hP : (x0 = 42 → F (some (.inl (x1 * x2))) h) ∧ (¬ x0 = 42 → (x0 = 43 → F (some (.inl (x1 + x2))) h) ∧ (¬ x0 = 43 → (x0 = 45 → F (some (.inl (x1 - x2))) h) ∧ (¬ x0 = 45 → (x0 = 47 → (¬ x2 = 0 → (¬ x2 = (-1) → (¬ x2 = 0) ∧ (F (some (.inl (x1 / x2))) h)) ∧ (x2 = (-1) → F (some (.inl (-x1))) h)) ∧ (x2 = 0 → F (some (.inl 0)) h)) ∧ (¬ x0 = 47 → (x0 = 60 → F (some (.inl (if x2 ≤ x1 then 0 else 1))) h) ∧ (¬ x0 = 60 → F (some (.inl (if x1 = x2 then 1 else 0))) h)))))) : bz_Call G l (d + 1) kX12_joined [.inl x0, .inl x1, .inl x2] h mc ms F :=
  bz_body (by decide) (by decide) (fun κ hl => g_X12_joined_0 hl x0 x1 x2 h hP)
set_option maxRecDepth 20000 in
set_option maxHeartbeats 4000000 in
theorem g_X12_joins_0 {G : bz_G} {κ : bz_K} {l : Launch} {d : Nat} {F : Option bz_V → bz_H → Prop} {bc bs : Nat} (hl : κ.2.1 = l) (a0 : Nat) (x1 : Int32) (x2 : Int32) (x3 : Int32) (h : bz_H) (hP : bz_wI h a0 12 11 (-1) (fun h_1 => bz_J G κ kX12_joins (d + 1) F bc bs 11 [some (.inr (some a0)), some (.inl x1), some (.inl x2), some (.inl x3), some (.inl 0), some (.inl 0), none] [] h_1)) : bz_J G κ kX12_joins (d + 1) F bc bs 0 [some (.inr (some a0)), some (.inl x1), some (.inl x2), some (.inl x3), none, none, none] [] h := by
  subst hl
  refine bz_aload_n (pc := 0) dX12_joins_0 rfl rfl ?_
  refine bz_iconst (v := (-1)) (pc := 1) dX12_joins_1 (by decide) ?_
  refine bz_rw_wI (pc := 2) dX12_joins_2 fl_X12_200 (fun q h9 => by cases h9; rfl) rfl hP (fun h_1 hP => ?_)
  refine bz_iconst (v := 0) (pc := 5) dX12_joins_5 (by decide) ?_
  refine bz_s_istore (pc := 6) dX12_joins_6 (by decide) [some (.inr (some a0)), some (.inl x1), some (.inl x2), some (.inl x3), some (.inl 0), none, none] rfl ?_
  refine bz_iconst (v := 0) (pc := 8) dX12_joins_8 (by decide) ?_
  refine bz_s_istore (pc := 9) dX12_joins_9 (by decide) [some (.inr (some a0)), some (.inl x1), some (.inl x2), some (.inl x3), some (.inl 0), some (.inl 0), none] rfl ?_
  exact hP
set_option maxRecDepth 20000 in
set_option maxHeartbeats 4000000 in
theorem g_X12_joins_11 {G : bz_G} {κ : bz_K} {l : Launch} {d : Nat} {F : Option bz_V → bz_H → Prop} {bc bs : Nat} (hl : κ.2.1 = l) (a0 : Nat) (x1 : Int32) (x2 : Int32) (x3 : Int32) (x4 : Int32) (x5 : Int32) (u6 : Option bz_V) (h : bz_H) (hP : (6 ≤ x5 → bz_rI h a0 12 11 (fun x_2 => (x_2 < 0 → F (some (.inl 0)) h) ∧ (¬ (x_2 < 0) → bz_rI h a0 12 11 (fun x_3 => bz_rc h a0 12 (bz_cI G l d kX12_goesWay [.inr (some a0), .inl x1, .inl x2, .inl x3, .inl x_3] h 0 0 (fun x_4 h_5 => F (some (.inl (if x_4 = 0 then 0 else 1))) h_5)))))) ∧ (¬ (6 ≤ x5) → bz_rc h a0 12 (bz_cI G l d kX12_goesWay [.inr (some a0), .inl x1, .inl x2, .inl x3, .inl x5] h 0 0 (fun x_6 h_7 => (x_6 = 0 → bz_J G κ kX12_joins (d + 1) F bc bs 11 [some (.inr (some a0)), some (.inl x1), some (.inl x2), some (.inl x3), some (.inl x4), some (.inl (x5 + 1)), u6] [] h_7) ∧ (¬ (x_6 = 0) → bz_rR h_7 a0 12 10 (fun r_8 => bz_nn r_8 (fun a_9 => bz_rA h_7 a_9 0 (fun x_10 => bz_rc h_7 a0 12 (bz_cI G l d kX12_lateBy [.inr (some a0), .inl x2, .inl x_10] h_7 0 0 (fun x_11 h_12 => bz_rR h_12 a0 12 10 (fun r_13 => bz_nn r_13 (fun a_14 => bz_rA h_12 a_14 1 (fun x_15 => bz_rc h_12 a0 12 (bz_cI G l d kX12_lateBy [.inr (some a0), .inl x3, .inl x_15] h_12 0 0 (fun x_16 h_17 => bz_rI h_17 a0 12 11 (fun x_18 => (x_18 < 0 → bz_wI h_17 a0 12 11 x5 (fun h_19 => bz_wI h_19 a0 12 12 (x_11 + x_16) (fun h_20 => bz_rI h_20 a0 12 7 (fun x_21 => bz_J G κ kX12_joins (d + 1) F bc bs 11 [some (.inr (some a0)), some (.inl x1), some (.inl x2), some (.inl x3), some (.inl x_21), some (.inl (x5 + 1)), some (.inl (x_11 + x_16))] [] h_20)))) ∧ (¬ (x_18 < 0) → bz_rI h_17 a0 12 12 (fun x_22 => ((x_11 + x_16) < x_22 → bz_wI h_17 a0 12 11 x5 (fun h_23 => bz_wI h_23 a0 12 12 (x_11 + x_16) (fun h_24 => bz_rI h_24 a0 12 7 (fun x_25 => bz_J G κ kX12_joins (d + 1) F bc bs 11 [some (.inr (some a0)), some (.inl x1), some (.inl x2), some (.inl x3), some (.inl x_25), some (.inl (x5 + 1)), some (.inl (x_11 + x_16))] [] h_24)))) ∧ (¬ ((x_11 + x_16) < x_22) → bz_rI h_17 a0 12 12 (fun x_26 => (¬ (x_11 + x_16) = x_26 → bz_J G κ kX12_joins (d + 1) F bc bs 11 [some (.inr (some a0)), some (.inl x1), some (.inl x2), some (.inl x3), some (.inl x4), some (.inl (x5 + 1)), some (.inl (x_11 + x_16))] [] h_17) ∧ ((x_11 + x_16) = x_26 → bz_rI h_17 a0 12 7 (fun x_27 => (x4 ≤ x_27 → bz_J G κ kX12_joins (d + 1) F bc bs 11 [some (.inr (some a0)), some (.inl x1), some (.inl x2), some (.inl x3), some (.inl x4), some (.inl (x5 + 1)), some (.inl (x_11 + x_16))] [] h_17) ∧ (¬ (x4 ≤ x_27) → bz_wI h_17 a0 12 11 x5 (fun h_28 => bz_wI h_28 a0 12 12 (x_11 + x_16) (fun h_29 => bz_rI h_29 a0 12 7 (fun x_30 => bz_J G κ kX12_joins (d + 1) F bc bs 11 [some (.inr (some a0)), some (.inl x1), some (.inl x2), some (.inl x3), some (.inl x_30), some (.inl (x5 + 1)), some (.inl (x_11 + x_16))] [] h_29)))))))))))))))))))))))))) : bz_J G κ kX12_joins (d + 1) F bc bs 11 [some (.inr (some a0)), some (.inl x1), some (.inl x2), some (.inl x3), some (.inl x4), some (.inl x5), u6] [] h := by
  subst hl
  refine bz_iload (pc := 11) dX12_joins_11 rfl ?_
  refine bz_bipush (v := 6) (pc := 13) dX12_joins_13 (by decide) ?_
  refine bz_icmp_ge (tgt := 113) (pc := 15) dX12_joins_15 (by decide) (fun c => ?_) (fun c => ?_)
  · have hP := hP.1 c
    refine bz_aload_n (pc := 113) dX12_joins_113 rfl rfl ?_
    refine bz_rw_rI (pc := 114) dX12_joins_114 fl_X12_200 hP (fun x_2 hP => ?_)
    refine bz_if_lt (tgt := 138) (pc := 117) dX12_joins_117 (by decide) (fun c => ?_) (fun c => ?_)
    · have hP := hP.1 c
      refine bz_iconst (v := 0) (pc := 138) dX12_joins_138 (by decide) ?_
      exact bz_retI (pc := 139) dX12_joins_139 rfl rfl hP
    · have hP := hP.2 c
      refine bz_aload_n (pc := 120) dX12_joins_120 rfl rfl ?_
      refine bz_iload_n (pc := 121) dX12_joins_121 rfl rfl ?_
      refine bz_iload_n (pc := 122) dX12_joins_122 rfl rfl ?_
      refine bz_iload_n (pc := 123) dX12_joins_123 rfl rfl ?_
      refine bz_aload_n (pc := 124) dX12_joins_124 rfl rfl ?_
      refine bz_rw_rI (pc := 125) dX12_joins_125 fl_X12_200 hP (fun x_3 hP => ?_)
      refine bz_kIV (as := [.inl x1, .inl x2, .inl x3, .inl x_3]) (st := []) (ci := 12) (pc := 128) dX12_joins_128 sc_X12_goesWay ml_X12_203 im_X12_goesWay se_X12_goesWay rfl rfl rfl (by decide) hP (fun x_4 h_5 hP => ?_)
      have hJ : bz_J G κ kX12_joins (d + 1) F bc bs 139 [some (.inr (some a0)), some (.inl x1), some (.inl x2), some (.inl x3), some (.inl x4), some (.inl x5), u6] [.inl (if x_4 = 0 then 0 else 1)] h_5 := by
        exact bz_retI (pc := 139) dX12_joins_139 rfl (by (repeat' split) <;> rfl) hP
      refine bz_if_eq (tgt := 138) (pc := 131) dX12_joins_131 (by decide) (fun c => ?_) (fun c => ?_)
      · have e9 : ((if x_4 = 0 then 0 else 1) : Int32) = (0) := if_pos c
        rw [e9] at hJ
        refine bz_iconst (v := 0) (pc := 138) dX12_joins_138 (by decide) ?_
        exact hJ
      · have e9 : ((if x_4 = 0 then 0 else 1) : Int32) = (1) := if_neg c
        rw [e9] at hJ
        refine bz_iconst (v := 1) (pc := 134) dX12_joins_134 (by decide) ?_
        refine bz_goto (tgt := 139) (pc := 135) dX12_joins_135 (by decide) ?_
        exact hJ
  · have hP := hP.2 c
    refine bz_aload_n (pc := 18) dX12_joins_18 rfl rfl ?_
    refine bz_iload_n (pc := 19) dX12_joins_19 rfl rfl ?_
    refine bz_iload_n (pc := 20) dX12_joins_20 rfl rfl ?_
    refine bz_iload_n (pc := 21) dX12_joins_21 rfl rfl ?_
    refine bz_iload (pc := 22) dX12_joins_22 rfl ?_
    refine bz_kIV (as := [.inl x1, .inl x2, .inl x3, .inl x5]) (st := []) (ci := 12) (pc := 24) dX12_joins_24 sc_X12_goesWay ml_X12_203 im_X12_goesWay se_X12_goesWay rfl rfl rfl (by decide) hP (fun x_6 h_7 hP => ?_)
    refine bz_if_eq (tgt := 107) (pc := 27) dX12_joins_27 (by decide) (fun c => ?_) (fun c => ?_)
    · have hP := hP.1 c
      refine bz_s_iinc (pc := 107) dX12_joins_107 (by decide) rfl rfl [some (.inr (some a0)), some (.inl x1), some (.inl x2), some (.inl x3), some (.inl x4), some (.inl (x5 + 1)), u6] rfl ?_
      refine bz_goto (tgt := 11) (pc := 110) dX12_joins_110 (by decide) ?_
      exact hP
    · have hP := hP.2 c
      refine bz_aload_n (pc := 30) dX12_joins_30 rfl rfl ?_
      refine bz_iload_n (pc := 31) dX12_joins_31 rfl rfl ?_
      refine bz_aload_n (pc := 32) dX12_joins_32 rfl rfl ?_
      refine bz_rw_rR (pc := 33) dX12_joins_33 fl_X12_25 hP (fun r_8 hP => ?_)
      refine bz_iconst (v := 0) (pc := 36) dX12_joins_36 (by decide) ?_
      obtain ⟨a_9, rfl, hP⟩ := hP
      refine bz_rw_rA (pc := 37) dX12_joins_37 hP (fun x_10 hP => ?_)
      refine bz_kIV (as := [.inl x2, .inl x_10]) (st := []) (ci := 12) (pc := 38) dX12_joins_38 sc_X12_lateBy ml_X12_102 im_X12_lateBy se_X12_lateBy rfl rfl rfl (by decide) hP (fun x_11 h_12 hP => ?_)
      refine bz_aload_n (pc := 41) dX12_joins_41 rfl rfl ?_
      refine bz_iload_n (pc := 42) dX12_joins_42 rfl rfl ?_
      refine bz_aload_n (pc := 43) dX12_joins_43 rfl rfl ?_
      refine bz_rw_rR (pc := 44) dX12_joins_44 fl_X12_25 hP (fun r_13 hP => ?_)
      refine bz_iconst (v := 1) (pc := 47) dX12_joins_47 (by decide) ?_
      obtain ⟨a_14, rfl, hP⟩ := hP
      refine bz_rw_rA (pc := 48) dX12_joins_48 hP (fun x_15 hP => ?_)
      refine bz_kIV (as := [.inl x3, .inl x_15]) (st := [.inl x_11]) (ci := 12) (pc := 49) dX12_joins_49 sc_X12_lateBy ml_X12_102 im_X12_lateBy se_X12_lateBy rfl rfl rfl (by decide) hP (fun x_16 h_17 hP => ?_)
      refine bz_iadd (pc := 52) dX12_joins_52 ?_
      refine bz_s_istore (pc := 53) dX12_joins_53 (by decide) [some (.inr (some a0)), some (.inl x1), some (.inl x2), some (.inl x3), some (.inl x4), some (.inl x5), some (.inl (x_11 + x_16))] rfl ?_
      refine bz_aload_n (pc := 55) dX12_joins_55 rfl rfl ?_
      refine bz_rw_rI (pc := 56) dX12_joins_56 fl_X12_200 hP (fun x_18 hP => ?_)
      refine bz_if_lt (tgt := 89) (pc := 59) dX12_joins_59 (by decide) (fun c => ?_) (fun c => ?_)
      · have hP := hP.1 c
        refine bz_aload_n (pc := 89) dX12_joins_89 rfl rfl ?_
        refine bz_iload (pc := 90) dX12_joins_90 rfl ?_
        refine bz_rw_wI (pc := 92) dX12_joins_92 fl_X12_200 (fun q h9 => by cases h9; rfl) rfl hP (fun h_19 hP => ?_)
        refine bz_aload_n (pc := 95) dX12_joins_95 rfl rfl ?_
        refine bz_iload (pc := 96) dX12_joins_96 rfl ?_
        refine bz_rw_wI (pc := 98) dX12_joins_98 fl_X12_206 (fun q h9 => by cases h9; rfl) rfl hP (fun h_20 hP => ?_)
        refine bz_aload_n (pc := 101) dX12_joins_101 rfl rfl ?_
        refine bz_rw_rI (pc := 102) dX12_joins_102 fl_X12_167 hP (fun x_21 hP => ?_)
        refine bz_s_istore (pc := 105) dX12_joins_105 (by decide) [some (.inr (some a0)), some (.inl x1), some (.inl x2), some (.inl x3), some (.inl x_21), some (.inl x5), some (.inl (x_11 + x_16))] rfl ?_
        refine bz_s_iinc (pc := 107) dX12_joins_107 (by decide) rfl rfl [some (.inr (some a0)), some (.inl x1), some (.inl x2), some (.inl x3), some (.inl x_21), some (.inl (x5 + 1)), some (.inl (x_11 + x_16))] rfl ?_
        refine bz_goto (tgt := 11) (pc := 110) dX12_joins_110 (by decide) ?_
        exact hP
      · have hP := hP.2 c
        refine bz_iload (pc := 62) dX12_joins_62 rfl ?_
        refine bz_aload_n (pc := 64) dX12_joins_64 rfl rfl ?_
        refine bz_rw_rI (pc := 65) dX12_joins_65 fl_X12_206 hP (fun x_22 hP => ?_)
        refine bz_icmp_lt (tgt := 89) (pc := 68) dX12_joins_68 (by decide) (fun c => ?_) (fun c => ?_)
        · have hP := hP.1 c
          refine bz_aload_n (pc := 89) dX12_joins_89 rfl rfl ?_
          refine bz_iload (pc := 90) dX12_joins_90 rfl ?_
          refine bz_rw_wI (pc := 92) dX12_joins_92 fl_X12_200 (fun q h9 => by cases h9; rfl) rfl hP (fun h_23 hP => ?_)
          refine bz_aload_n (pc := 95) dX12_joins_95 rfl rfl ?_
          refine bz_iload (pc := 96) dX12_joins_96 rfl ?_
          refine bz_rw_wI (pc := 98) dX12_joins_98 fl_X12_206 (fun q h9 => by cases h9; rfl) rfl hP (fun h_24 hP => ?_)
          refine bz_aload_n (pc := 101) dX12_joins_101 rfl rfl ?_
          refine bz_rw_rI (pc := 102) dX12_joins_102 fl_X12_167 hP (fun x_25 hP => ?_)
          refine bz_s_istore (pc := 105) dX12_joins_105 (by decide) [some (.inr (some a0)), some (.inl x1), some (.inl x2), some (.inl x3), some (.inl x_25), some (.inl x5), some (.inl (x_11 + x_16))] rfl ?_
          refine bz_s_iinc (pc := 107) dX12_joins_107 (by decide) rfl rfl [some (.inr (some a0)), some (.inl x1), some (.inl x2), some (.inl x3), some (.inl x_25), some (.inl (x5 + 1)), some (.inl (x_11 + x_16))] rfl ?_
          refine bz_goto (tgt := 11) (pc := 110) dX12_joins_110 (by decide) ?_
          exact hP
        · have hP := hP.2 c
          refine bz_iload (pc := 71) dX12_joins_71 rfl ?_
          refine bz_aload_n (pc := 73) dX12_joins_73 rfl rfl ?_
          refine bz_rw_rI (pc := 74) dX12_joins_74 fl_X12_206 hP (fun x_26 hP => ?_)
          refine bz_icmp_ne (tgt := 107) (pc := 77) dX12_joins_77 (by decide) (fun c => ?_) (fun c => ?_)
          · have hP := hP.1 c
            refine bz_s_iinc (pc := 107) dX12_joins_107 (by decide) rfl rfl [some (.inr (some a0)), some (.inl x1), some (.inl x2), some (.inl x3), some (.inl x4), some (.inl (x5 + 1)), some (.inl (x_11 + x_16))] rfl ?_
            refine bz_goto (tgt := 11) (pc := 110) dX12_joins_110 (by decide) ?_
            exact hP
          · have hP := hP.2 c
            refine bz_aload_n (pc := 80) dX12_joins_80 rfl rfl ?_
            refine bz_rw_rI (pc := 81) dX12_joins_81 fl_X12_167 hP (fun x_27 hP => ?_)
            refine bz_iload (pc := 84) dX12_joins_84 rfl ?_
            refine bz_icmp_ge (tgt := 107) (pc := 86) dX12_joins_86 (by decide) (fun c => ?_) (fun c => ?_)
            · have hP := hP.1 c
              refine bz_s_iinc (pc := 107) dX12_joins_107 (by decide) rfl rfl [some (.inr (some a0)), some (.inl x1), some (.inl x2), some (.inl x3), some (.inl x4), some (.inl (x5 + 1)), some (.inl (x_11 + x_16))] rfl ?_
              refine bz_goto (tgt := 11) (pc := 110) dX12_joins_110 (by decide) ?_
              exact hP
            · have hP := hP.2 c
              refine bz_aload_n (pc := 89) dX12_joins_89 rfl rfl ?_
              refine bz_iload (pc := 90) dX12_joins_90 rfl ?_
              refine bz_rw_wI (pc := 92) dX12_joins_92 fl_X12_200 (fun q h9 => by cases h9; rfl) rfl hP (fun h_28 hP => ?_)
              refine bz_aload_n (pc := 95) dX12_joins_95 rfl rfl ?_
              refine bz_iload (pc := 96) dX12_joins_96 rfl ?_
              refine bz_rw_wI (pc := 98) dX12_joins_98 fl_X12_206 (fun q h9 => by cases h9; rfl) rfl hP (fun h_29 hP => ?_)
              refine bz_aload_n (pc := 101) dX12_joins_101 rfl rfl ?_
              refine bz_rw_rI (pc := 102) dX12_joins_102 fl_X12_167 hP (fun x_30 hP => ?_)
              refine bz_s_istore (pc := 105) dX12_joins_105 (by decide) [some (.inr (some a0)), some (.inl x1), some (.inl x2), some (.inl x3), some (.inl x_30), some (.inl x5), some (.inl (x_11 + x_16))] rfl ?_
              refine bz_s_iinc (pc := 107) dX12_joins_107 (by decide) rfl rfl [some (.inr (some a0)), some (.inl x1), some (.inl x2), some (.inl x3), some (.inl x_30), some (.inl (x5 + 1)), some (.inl (x_11 + x_16))] rfl ?_
              refine bz_goto (tgt := 11) (pc := 110) dX12_joins_110 (by decide) ?_
              exact hP
theorem m_X12_joins {G : bz_G} {l : Launch} {d mc ms : Nat} {F : Option bz_V → bz_H → Prop} (a0 : Nat) (x1 : Int32) (x2 : Int32) (x3 : Int32) (h : bz_H) (hP : ∀ (κ : bz_K) (bc bs : Nat), κ.2.1 = l → bz_wI h a0 12 11 (-1) (fun h_1 => bz_J G κ kX12_joins (d + 1) F bc bs 11 [some (.inr (some a0)), some (.inl x1), some (.inl x2), some (.inl x3), some (.inl 0), some (.inl 0), none] [] h_1)) : bz_Call G l (d + 1) kX12_joins [.inr (some a0), .inl x1, .inl x2, .inl x3] h mc ms F :=
  bz_body (by decide) (by decide) (fun κ hl => g_X12_joins_0 hl a0 x1 x2 x3 h (hP κ mc ms hl))
set_option maxRecDepth 20000 in
set_option maxHeartbeats 4000000 in
theorem g_X12_judge_0 {G : bz_G} {κ : bz_K} {l : Launch} {d : Nat} {F : Option bz_V → bz_H → Prop} {bc bs : Nat} (hl : κ.2.1 = l) (a0 : Nat) (x1 : Int32) (x2 : Int32) (h : bz_H) (hP : bz_cI G l d kX12_isSheet [.inl x1] h 0 0 (fun x_1 h_2 => (¬ x_1 = 0 → bz_rR h_2 a0 12 30 (fun r_3 => bz_nn r_3 (fun a_4 => bz_rA h_2 a_4 x1 (fun x_5 => (¬ x_5 = 0 → bz_rc h_2 a0 12 (bz_cI G l d kX12_isText [.inr (some a0), .inl x2] h_2 0 0 (fun x_6 h_7 => (¬ x_6 = 0 → bz_rc h_7 a0 12 (bz_cV G l d kX12_goesNight [.inr (some a0), .inl x2] h_7 0 0 (fun h_9 => bz_J G κ kX12_judge (d + 1) F bc bs 49 [some (.inr (some a0)), some (.inl x1), some (.inl x2), some (.inl 0)] [] h_9))) ∧ (x_6 = 0 → bz_rc h_7 a0 12 (bz_cI G l d kX12_finding [.inr (some a0), .inl 0] h_7 0 0 (fun x_10 h_11 => F (some (.inl x_10)) h_11)))))) ∧ (x_5 = 0 → bz_rc h_2 a0 12 (bz_cI G l d kX12_finding [.inr (some a0), .inl 5] h_2 0 0 (fun x_12 h_13 => F (some (.inl x_12)) h_13))))))) ∧ (x_1 = 0 → bz_rc h_2 a0 12 (bz_cI G l d kX12_finding [.inr (some a0), .inl 0] h_2 0 0 (fun x_14 h_15 => F (some (.inl x_14)) h_15))))) : bz_J G κ kX12_judge (d + 1) F bc bs 0 [some (.inr (some a0)), some (.inl x1), some (.inl x2), none] [] h := by
  subst hl
  refine bz_iload_n (pc := 0) dX12_judge_0 rfl rfl ?_
  refine bz_kIS (as := [.inl x1]) (st := []) (pc := 1) dX12_judge_1 sc_X12_isSheet ml_X12_341 ss_X12_isSheet rfl (by decide) hP (fun x_1 h_2 hP => ?_)
  refine bz_if_ne (tgt := 13) (pc := 4) dX12_judge_4 (by decide) (fun c => ?_) (fun c => ?_)
  · have hP := hP.1 c
    refine bz_aload_n (pc := 13) dX12_judge_13 rfl rfl ?_
    refine bz_rw_rR (pc := 14) dX12_judge_14 fl_X12_52 hP (fun r_3 hP => ?_)
    refine bz_iload_n (pc := 17) dX12_judge_17 rfl rfl ?_
    obtain ⟨a_4, rfl, hP⟩ := hP
    refine bz_rw_rA (pc := 18) dX12_judge_18 hP (fun x_5 hP => ?_)
    refine bz_if_ne (tgt := 28) (pc := 19) dX12_judge_19 (by decide) (fun c => ?_) (fun c => ?_)
    · have hP := hP.1 c
      refine bz_aload_n (pc := 28) dX12_judge_28 rfl rfl ?_
      refine bz_iload_n (pc := 29) dX12_judge_29 rfl rfl ?_
      refine bz_kIV (as := [.inl x2]) (st := []) (ci := 12) (pc := 30) dX12_judge_30 sc_X12_isText ml_X12_296 im_X12_isText se_X12_isText rfl rfl rfl (by decide) hP (fun x_6 h_7 hP => ?_)
      refine bz_if_ne (tgt := 42) (pc := 33) dX12_judge_33 (by decide) (fun c => ?_) (fun c => ?_)
      · have hP := hP.1 c
        refine bz_aload_n (pc := 42) dX12_judge_42 rfl rfl ?_
        refine bz_iload_n (pc := 43) dX12_judge_43 rfl rfl ?_
        refine bz_kVV (as := [.inl x2]) (st := []) (ci := 12) (pc := 44) dX12_judge_44 sc_X12_goesNight ml_X12_332 im_X12_goesNight se_X12_goesNight rfl rfl rfl (by decide) hP (fun h_9 hP => ?_)
        refine bz_iconst (v := 0) (pc := 47) dX12_judge_47 (by decide) ?_
        refine bz_s_istore_n (pc := 48) dX12_judge_48 rfl (by decide) [some (.inr (some a0)), some (.inl x1), some (.inl x2), some (.inl 0)] rfl ?_
        exact hP
      · have hP := hP.2 c
        refine bz_aload_n (pc := 36) dX12_judge_36 rfl rfl ?_
        refine bz_iconst (v := 0) (pc := 37) dX12_judge_37 (by decide) ?_
        refine bz_kIV (as := [.inl 0]) (st := []) (ci := 12) (pc := 38) dX12_judge_38 sc_X12_finding ml_X12_73 im_X12_finding se_X12_finding rfl rfl rfl (by decide) hP (fun x_10 h_11 hP => ?_)
        exact bz_retI (pc := 41) dX12_judge_41 rfl rfl hP
    · have hP := hP.2 c
      refine bz_aload_n (pc := 22) dX12_judge_22 rfl rfl ?_
      refine bz_iconst (v := 5) (pc := 23) dX12_judge_23 (by decide) ?_
      refine bz_kIV (as := [.inl 5]) (st := []) (ci := 12) (pc := 24) dX12_judge_24 sc_X12_finding ml_X12_73 im_X12_finding se_X12_finding rfl rfl rfl (by decide) hP (fun x_12 h_13 hP => ?_)
      exact bz_retI (pc := 27) dX12_judge_27 rfl rfl hP
  · have hP := hP.2 c
    refine bz_aload_n (pc := 7) dX12_judge_7 rfl rfl ?_
    refine bz_iconst (v := 0) (pc := 8) dX12_judge_8 (by decide) ?_
    refine bz_kIV (as := [.inl 0]) (st := []) (ci := 12) (pc := 9) dX12_judge_9 sc_X12_finding ml_X12_73 im_X12_finding se_X12_finding rfl rfl rfl (by decide) hP (fun x_14 h_15 hP => ?_)
    exact bz_retI (pc := 12) dX12_judge_12 rfl rfl hP
set_option maxRecDepth 20000 in
set_option maxHeartbeats 4000000 in
theorem g_X12_judge_49 {G : bz_G} {κ : bz_K} {l : Launch} {d : Nat} {F : Option bz_V → bz_H → Prop} {bc bs : Nat} (hl : κ.2.1 = l) (a0 : Nat) (x1 : Int32) (x2 : Int32) (x3 : Int32) (h : bz_H) (hP : bz_rR h a0 12 31 (fun r_16 => bz_nn r_16 (fun a_17 => bz_rA h a_17 x1 (fun x_18 => (x_18 ≤ x3 → bz_rR h a0 12 31 (fun r_19 => bz_nn r_19 (fun a_20 => bz_rA h a_20 x1 (fun x_21 => (¬ x3 = x_21 → F (some (.inl (1 + x3))) h) ∧ (x3 = x_21 → bz_rR h a0 12 0 (fun r_22 => bz_nn r_22 (fun a_23 => bz_rA h a_23 2 (fun x_24 => F (some (.inl (if x3 = x_24 then 0 else 1 + x3))) h)))))))) ∧ (¬ (x_18 ≤ x3) → bz_rR h a0 12 0 (fun r_25 => bz_nn r_25 (fun a_26 => bz_rA h a_26 2 (fun x_27 => (x_27 ≤ x3 → bz_rR h a0 12 31 (fun r_28 => bz_nn r_28 (fun a_29 => bz_rA h a_29 x1 (fun x_30 => (¬ x3 = x_30 → F (some (.inl (1 + x3))) h) ∧ (x3 = x_30 → bz_rR h a0 12 0 (fun r_31 => bz_nn r_31 (fun a_32 => bz_rA h a_32 2 (fun x_33 => F (some (.inl (if x3 = x_33 then 0 else 1 + x3))) h)))))))) ∧ (¬ (x_27 ≤ x3) → bz_rR h a0 12 32 (fun r_34 => bz_nn r_34 (fun a_35 => bz_rA h a_35 ((60 * x1) + x3) (fun x_36 => bz_rR h a0 12 27 (fun r_37 => bz_nn r_37 (fun a_38 => bz_rA h a_38 x3 (fun x_39 => (¬ x_36 = x_39 → bz_rR h a0 12 31 (fun r_40 => bz_nn r_40 (fun a_41 => bz_rA h a_41 x1 (fun x_42 => (¬ x3 = x_42 → F (some (.inl (1 + x3))) h) ∧ (x3 = x_42 → bz_rR h a0 12 0 (fun r_43 => bz_nn r_43 (fun a_44 => bz_rA h a_44 2 (fun x_45 => F (some (.inl (if x3 = x_45 then 0 else 1 + x3))) h)))))))) ∧ (x_36 = x_39 → bz_J G κ kX12_judge (d + 1) F bc bs 49 [some (.inr (some a0)), some (.inl x1), some (.inl x2), some (.inl (x3 + 1))] [] h)))))))))))))))) : bz_J G κ kX12_judge (d + 1) F bc bs 49 [some (.inr (some a0)), some (.inl x1), some (.inl x2), some (.inl x3)] [] h := by
  subst hl
  refine bz_iload_n (pc := 49) dX12_judge_49 rfl rfl ?_
  refine bz_aload_n (pc := 50) dX12_judge_50 rfl rfl ?_
  refine bz_rw_rR (pc := 51) dX12_judge_51 fl_X12_55 hP (fun r_16 hP => ?_)
  refine bz_iload_n (pc := 54) dX12_judge_54 rfl rfl ?_
  obtain ⟨a_17, rfl, hP⟩ := hP
  refine bz_rw_rA (pc := 55) dX12_judge_55 hP (fun x_18 hP => ?_)
  refine bz_icmp_ge (tgt := 95) (pc := 56) dX12_judge_56 (by decide) (fun c => ?_) (fun c => ?_)
  · have hP := hP.1 c
    refine bz_iload_n (pc := 95) dX12_judge_95 rfl rfl ?_
    refine bz_aload_n (pc := 96) dX12_judge_96 rfl rfl ?_
    refine bz_rw_rR (pc := 97) dX12_judge_97 fl_X12_55 hP (fun r_19 hP => ?_)
    refine bz_iload_n (pc := 100) dX12_judge_100 rfl rfl ?_
    obtain ⟨a_20, rfl, hP⟩ := hP
    refine bz_rw_rA (pc := 101) dX12_judge_101 hP (fun x_21 hP => ?_)
    refine bz_icmp_ne (tgt := 119) (pc := 102) dX12_judge_102 (by decide) (fun c => ?_) (fun c => ?_)
    · have hP := hP.1 c
      refine bz_iconst (v := 1) (pc := 119) dX12_judge_119 (by decide) ?_
      refine bz_iload_n (pc := 120) dX12_judge_120 rfl rfl ?_
      refine bz_iadd (pc := 121) dX12_judge_121 ?_
      exact bz_retI (pc := 122) dX12_judge_122 rfl rfl hP
    · have hP := hP.2 c
      refine bz_iload_n (pc := 105) dX12_judge_105 rfl rfl ?_
      refine bz_aload_n (pc := 106) dX12_judge_106 rfl rfl ?_
      refine bz_rw_rR (pc := 107) dX12_judge_107 fl_X12_7 hP (fun r_22 hP => ?_)
      refine bz_iconst (v := 2) (pc := 110) dX12_judge_110 (by decide) ?_
      obtain ⟨a_23, rfl, hP⟩ := hP
      refine bz_rw_rA (pc := 111) dX12_judge_111 hP (fun x_24 hP => ?_)
      have hJ : bz_J G κ kX12_judge (d + 1) F bc bs 122 [some (.inr (some a0)), some (.inl x1), some (.inl x2), some (.inl x3)] [.inl (if x3 = x_24 then 0 else 1 + x3)] h := by
        exact bz_retI (pc := 122) dX12_judge_122 rfl rfl hP
      refine bz_icmp_ne (tgt := 119) (pc := 112) dX12_judge_112 (by decide) (fun c => ?_) (fun c => ?_)
      · have e9 : ((if x3 = x_24 then 0 else 1 + x3) : Int32) = (1 + x3) := if_neg c
        rw [e9] at hJ
        refine bz_iconst (v := 1) (pc := 119) dX12_judge_119 (by decide) ?_
        refine bz_iload_n (pc := 120) dX12_judge_120 rfl rfl ?_
        refine bz_iadd (pc := 121) dX12_judge_121 ?_
        exact hJ
      · have e9 : ((if x3 = x_24 then 0 else 1 + x3) : Int32) = (0) := if_pos c
        rw [e9] at hJ
        refine bz_iconst (v := 0) (pc := 115) dX12_judge_115 (by decide) ?_
        refine bz_goto (tgt := 122) (pc := 116) dX12_judge_116 (by decide) ?_
        exact hJ
  · have hP := hP.2 c
    refine bz_iload_n (pc := 59) dX12_judge_59 rfl rfl ?_
    refine bz_aload_n (pc := 60) dX12_judge_60 rfl rfl ?_
    refine bz_rw_rR (pc := 61) dX12_judge_61 fl_X12_7 hP (fun r_25 hP => ?_)
    refine bz_iconst (v := 2) (pc := 64) dX12_judge_64 (by decide) ?_
    obtain ⟨a_26, rfl, hP⟩ := hP
    refine bz_rw_rA (pc := 65) dX12_judge_65 hP (fun x_27 hP => ?_)
    refine bz_icmp_ge (tgt := 95) (pc := 66) dX12_judge_66 (by decide) (fun c => ?_) (fun c => ?_)
    · have hP := hP.1 c
      refine bz_iload_n (pc := 95) dX12_judge_95 rfl rfl ?_
      refine bz_aload_n (pc := 96) dX12_judge_96 rfl rfl ?_
      refine bz_rw_rR (pc := 97) dX12_judge_97 fl_X12_55 hP (fun r_28 hP => ?_)
      refine bz_iload_n (pc := 100) dX12_judge_100 rfl rfl ?_
      obtain ⟨a_29, rfl, hP⟩ := hP
      refine bz_rw_rA (pc := 101) dX12_judge_101 hP (fun x_30 hP => ?_)
      refine bz_icmp_ne (tgt := 119) (pc := 102) dX12_judge_102 (by decide) (fun c => ?_) (fun c => ?_)
      · have hP := hP.1 c
        refine bz_iconst (v := 1) (pc := 119) dX12_judge_119 (by decide) ?_
        refine bz_iload_n (pc := 120) dX12_judge_120 rfl rfl ?_
        refine bz_iadd (pc := 121) dX12_judge_121 ?_
        exact bz_retI (pc := 122) dX12_judge_122 rfl rfl hP
      · have hP := hP.2 c
        refine bz_iload_n (pc := 105) dX12_judge_105 rfl rfl ?_
        refine bz_aload_n (pc := 106) dX12_judge_106 rfl rfl ?_
        refine bz_rw_rR (pc := 107) dX12_judge_107 fl_X12_7 hP (fun r_31 hP => ?_)
        refine bz_iconst (v := 2) (pc := 110) dX12_judge_110 (by decide) ?_
        obtain ⟨a_32, rfl, hP⟩ := hP
        refine bz_rw_rA (pc := 111) dX12_judge_111 hP (fun x_33 hP => ?_)
        have hJ : bz_J G κ kX12_judge (d + 1) F bc bs 122 [some (.inr (some a0)), some (.inl x1), some (.inl x2), some (.inl x3)] [.inl (if x3 = x_33 then 0 else 1 + x3)] h := by
          exact bz_retI (pc := 122) dX12_judge_122 rfl rfl hP
        refine bz_icmp_ne (tgt := 119) (pc := 112) dX12_judge_112 (by decide) (fun c => ?_) (fun c => ?_)
        · have e9 : ((if x3 = x_33 then 0 else 1 + x3) : Int32) = (1 + x3) := if_neg c
          rw [e9] at hJ
          refine bz_iconst (v := 1) (pc := 119) dX12_judge_119 (by decide) ?_
          refine bz_iload_n (pc := 120) dX12_judge_120 rfl rfl ?_
          refine bz_iadd (pc := 121) dX12_judge_121 ?_
          exact hJ
        · have e9 : ((if x3 = x_33 then 0 else 1 + x3) : Int32) = (0) := if_pos c
          rw [e9] at hJ
          refine bz_iconst (v := 0) (pc := 115) dX12_judge_115 (by decide) ?_
          refine bz_goto (tgt := 122) (pc := 116) dX12_judge_116 (by decide) ?_
          exact hJ
    · have hP := hP.2 c
      refine bz_aload_n (pc := 69) dX12_judge_69 rfl rfl ?_
      refine bz_rw_rR (pc := 70) dX12_judge_70 fl_X12_58 hP (fun r_34 hP => ?_)
      refine bz_bipush (v := 60) (pc := 73) dX12_judge_73 (by decide) ?_
      refine bz_iload_n (pc := 75) dX12_judge_75 rfl rfl ?_
      refine bz_imul (pc := 76) dX12_judge_76 ?_
      refine bz_iload_n (pc := 77) dX12_judge_77 rfl rfl ?_
      refine bz_iadd (pc := 78) dX12_judge_78 ?_
      obtain ⟨a_35, rfl, hP⟩ := hP
      refine bz_rw_rA (pc := 79) dX12_judge_79 hP (fun x_36 hP => ?_)
      refine bz_aload_n (pc := 80) dX12_judge_80 rfl rfl ?_
      refine bz_rw_rR (pc := 81) dX12_judge_81 fl_X12_49 hP (fun r_37 hP => ?_)
      refine bz_iload_n (pc := 84) dX12_judge_84 rfl rfl ?_
      obtain ⟨a_38, rfl, hP⟩ := hP
      refine bz_rw_rA (pc := 85) dX12_judge_85 hP (fun x_39 hP => ?_)
      refine bz_icmp_ne (tgt := 95) (pc := 86) dX12_judge_86 (by decide) (fun c => ?_) (fun c => ?_)
      · have hP := hP.1 c
        refine bz_iload_n (pc := 95) dX12_judge_95 rfl rfl ?_
        refine bz_aload_n (pc := 96) dX12_judge_96 rfl rfl ?_
        refine bz_rw_rR (pc := 97) dX12_judge_97 fl_X12_55 hP (fun r_40 hP => ?_)
        refine bz_iload_n (pc := 100) dX12_judge_100 rfl rfl ?_
        obtain ⟨a_41, rfl, hP⟩ := hP
        refine bz_rw_rA (pc := 101) dX12_judge_101 hP (fun x_42 hP => ?_)
        refine bz_icmp_ne (tgt := 119) (pc := 102) dX12_judge_102 (by decide) (fun c => ?_) (fun c => ?_)
        · have hP := hP.1 c
          refine bz_iconst (v := 1) (pc := 119) dX12_judge_119 (by decide) ?_
          refine bz_iload_n (pc := 120) dX12_judge_120 rfl rfl ?_
          refine bz_iadd (pc := 121) dX12_judge_121 ?_
          exact bz_retI (pc := 122) dX12_judge_122 rfl rfl hP
        · have hP := hP.2 c
          refine bz_iload_n (pc := 105) dX12_judge_105 rfl rfl ?_
          refine bz_aload_n (pc := 106) dX12_judge_106 rfl rfl ?_
          refine bz_rw_rR (pc := 107) dX12_judge_107 fl_X12_7 hP (fun r_43 hP => ?_)
          refine bz_iconst (v := 2) (pc := 110) dX12_judge_110 (by decide) ?_
          obtain ⟨a_44, rfl, hP⟩ := hP
          refine bz_rw_rA (pc := 111) dX12_judge_111 hP (fun x_45 hP => ?_)
          have hJ : bz_J G κ kX12_judge (d + 1) F bc bs 122 [some (.inr (some a0)), some (.inl x1), some (.inl x2), some (.inl x3)] [.inl (if x3 = x_45 then 0 else 1 + x3)] h := by
            exact bz_retI (pc := 122) dX12_judge_122 rfl rfl hP
          refine bz_icmp_ne (tgt := 119) (pc := 112) dX12_judge_112 (by decide) (fun c => ?_) (fun c => ?_)
          · have e9 : ((if x3 = x_45 then 0 else 1 + x3) : Int32) = (1 + x3) := if_neg c
            rw [e9] at hJ
            refine bz_iconst (v := 1) (pc := 119) dX12_judge_119 (by decide) ?_
            refine bz_iload_n (pc := 120) dX12_judge_120 rfl rfl ?_
            refine bz_iadd (pc := 121) dX12_judge_121 ?_
            exact hJ
          · have e9 : ((if x3 = x_45 then 0 else 1 + x3) : Int32) = (0) := if_pos c
            rw [e9] at hJ
            refine bz_iconst (v := 0) (pc := 115) dX12_judge_115 (by decide) ?_
            refine bz_goto (tgt := 122) (pc := 116) dX12_judge_116 (by decide) ?_
            exact hJ
      · have hP := hP.2 c
        refine bz_s_iinc (pc := 89) dX12_judge_89 (by decide) rfl rfl [some (.inr (some a0)), some (.inl x1), some (.inl x2), some (.inl (x3 + 1))] rfl ?_
        refine bz_goto (tgt := 49) (pc := 92) dX12_judge_92 (by decide) ?_
        exact hP
theorem m_X12_judge {G : bz_G} {l : Launch} {d mc ms : Nat} {F : Option bz_V → bz_H → Prop} (a0 : Nat) (x1 : Int32) (x2 : Int32) (h : bz_H) (hP : ∀ (κ : bz_K) (bc bs : Nat), κ.2.1 = l → bz_cI G l d kX12_isSheet [.inl x1] h 0 0 (fun x_1 h_2 => (¬ x_1 = 0 → bz_rR h_2 a0 12 30 (fun r_3 => bz_nn r_3 (fun a_4 => bz_rA h_2 a_4 x1 (fun x_5 => (¬ x_5 = 0 → bz_rc h_2 a0 12 (bz_cI G l d kX12_isText [.inr (some a0), .inl x2] h_2 0 0 (fun x_6 h_7 => (¬ x_6 = 0 → bz_rc h_7 a0 12 (bz_cV G l d kX12_goesNight [.inr (some a0), .inl x2] h_7 0 0 (fun h_9 => bz_J G κ kX12_judge (d + 1) F bc bs 49 [some (.inr (some a0)), some (.inl x1), some (.inl x2), some (.inl 0)] [] h_9))) ∧ (x_6 = 0 → bz_rc h_7 a0 12 (bz_cI G l d kX12_finding [.inr (some a0), .inl 0] h_7 0 0 (fun x_10 h_11 => F (some (.inl x_10)) h_11)))))) ∧ (x_5 = 0 → bz_rc h_2 a0 12 (bz_cI G l d kX12_finding [.inr (some a0), .inl 5] h_2 0 0 (fun x_12 h_13 => F (some (.inl x_12)) h_13))))))) ∧ (x_1 = 0 → bz_rc h_2 a0 12 (bz_cI G l d kX12_finding [.inr (some a0), .inl 0] h_2 0 0 (fun x_14 h_15 => F (some (.inl x_14)) h_15))))) : bz_Call G l (d + 1) kX12_judge [.inr (some a0), .inl x1, .inl x2] h mc ms F :=
  bz_body (by decide) (by decide) (fun κ hl => g_X12_judge_0 hl a0 x1 x2 h (hP κ mc ms hl))
