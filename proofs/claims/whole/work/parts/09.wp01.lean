set_option maxRecDepth 20000 in
set_option maxHeartbeats 4000000 in
theorem g_X6_readTerm_0 {G : bz_G} {κ : bz_K} {l : Launch} {d : Nat} {F : Option bz_V → bz_H → Prop} {bc bs : Nat} (hl : κ.2.1 = l) (a0 : Nat) (x1 : Int32) (h : bz_H) (hP : bz_rc h a0 6 (bz_cI G l d kX6_readOne [.inr (some a0), .inl x1] h 0 0 (fun x_1 h_2 => bz_J G κ kX6_readTerm (d + 1) F bc bs 8 [some (.inr (some a0)), some (.inl x1), some (.inl x_1), some (.inl 0), none] [] h_2))) : bz_J G κ kX6_readTerm (d + 1) F bc bs 0 [some (.inr (some a0)), some (.inl x1), none, none, none] [] h := by
  subst hl
  refine bz_aload_n (pc := 0) dX6_readTerm_0 rfl rfl ?_
  refine bz_iload_n (pc := 1) dX6_readTerm_1 rfl rfl ?_
  refine bz_kIV (as := [.inl x1]) (st := []) (ci := 6) (pc := 2) dX6_readTerm_2 sc_X6_readOne ml_X6_50 im_X6_readOne se_X6_readOne rfl rfl rfl (by decide) hP (fun x_1 h_2 hP => ?_)
  refine bz_s_istore_n (pc := 5) dX6_readTerm_5 rfl (by decide) [some (.inr (some a0)), some (.inl x1), some (.inl x_1), none, none] rfl ?_
  refine bz_iconst (v := 0) (pc := 6) dX6_readTerm_6 (by decide) ?_
  refine bz_s_istore_n (pc := 7) dX6_readTerm_7 rfl (by decide) [some (.inr (some a0)), some (.inl x1), some (.inl x_1), some (.inl 0), none] rfl ?_
  exact hP
set_option maxRecDepth 20000 in
set_option maxHeartbeats 4000000 in
theorem g_X6_readTerm_8 {G : bz_G} {κ : bz_K} {l : Launch} {d : Nat} {F : Option bz_V → bz_H → Prop} {bc bs : Nat} (hl : κ.2.1 = l) (a0 : Nat) (x1 : Int32) (x2 : Int32) (x3 : Int32) (u4 : Option bz_V) (h : bz_H) (hP : (80 ≤ x3 → bz_b x2 (F (some (.inl x2)) h)) ∧ (¬ (80 ≤ x3) → (x2 = 0 → bz_b x2 (F (some (.inl x2)) h)) ∧ (¬ (x2 = 0) → bz_rI h a0 6 4 (fun x_3 => (x_3 = 42 → bz_rI h a0 6 4 (fun x_4 => bz_rc h a0 6 (bz_cV G l d kX6_advance [.inr (some a0)] h 0 0 (fun h_6 => bz_rc h_6 a0 6 (bz_cI G l d kX6_readOne [.inr (some a0), .inl x1] h_6 0 0 (fun x_7 h_8 => (x_7 = 0 → bz_J G κ kX6_readTerm (d + 1) F bc bs 8 [some (.inr (some a0)), some (.inl x1), some (.inl 0), some (.inl (x3 + 1)), some (.inl x_4)] [] h_8) ∧ (¬ (x_7 = 0) → bz_rc h_8 a0 6 (bz_cI G l d kX6_putStep [.inr (some a0), .inl (10007 + x_4)] h_8 0 0 (fun x_9 h_10 => bz_J G κ kX6_readTerm (d + 1) F bc bs 8 [some (.inr (some a0)), some (.inl x1), some (.inl (if x_9 = 0 then 0 else 1)), some (.inl (x3 + 1)), some (.inl x_4)] [] h_10))))))))) ∧ (¬ (x_3 = 42) → bz_rI h a0 6 4 (fun x_11 => (¬ x_11 = 47 → bz_b x2 (F (some (.inl x2)) h)) ∧ (x_11 = 47 → bz_rI h a0 6 4 (fun x_12 => bz_rc h a0 6 (bz_cV G l d kX6_advance [.inr (some a0)] h 0 0 (fun h_14 => bz_rc h_14 a0 6 (bz_cI G l d kX6_readOne [.inr (some a0), .inl x1] h_14 0 0 (fun x_15 h_16 => (x_15 = 0 → bz_J G κ kX6_readTerm (d + 1) F bc bs 8 [some (.inr (some a0)), some (.inl x1), some (.inl 0), some (.inl (x3 + 1)), some (.inl x_12)] [] h_16) ∧ (¬ (x_15 = 0) → bz_rc h_16 a0 6 (bz_cI G l d kX6_putStep [.inr (some a0), .inl (10007 + x_12)] h_16 0 0 (fun x_17 h_18 => bz_J G κ kX6_readTerm (d + 1) F bc bs 8 [some (.inr (some a0)), some (.inl x1), some (.inl (if x_17 = 0 then 0 else 1)), some (.inl (x3 + 1)), some (.inl x_12)] [] h_18))))))))))))))) : bz_J G κ kX6_readTerm (d + 1) F bc bs 8 [some (.inr (some a0)), some (.inl x1), some (.inl x2), some (.inl x3), u4] [] h := by
  subst hl
  refine bz_iload_n (pc := 8) dX6_readTerm_8 rfl rfl ?_
  refine bz_bipush (v := 80) (pc := 9) dX6_readTerm_9 (by decide) ?_
  refine bz_icmp_ge (tgt := 79) (pc := 11) dX6_readTerm_11 (by decide) (fun c => ?_) (fun c => ?_)
  · have hP := hP.1 c
    refine bz_iload_n (pc := 79) dX6_readTerm_79 rfl rfl ?_
    obtain ⟨hb, hP⟩ := hP
    exact bz_retI (pc := 80) dX6_readTerm_80 rfl (by rcases hb with hb | hb <;> rw [hb] <;> rfl) hP
  · have hP := hP.2 c
    refine bz_iload_n (pc := 14) dX6_readTerm_14 rfl rfl ?_
    refine bz_if_eq (tgt := 79) (pc := 15) dX6_readTerm_15 (by decide) (fun c => ?_) (fun c => ?_)
    · have hP := hP.1 c
      refine bz_iload_n (pc := 79) dX6_readTerm_79 rfl rfl ?_
      obtain ⟨hb, hP⟩ := hP
      exact bz_retI (pc := 80) dX6_readTerm_80 rfl (by rcases hb with hb | hb <;> rw [hb] <;> rfl) hP
    · have hP := hP.2 c
      refine bz_aload_n (pc := 18) dX6_readTerm_18 rfl rfl ?_
      refine bz_rw_rI (pc := 19) dX6_readTerm_19 fl_X6_35 hP (fun x_3 hP => ?_)
      refine bz_bipush (v := 42) (pc := 22) dX6_readTerm_22 (by decide) ?_
      refine bz_icmp_eq (tgt := 36) (pc := 24) dX6_readTerm_24 (by decide) (fun c => ?_) (fun c => ?_)
      · have hP := hP.1 c
        refine bz_aload_n (pc := 36) dX6_readTerm_36 rfl rfl ?_
        refine bz_rw_rI (pc := 37) dX6_readTerm_37 fl_X6_35 hP (fun x_4 hP => ?_)
        refine bz_s_istore (pc := 40) dX6_readTerm_40 (by decide) [some (.inr (some a0)), some (.inl x1), some (.inl x2), some (.inl x3), some (.inl x_4)] rfl ?_
        refine bz_aload_n (pc := 42) dX6_readTerm_42 rfl rfl ?_
        refine bz_kVV (as := []) (st := []) (ci := 6) (pc := 43) dX6_readTerm_43 sc_X6_advance ml_X6_28 im_X6_advance se_X6_advance rfl rfl rfl (by decide) hP (fun h_6 hP => ?_)
        refine bz_aload_n (pc := 46) dX6_readTerm_46 rfl rfl ?_
        refine bz_iload_n (pc := 47) dX6_readTerm_47 rfl rfl ?_
        refine bz_kIV (as := [.inl x1]) (st := []) (ci := 6) (pc := 48) dX6_readTerm_48 sc_X6_readOne ml_X6_50 im_X6_readOne se_X6_readOne rfl rfl rfl (by decide) hP (fun x_7 h_8 hP => ?_)
        refine bz_if_eq (tgt := 71) (pc := 51) dX6_readTerm_51 (by decide) (fun c => ?_) (fun c => ?_)
        · have hP := hP.1 c
          refine bz_iconst (v := 0) (pc := 71) dX6_readTerm_71 (by decide) ?_
          refine bz_s_istore_n (pc := 72) dX6_readTerm_72 rfl (by decide) [some (.inr (some a0)), some (.inl x1), some (.inl 0), some (.inl x3), some (.inl x_4)] rfl ?_
          refine bz_s_iinc (pc := 73) dX6_readTerm_73 (by decide) rfl rfl [some (.inr (some a0)), some (.inl x1), some (.inl 0), some (.inl (x3 + 1)), some (.inl x_4)] rfl ?_
          refine bz_goto (tgt := 8) (pc := 76) dX6_readTerm_76 (by decide) ?_
          exact hP
        · have hP := hP.2 c
          refine bz_aload_n (pc := 54) dX6_readTerm_54 rfl rfl ?_
          refine bz_sipush (v := 10007) (pc := 55) dX6_readTerm_55 (by decide) ?_
          refine bz_iload (pc := 58) dX6_readTerm_58 rfl ?_
          refine bz_iadd (pc := 60) dX6_readTerm_60 ?_
          refine bz_kIV (as := [.inl (10007 + x_4)]) (st := []) (ci := 6) (pc := 61) dX6_readTerm_61 sc_X6_putStep ml_X6_44 im_X6_putStep se_X6_putStep rfl rfl rfl (by decide) hP (fun x_9 h_10 hP => ?_)
          have hJ : bz_J G κ kX6_readTerm (d + 1) F bc bs 72 [some (.inr (some a0)), some (.inl x1), some (.inl x2), some (.inl x3), some (.inl x_4)] [.inl (if x_9 = 0 then 0 else 1)] h_10 := by
            refine bz_s_istore_n (pc := 72) dX6_readTerm_72 rfl (by decide) [some (.inr (some a0)), some (.inl x1), some (.inl (if x_9 = 0 then 0 else 1)), some (.inl x3), some (.inl x_4)] rfl ?_
            refine bz_s_iinc (pc := 73) dX6_readTerm_73 (by decide) rfl rfl [some (.inr (some a0)), some (.inl x1), some (.inl (if x_9 = 0 then 0 else 1)), some (.inl (x3 + 1)), some (.inl x_4)] rfl ?_
            refine bz_goto (tgt := 8) (pc := 76) dX6_readTerm_76 (by decide) ?_
            exact hP
          refine bz_if_eq (tgt := 71) (pc := 64) dX6_readTerm_64 (by decide) (fun c => ?_) (fun c => ?_)
          · have e9 : ((if x_9 = 0 then 0 else 1) : Int32) = (0) := if_pos c
            rw [e9] at hJ
            refine bz_iconst (v := 0) (pc := 71) dX6_readTerm_71 (by decide) ?_
            exact hJ
          · have e9 : ((if x_9 = 0 then 0 else 1) : Int32) = (1) := if_neg c
            rw [e9] at hJ
            refine bz_iconst (v := 1) (pc := 67) dX6_readTerm_67 (by decide) ?_
            refine bz_goto (tgt := 72) (pc := 68) dX6_readTerm_68 (by decide) ?_
            exact hJ
      · have hP := hP.2 c
        refine bz_aload_n (pc := 27) dX6_readTerm_27 rfl rfl ?_
        refine bz_rw_rI (pc := 28) dX6_readTerm_28 fl_X6_35 hP (fun x_11 hP => ?_)
        refine bz_bipush (v := 47) (pc := 31) dX6_readTerm_31 (by decide) ?_
        refine bz_icmp_ne (tgt := 79) (pc := 33) dX6_readTerm_33 (by decide) (fun c => ?_) (fun c => ?_)
        · have hP := hP.1 c
          refine bz_iload_n (pc := 79) dX6_readTerm_79 rfl rfl ?_
          obtain ⟨hb, hP⟩ := hP
          exact bz_retI (pc := 80) dX6_readTerm_80 rfl (by rcases hb with hb | hb <;> rw [hb] <;> rfl) hP
        · have hP := hP.2 c
          refine bz_aload_n (pc := 36) dX6_readTerm_36 rfl rfl ?_
          refine bz_rw_rI (pc := 37) dX6_readTerm_37 fl_X6_35 hP (fun x_12 hP => ?_)
          refine bz_s_istore (pc := 40) dX6_readTerm_40 (by decide) [some (.inr (some a0)), some (.inl x1), some (.inl x2), some (.inl x3), some (.inl x_12)] rfl ?_
          refine bz_aload_n (pc := 42) dX6_readTerm_42 rfl rfl ?_
          refine bz_kVV (as := []) (st := []) (ci := 6) (pc := 43) dX6_readTerm_43 sc_X6_advance ml_X6_28 im_X6_advance se_X6_advance rfl rfl rfl (by decide) hP (fun h_14 hP => ?_)
          refine bz_aload_n (pc := 46) dX6_readTerm_46 rfl rfl ?_
          refine bz_iload_n (pc := 47) dX6_readTerm_47 rfl rfl ?_
          refine bz_kIV (as := [.inl x1]) (st := []) (ci := 6) (pc := 48) dX6_readTerm_48 sc_X6_readOne ml_X6_50 im_X6_readOne se_X6_readOne rfl rfl rfl (by decide) hP (fun x_15 h_16 hP => ?_)
          refine bz_if_eq (tgt := 71) (pc := 51) dX6_readTerm_51 (by decide) (fun c => ?_) (fun c => ?_)
          · have hP := hP.1 c
            refine bz_iconst (v := 0) (pc := 71) dX6_readTerm_71 (by decide) ?_
            refine bz_s_istore_n (pc := 72) dX6_readTerm_72 rfl (by decide) [some (.inr (some a0)), some (.inl x1), some (.inl 0), some (.inl x3), some (.inl x_12)] rfl ?_
            refine bz_s_iinc (pc := 73) dX6_readTerm_73 (by decide) rfl rfl [some (.inr (some a0)), some (.inl x1), some (.inl 0), some (.inl (x3 + 1)), some (.inl x_12)] rfl ?_
            refine bz_goto (tgt := 8) (pc := 76) dX6_readTerm_76 (by decide) ?_
            exact hP
          · have hP := hP.2 c
            refine bz_aload_n (pc := 54) dX6_readTerm_54 rfl rfl ?_
            refine bz_sipush (v := 10007) (pc := 55) dX6_readTerm_55 (by decide) ?_
            refine bz_iload (pc := 58) dX6_readTerm_58 rfl ?_
            refine bz_iadd (pc := 60) dX6_readTerm_60 ?_
            refine bz_kIV (as := [.inl (10007 + x_12)]) (st := []) (ci := 6) (pc := 61) dX6_readTerm_61 sc_X6_putStep ml_X6_44 im_X6_putStep se_X6_putStep rfl rfl rfl (by decide) hP (fun x_17 h_18 hP => ?_)
            have hJ : bz_J G κ kX6_readTerm (d + 1) F bc bs 72 [some (.inr (some a0)), some (.inl x1), some (.inl x2), some (.inl x3), some (.inl x_12)] [.inl (if x_17 = 0 then 0 else 1)] h_18 := by
              refine bz_s_istore_n (pc := 72) dX6_readTerm_72 rfl (by decide) [some (.inr (some a0)), some (.inl x1), some (.inl (if x_17 = 0 then 0 else 1)), some (.inl x3), some (.inl x_12)] rfl ?_
              refine bz_s_iinc (pc := 73) dX6_readTerm_73 (by decide) rfl rfl [some (.inr (some a0)), some (.inl x1), some (.inl (if x_17 = 0 then 0 else 1)), some (.inl (x3 + 1)), some (.inl x_12)] rfl ?_
              refine bz_goto (tgt := 8) (pc := 76) dX6_readTerm_76 (by decide) ?_
              exact hP
            refine bz_if_eq (tgt := 71) (pc := 64) dX6_readTerm_64 (by decide) (fun c => ?_) (fun c => ?_)
            · have e9 : ((if x_17 = 0 then 0 else 1) : Int32) = (0) := if_pos c
              rw [e9] at hJ
              refine bz_iconst (v := 0) (pc := 71) dX6_readTerm_71 (by decide) ?_
              exact hJ
            · have e9 : ((if x_17 = 0 then 0 else 1) : Int32) = (1) := if_neg c
              rw [e9] at hJ
              refine bz_iconst (v := 1) (pc := 67) dX6_readTerm_67 (by decide) ?_
              refine bz_goto (tgt := 72) (pc := 68) dX6_readTerm_68 (by decide) ?_
              exact hJ
theorem m_X6_readTerm {G : bz_G} {l : Launch} {d mc ms : Nat} {F : Option bz_V → bz_H → Prop} (a0 : Nat) (x1 : Int32) (h : bz_H) (hP : ∀ (κ : bz_K) (bc bs : Nat), κ.2.1 = l → bz_rc h a0 6 (bz_cI G l d kX6_readOne [.inr (some a0), .inl x1] h 0 0 (fun x_1 h_2 => bz_J G κ kX6_readTerm (d + 1) F bc bs 8 [some (.inr (some a0)), some (.inl x1), some (.inl x_1), some (.inl 0), none] [] h_2))) : bz_Call G l (d + 1) kX6_readTerm [.inr (some a0), .inl x1] h mc ms F :=
  bz_body (by decide) (by decide) (fun κ hl => g_X6_readTerm_0 hl a0 x1 h (hP κ mc ms hl))
set_option maxRecDepth 20000 in
set_option maxHeartbeats 4000000 in
theorem g_X6_readText_0 {G : bz_G} {κ : bz_K} {l : Launch} {d : Nat} {F : Option bz_V → bz_H → Prop} {bc bs : Nat} (hl : κ.2.1 = l) (a0 : Nat) (x1 : Int32) (h : bz_H) (hP : bz_rc h a0 6 (bz_cI G l d kX6_readSum [.inr (some a0), .inl x1] h 0 0 (fun x_1 h_2 => (¬ x_1 = 0 → bz_rI h_2 a0 6 4 (fun x_3 => (x_3 = 60 → bz_rc h_2 a0 6 (bz_cV G l d kX6_advance [.inr (some a0)] h_2 0 0 (fun h_5 => bz_rc h_5 a0 6 (bz_cI G l d kX6_readSum [.inr (some a0), .inl x1] h_5 0 0 (fun x_6 h_7 => (x_6 = 0 → F (some (.inl 0)) h_7) ∧ (¬ (x_6 = 0) → bz_rc h_7 a0 6 (bz_cI G l d kX6_putStep [.inr (some a0), .inl (10007 + x_3)] h_7 0 0 (fun x_8 h_9 => F (some (.inl (if x_8 = 0 then 0 else 1))) h_9)))))))) ∧ (¬ (x_3 = 60) → (x_3 = 61 → bz_rc h_2 a0 6 (bz_cV G l d kX6_advance [.inr (some a0)] h_2 0 0 (fun h_11 => bz_rc h_11 a0 6 (bz_cI G l d kX6_readSum [.inr (some a0), .inl x1] h_11 0 0 (fun x_12 h_13 => (x_12 = 0 → F (some (.inl 0)) h_13) ∧ (¬ (x_12 = 0) → bz_rc h_13 a0 6 (bz_cI G l d kX6_putStep [.inr (some a0), .inl (10007 + x_3)] h_13 0 0 (fun x_14 h_15 => F (some (.inl (if x_14 = 0 then 0 else 1))) h_15)))))))) ∧ (¬ (x_3 = 61) → F (some (.inl 1)) h_2)))) ∧ (x_1 = 0 → F (some (.inl 0)) h_2)))) : bz_J G κ kX6_readText (d + 1) F bc bs 0 [some (.inr (some a0)), some (.inl x1), none] [] h := by
  subst hl
  refine bz_aload_n (pc := 0) dX6_readText_0 rfl rfl ?_
  refine bz_iload_n (pc := 1) dX6_readText_1 rfl rfl ?_
  refine bz_kIV (as := [.inl x1]) (st := []) (ci := 6) (pc := 2) dX6_readText_2 sc_X6_readSum ml_X6_41 im_X6_readSum se_X6_readSum rfl rfl rfl (by decide) hP (fun x_1 h_2 hP => ?_)
  refine bz_if_ne (tgt := 10) (pc := 5) dX6_readText_5 (by decide) (fun c => ?_) (fun c => ?_)
  · have hP := hP.1 c
    refine bz_aload_n (pc := 10) dX6_readText_10 rfl rfl ?_
    refine bz_rw_rI (pc := 11) dX6_readText_11 fl_X6_35 hP (fun x_3 hP => ?_)
    refine bz_s_istore_n (pc := 14) dX6_readText_14 rfl (by decide) [some (.inr (some a0)), some (.inl x1), some (.inl x_3)] rfl ?_
    refine bz_iload_n (pc := 15) dX6_readText_15 rfl rfl ?_
    refine bz_bipush (v := 60) (pc := 16) dX6_readText_16 (by decide) ?_
    refine bz_icmp_eq (tgt := 29) (pc := 18) dX6_readText_18 (by decide) (fun c => ?_) (fun c => ?_)
    · have hP := hP.1 c
      refine bz_aload_n (pc := 29) dX6_readText_29 rfl rfl ?_
      refine bz_kVV (as := []) (st := []) (ci := 6) (pc := 30) dX6_readText_30 sc_X6_advance ml_X6_28 im_X6_advance se_X6_advance rfl rfl rfl (by decide) hP (fun h_5 hP => ?_)
      refine bz_aload_n (pc := 33) dX6_readText_33 rfl rfl ?_
      refine bz_iload_n (pc := 34) dX6_readText_34 rfl rfl ?_
      refine bz_kIV (as := [.inl x1]) (st := []) (ci := 6) (pc := 35) dX6_readText_35 sc_X6_readSum ml_X6_41 im_X6_readSum se_X6_readSum rfl rfl rfl (by decide) hP (fun x_6 h_7 hP => ?_)
      refine bz_if_eq (tgt := 57) (pc := 38) dX6_readText_38 (by decide) (fun c => ?_) (fun c => ?_)
      · have hP := hP.1 c
        refine bz_iconst (v := 0) (pc := 57) dX6_readText_57 (by decide) ?_
        exact bz_retI (pc := 58) dX6_readText_58 rfl rfl hP
      · have hP := hP.2 c
        refine bz_aload_n (pc := 41) dX6_readText_41 rfl rfl ?_
        refine bz_sipush (v := 10007) (pc := 42) dX6_readText_42 (by decide) ?_
        refine bz_iload_n (pc := 45) dX6_readText_45 rfl rfl ?_
        refine bz_iadd (pc := 46) dX6_readText_46 ?_
        refine bz_kIV (as := [.inl (10007 + x_3)]) (st := []) (ci := 6) (pc := 47) dX6_readText_47 sc_X6_putStep ml_X6_44 im_X6_putStep se_X6_putStep rfl rfl rfl (by decide) hP (fun x_8 h_9 hP => ?_)
        have hJ : bz_J G κ kX6_readText (d + 1) F bc bs 58 [some (.inr (some a0)), some (.inl x1), some (.inl x_3)] [.inl (if x_8 = 0 then 0 else 1)] h_9 := by
          exact bz_retI (pc := 58) dX6_readText_58 rfl (by (repeat' split) <;> rfl) hP
        refine bz_if_eq (tgt := 57) (pc := 50) dX6_readText_50 (by decide) (fun c => ?_) (fun c => ?_)
        · have e9 : ((if x_8 = 0 then 0 else 1) : Int32) = (0) := if_pos c
          rw [e9] at hJ
          refine bz_iconst (v := 0) (pc := 57) dX6_readText_57 (by decide) ?_
          exact hJ
        · have e9 : ((if x_8 = 0 then 0 else 1) : Int32) = (1) := if_neg c
          rw [e9] at hJ
          refine bz_iconst (v := 1) (pc := 53) dX6_readText_53 (by decide) ?_
          refine bz_goto (tgt := 58) (pc := 54) dX6_readText_54 (by decide) ?_
          exact hJ
    · have hP := hP.2 c
      refine bz_iload_n (pc := 21) dX6_readText_21 rfl rfl ?_
      refine bz_bipush (v := 61) (pc := 22) dX6_readText_22 (by decide) ?_
      refine bz_icmp_eq (tgt := 29) (pc := 24) dX6_readText_24 (by decide) (fun c => ?_) (fun c => ?_)
      · have hP := hP.1 c
        refine bz_aload_n (pc := 29) dX6_readText_29 rfl rfl ?_
        refine bz_kVV (as := []) (st := []) (ci := 6) (pc := 30) dX6_readText_30 sc_X6_advance ml_X6_28 im_X6_advance se_X6_advance rfl rfl rfl (by decide) hP (fun h_11 hP => ?_)
        refine bz_aload_n (pc := 33) dX6_readText_33 rfl rfl ?_
        refine bz_iload_n (pc := 34) dX6_readText_34 rfl rfl ?_
        refine bz_kIV (as := [.inl x1]) (st := []) (ci := 6) (pc := 35) dX6_readText_35 sc_X6_readSum ml_X6_41 im_X6_readSum se_X6_readSum rfl rfl rfl (by decide) hP (fun x_12 h_13 hP => ?_)
        refine bz_if_eq (tgt := 57) (pc := 38) dX6_readText_38 (by decide) (fun c => ?_) (fun c => ?_)
        · have hP := hP.1 c
          refine bz_iconst (v := 0) (pc := 57) dX6_readText_57 (by decide) ?_
          exact bz_retI (pc := 58) dX6_readText_58 rfl rfl hP
        · have hP := hP.2 c
          refine bz_aload_n (pc := 41) dX6_readText_41 rfl rfl ?_
          refine bz_sipush (v := 10007) (pc := 42) dX6_readText_42 (by decide) ?_
          refine bz_iload_n (pc := 45) dX6_readText_45 rfl rfl ?_
          refine bz_iadd (pc := 46) dX6_readText_46 ?_
          refine bz_kIV (as := [.inl (10007 + x_3)]) (st := []) (ci := 6) (pc := 47) dX6_readText_47 sc_X6_putStep ml_X6_44 im_X6_putStep se_X6_putStep rfl rfl rfl (by decide) hP (fun x_14 h_15 hP => ?_)
          have hJ : bz_J G κ kX6_readText (d + 1) F bc bs 58 [some (.inr (some a0)), some (.inl x1), some (.inl x_3)] [.inl (if x_14 = 0 then 0 else 1)] h_15 := by
            exact bz_retI (pc := 58) dX6_readText_58 rfl (by (repeat' split) <;> rfl) hP
          refine bz_if_eq (tgt := 57) (pc := 50) dX6_readText_50 (by decide) (fun c => ?_) (fun c => ?_)
          · have e9 : ((if x_14 = 0 then 0 else 1) : Int32) = (0) := if_pos c
            rw [e9] at hJ
            refine bz_iconst (v := 0) (pc := 57) dX6_readText_57 (by decide) ?_
            exact hJ
          · have e9 : ((if x_14 = 0 then 0 else 1) : Int32) = (1) := if_neg c
            rw [e9] at hJ
            refine bz_iconst (v := 1) (pc := 53) dX6_readText_53 (by decide) ?_
            refine bz_goto (tgt := 58) (pc := 54) dX6_readText_54 (by decide) ?_
            exact hJ
      · have hP := hP.2 c
        refine bz_iconst (v := 1) (pc := 27) dX6_readText_27 (by decide) ?_
        exact bz_retI (pc := 28) dX6_readText_28 rfl rfl hP
  · have hP := hP.2 c
    refine bz_iconst (v := 0) (pc := 8) dX6_readText_8 (by decide) ?_
    exact bz_retI (pc := 9) dX6_readText_9 rfl rfl hP
theorem m_X6_readText {G : bz_G} {l : Launch} {d mc ms : Nat} {F : Option bz_V → bz_H → Prop} (a0 : Nat) (x1 : Int32) (h : bz_H) (hP : bz_rc h a0 6 (bz_cI G l d kX6_readSum [.inr (some a0), .inl x1] h 0 0 (fun x_1 h_2 => (¬ x_1 = 0 → bz_rI h_2 a0 6 4 (fun x_3 => (x_3 = 60 → bz_rc h_2 a0 6 (bz_cV G l d kX6_advance [.inr (some a0)] h_2 0 0 (fun h_5 => bz_rc h_5 a0 6 (bz_cI G l d kX6_readSum [.inr (some a0), .inl x1] h_5 0 0 (fun x_6 h_7 => (x_6 = 0 → F (some (.inl 0)) h_7) ∧ (¬ (x_6 = 0) → bz_rc h_7 a0 6 (bz_cI G l d kX6_putStep [.inr (some a0), .inl (10007 + x_3)] h_7 0 0 (fun x_8 h_9 => F (some (.inl (if x_8 = 0 then 0 else 1))) h_9)))))))) ∧ (¬ (x_3 = 60) → (x_3 = 61 → bz_rc h_2 a0 6 (bz_cV G l d kX6_advance [.inr (some a0)] h_2 0 0 (fun h_11 => bz_rc h_11 a0 6 (bz_cI G l d kX6_readSum [.inr (some a0), .inl x1] h_11 0 0 (fun x_12 h_13 => (x_12 = 0 → F (some (.inl 0)) h_13) ∧ (¬ (x_12 = 0) → bz_rc h_13 a0 6 (bz_cI G l d kX6_putStep [.inr (some a0), .inl (10007 + x_3)] h_13 0 0 (fun x_14 h_15 => F (some (.inl (if x_14 = 0 then 0 else 1))) h_15)))))))) ∧ (¬ (x_3 = 61) → F (some (.inl 1)) h_2)))) ∧ (x_1 = 0 → F (some (.inl 0)) h_2)))) : bz_Call G l (d + 1) kX6_readText [.inr (some a0), .inl x1] h mc ms F :=
  bz_body (by decide) (by decide) (fun κ hl => g_X6_readText_0 hl a0 x1 h hP)
set_option maxRecDepth 20000 in
set_option maxHeartbeats 4000000 in
theorem g_X6_takeNumber_0 {G : bz_G} {κ : bz_K} {l : Launch} {d : Nat} {F : Option bz_V → bz_H → Prop} {bc bs : Nat} (hl : κ.2.1 = l) (a0 : Nat) (h : bz_H) (hP : bz_wI h a0 6 7 0 (fun h_1 => bz_J G κ kX6_takeNumber (d + 1) F bc bs 5 [some (.inr (some a0))] [] h_1)) : bz_J G κ kX6_takeNumber (d + 1) F bc bs 0 [some (.inr (some a0))] [] h := by
  subst hl
  refine bz_aload_n (pc := 0) dX6_takeNumber_0 rfl rfl ?_
  refine bz_iconst (v := 0) (pc := 1) dX6_takeNumber_1 (by decide) ?_
  refine bz_rw_wI (pc := 2) dX6_takeNumber_2 fl_X6_53 (fun q h9 => by cases h9; rfl) rfl hP (fun h_1 hP => ?_)
  exact hP
set_option maxRecDepth 20000 in
set_option maxHeartbeats 4000000 in
theorem g_X6_takeNumber_5 {G : bz_G} {κ : bz_K} {l : Launch} {d : Nat} {F : Option bz_V → bz_H → Prop} {bc bs : Nat} (hl : κ.2.1 = l) (a0 : Nat) (h : bz_H) (hP : bz_rI h a0 6 6 (fun x_2 => bz_rI h a0 6 1 (fun x_3 => (x_3 ≤ x_2 → bz_rI h a0 6 7 (fun x_4 => bz_wI h a0 6 4 (if x_4 ≤ 9999 then 2 else 1) (fun h_5 => F none h_5))) ∧ (¬ (x_3 ≤ x_2) → bz_rR h a0 6 0 (fun r_6 => bz_rI h a0 6 6 (fun x_7 => bz_nn r_6 (fun a_8 => bz_rA h a_8 x_7 (fun x_9 => (x_9 < 48 → bz_rI h a0 6 7 (fun x_10 => bz_wI h a0 6 4 (if x_10 ≤ 9999 then 2 else 1) (fun h_11 => F none h_11))) ∧ (¬ (x_9 < 48) → bz_rR h a0 6 0 (fun r_12 => bz_rI h a0 6 6 (fun x_13 => bz_nn r_12 (fun a_14 => bz_rA h a_14 x_13 (fun x_15 => (57 < x_15 → bz_rI h a0 6 7 (fun x_16 => bz_wI h a0 6 4 (if x_16 ≤ 9999 then 2 else 1) (fun h_17 => F none h_17))) ∧ (¬ (57 < x_15) → bz_rI h a0 6 7 (fun x_18 => (9999 < x_18 → bz_rI h a0 6 6 (fun x_19 => bz_wI h a0 6 6 (x_19 + 1) (fun h_20 => bz_J G κ kX6_takeNumber (d + 1) F bc bs 5 [some (.inr (some a0))] [] h_20))) ∧ (¬ (9999 < x_18) → bz_rI h a0 6 7 (fun x_21 => bz_rR h a0 6 0 (fun r_22 => bz_rI h a0 6 6 (fun x_23 => bz_nn r_22 (fun a_24 => bz_rA h a_24 x_23 (fun x_25 => bz_wI h a0 6 7 (((10 * x_21) + x_25) - 48) (fun h_26 => bz_rI h_26 a0 6 6 (fun x_27 => bz_wI h_26 a0 6 6 (x_27 + 1) (fun h_28 => bz_J G κ kX6_takeNumber (d + 1) F bc bs 5 [some (.inr (some a0))] [] h_28)))))))))))))))))))))))) : bz_J G κ kX6_takeNumber (d + 1) F bc bs 5 [some (.inr (some a0))] [] h := by
  subst hl
  refine bz_aload_n (pc := 5) dX6_takeNumber_5 rfl rfl ?_
  refine bz_rw_rI (pc := 6) dX6_takeNumber_6 fl_X6_25 hP (fun x_2 hP => ?_)
  refine bz_aload_n (pc := 9) dX6_takeNumber_9 rfl rfl ?_
  refine bz_rw_rI (pc := 10) dX6_takeNumber_10 fl_X6_18 hP (fun x_3 hP => ?_)
  refine bz_icmp_ge (tgt := 91) (pc := 13) dX6_takeNumber_13 (by decide) (fun c => ?_) (fun c => ?_)
  · have hP := hP.1 c
    refine bz_aload_n (pc := 91) dX6_takeNumber_91 rfl rfl ?_
    refine bz_aload_n (pc := 92) dX6_takeNumber_92 rfl rfl ?_
    refine bz_rw_rI (pc := 93) dX6_takeNumber_93 fl_X6_53 hP (fun x_4 hP => ?_)
    refine bz_sipush (v := 9999) (pc := 96) dX6_takeNumber_96 (by decide) ?_
    have hJ : bz_J G κ kX6_takeNumber (d + 1) F bc bs 107 [some (.inr (some a0))] [.inl (if x_4 ≤ 9999 then 2 else 1), .inr (some a0)] h := by
      refine bz_rw_wI (pc := 107) dX6_takeNumber_107 fl_X6_35 (fun q h9 => by cases h9; rfl) rfl hP (fun h_5 hP => ?_)
      exact bz_retV (pc := 110) dX6_takeNumber_110 rfl hP
    refine bz_icmp_le (tgt := 106) (pc := 99) dX6_takeNumber_99 (by decide) (fun c => ?_) (fun c => ?_)
    · have e9 : ((if x_4 ≤ 9999 then 2 else 1) : Int32) = (2) := if_pos c
      rw [e9] at hJ
      refine bz_iconst (v := 2) (pc := 106) dX6_takeNumber_106 (by decide) ?_
      exact hJ
    · have e9 : ((if x_4 ≤ 9999 then 2 else 1) : Int32) = (1) := if_neg c
      rw [e9] at hJ
      refine bz_iconst (v := 1) (pc := 102) dX6_takeNumber_102 (by decide) ?_
      refine bz_goto (tgt := 107) (pc := 103) dX6_takeNumber_103 (by decide) ?_
      exact hJ
  · have hP := hP.2 c
    refine bz_aload_n (pc := 16) dX6_takeNumber_16 rfl rfl ?_
    refine bz_rw_rR (pc := 17) dX6_takeNumber_17 fl_X6_9 hP (fun r_6 hP => ?_)
    refine bz_aload_n (pc := 20) dX6_takeNumber_20 rfl rfl ?_
    refine bz_rw_rI (pc := 21) dX6_takeNumber_21 fl_X6_25 hP (fun x_7 hP => ?_)
    obtain ⟨a_8, rfl, hP⟩ := hP
    refine bz_rw_rA (pc := 24) dX6_takeNumber_24 hP (fun x_9 hP => ?_)
    refine bz_bipush (v := 48) (pc := 25) dX6_takeNumber_25 (by decide) ?_
    refine bz_icmp_lt (tgt := 91) (pc := 27) dX6_takeNumber_27 (by decide) (fun c => ?_) (fun c => ?_)
    · have hP := hP.1 c
      refine bz_aload_n (pc := 91) dX6_takeNumber_91 rfl rfl ?_
      refine bz_aload_n (pc := 92) dX6_takeNumber_92 rfl rfl ?_
      refine bz_rw_rI (pc := 93) dX6_takeNumber_93 fl_X6_53 hP (fun x_10 hP => ?_)
      refine bz_sipush (v := 9999) (pc := 96) dX6_takeNumber_96 (by decide) ?_
      have hJ : bz_J G κ kX6_takeNumber (d + 1) F bc bs 107 [some (.inr (some a0))] [.inl (if x_10 ≤ 9999 then 2 else 1), .inr (some a0)] h := by
        refine bz_rw_wI (pc := 107) dX6_takeNumber_107 fl_X6_35 (fun q h9 => by cases h9; rfl) rfl hP (fun h_11 hP => ?_)
        exact bz_retV (pc := 110) dX6_takeNumber_110 rfl hP
      refine bz_icmp_le (tgt := 106) (pc := 99) dX6_takeNumber_99 (by decide) (fun c => ?_) (fun c => ?_)
      · have e9 : ((if x_10 ≤ 9999 then 2 else 1) : Int32) = (2) := if_pos c
        rw [e9] at hJ
        refine bz_iconst (v := 2) (pc := 106) dX6_takeNumber_106 (by decide) ?_
        exact hJ
      · have e9 : ((if x_10 ≤ 9999 then 2 else 1) : Int32) = (1) := if_neg c
        rw [e9] at hJ
        refine bz_iconst (v := 1) (pc := 102) dX6_takeNumber_102 (by decide) ?_
        refine bz_goto (tgt := 107) (pc := 103) dX6_takeNumber_103 (by decide) ?_
        exact hJ
    · have hP := hP.2 c
      refine bz_aload_n (pc := 30) dX6_takeNumber_30 rfl rfl ?_
      refine bz_rw_rR (pc := 31) dX6_takeNumber_31 fl_X6_9 hP (fun r_12 hP => ?_)
      refine bz_aload_n (pc := 34) dX6_takeNumber_34 rfl rfl ?_
      refine bz_rw_rI (pc := 35) dX6_takeNumber_35 fl_X6_25 hP (fun x_13 hP => ?_)
      obtain ⟨a_14, rfl, hP⟩ := hP
      refine bz_rw_rA (pc := 38) dX6_takeNumber_38 hP (fun x_15 hP => ?_)
      refine bz_bipush (v := 57) (pc := 39) dX6_takeNumber_39 (by decide) ?_
      refine bz_icmp_gt (tgt := 91) (pc := 41) dX6_takeNumber_41 (by decide) (fun c => ?_) (fun c => ?_)
      · have hP := hP.1 c
        refine bz_aload_n (pc := 91) dX6_takeNumber_91 rfl rfl ?_
        refine bz_aload_n (pc := 92) dX6_takeNumber_92 rfl rfl ?_
        refine bz_rw_rI (pc := 93) dX6_takeNumber_93 fl_X6_53 hP (fun x_16 hP => ?_)
        refine bz_sipush (v := 9999) (pc := 96) dX6_takeNumber_96 (by decide) ?_
        have hJ : bz_J G κ kX6_takeNumber (d + 1) F bc bs 107 [some (.inr (some a0))] [.inl (if x_16 ≤ 9999 then 2 else 1), .inr (some a0)] h := by
          refine bz_rw_wI (pc := 107) dX6_takeNumber_107 fl_X6_35 (fun q h9 => by cases h9; rfl) rfl hP (fun h_17 hP => ?_)
          exact bz_retV (pc := 110) dX6_takeNumber_110 rfl hP
        refine bz_icmp_le (tgt := 106) (pc := 99) dX6_takeNumber_99 (by decide) (fun c => ?_) (fun c => ?_)
        · have e9 : ((if x_16 ≤ 9999 then 2 else 1) : Int32) = (2) := if_pos c
          rw [e9] at hJ
          refine bz_iconst (v := 2) (pc := 106) dX6_takeNumber_106 (by decide) ?_
          exact hJ
        · have e9 : ((if x_16 ≤ 9999 then 2 else 1) : Int32) = (1) := if_neg c
          rw [e9] at hJ
          refine bz_iconst (v := 1) (pc := 102) dX6_takeNumber_102 (by decide) ?_
          refine bz_goto (tgt := 107) (pc := 103) dX6_takeNumber_103 (by decide) ?_
          exact hJ
      · have hP := hP.2 c
        refine bz_aload_n (pc := 44) dX6_takeNumber_44 rfl rfl ?_
        refine bz_rw_rI (pc := 45) dX6_takeNumber_45 fl_X6_53 hP (fun x_18 hP => ?_)
        refine bz_sipush (v := 9999) (pc := 48) dX6_takeNumber_48 (by decide) ?_
        refine bz_icmp_gt (tgt := 78) (pc := 51) dX6_takeNumber_51 (by decide) (fun c => ?_) (fun c => ?_)
        · have hP := hP.1 c
          refine bz_aload_n (pc := 78) dX6_takeNumber_78 rfl rfl ?_
          refine bz_dup (pc := 79) dX6_takeNumber_79 ?_
          refine bz_rw_rI (pc := 80) dX6_takeNumber_80 fl_X6_25 hP (fun x_19 hP => ?_)
          refine bz_iconst (v := 1) (pc := 83) dX6_takeNumber_83 (by decide) ?_
          refine bz_iadd (pc := 84) dX6_takeNumber_84 ?_
          refine bz_rw_wI (pc := 85) dX6_takeNumber_85 fl_X6_25 (fun q h9 => by cases h9; rfl) rfl hP (fun h_20 hP => ?_)
          refine bz_goto (tgt := 5) (pc := 88) dX6_takeNumber_88 (by decide) ?_
          exact hP
        · have hP := hP.2 c
          refine bz_aload_n (pc := 54) dX6_takeNumber_54 rfl rfl ?_
          refine bz_bipush (v := 10) (pc := 55) dX6_takeNumber_55 (by decide) ?_
          refine bz_aload_n (pc := 57) dX6_takeNumber_57 rfl rfl ?_
          refine bz_rw_rI (pc := 58) dX6_takeNumber_58 fl_X6_53 hP (fun x_21 hP => ?_)
          refine bz_imul (pc := 61) dX6_takeNumber_61 ?_
          refine bz_aload_n (pc := 62) dX6_takeNumber_62 rfl rfl ?_
          refine bz_rw_rR (pc := 63) dX6_takeNumber_63 fl_X6_9 hP (fun r_22 hP => ?_)
          refine bz_aload_n (pc := 66) dX6_takeNumber_66 rfl rfl ?_
          refine bz_rw_rI (pc := 67) dX6_takeNumber_67 fl_X6_25 hP (fun x_23 hP => ?_)
          obtain ⟨a_24, rfl, hP⟩ := hP
          refine bz_rw_rA (pc := 70) dX6_takeNumber_70 hP (fun x_25 hP => ?_)
          refine bz_iadd (pc := 71) dX6_takeNumber_71 ?_
          refine bz_bipush (v := 48) (pc := 72) dX6_takeNumber_72 (by decide) ?_
          refine bz_isub (pc := 74) dX6_takeNumber_74 ?_
          refine bz_rw_wI (pc := 75) dX6_takeNumber_75 fl_X6_53 (fun q h9 => by cases h9; rfl) rfl hP (fun h_26 hP => ?_)
          refine bz_aload_n (pc := 78) dX6_takeNumber_78 rfl rfl ?_
          refine bz_dup (pc := 79) dX6_takeNumber_79 ?_
          refine bz_rw_rI (pc := 80) dX6_takeNumber_80 fl_X6_25 hP (fun x_27 hP => ?_)
          refine bz_iconst (v := 1) (pc := 83) dX6_takeNumber_83 (by decide) ?_
          refine bz_iadd (pc := 84) dX6_takeNumber_84 ?_
          refine bz_rw_wI (pc := 85) dX6_takeNumber_85 fl_X6_25 (fun q h9 => by cases h9; rfl) rfl hP (fun h_28 hP => ?_)
          refine bz_goto (tgt := 5) (pc := 88) dX6_takeNumber_88 (by decide) ?_
          exact hP
theorem m_X6_takeNumber {G : bz_G} {l : Launch} {d mc ms : Nat} {F : Option bz_V → bz_H → Prop} (a0 : Nat) (h : bz_H) (hP : ∀ (κ : bz_K) (bc bs : Nat), κ.2.1 = l → bz_wI h a0 6 7 0 (fun h_1 => bz_J G κ kX6_takeNumber (d + 1) F bc bs 5 [some (.inr (some a0))] [] h_1)) : bz_Call G l (d + 1) kX6_takeNumber [.inr (some a0)] h mc ms F :=
  bz_body (by decide) (by decide) (fun κ hl => g_X6_takeNumber_0 hl a0 h (hP κ mc ms hl))
set_option maxRecDepth 20000 in
set_option maxHeartbeats 4000000 in
theorem g_X7_init_0 {G : bz_G} {κ : bz_K} {l : Launch} {d : Nat} {F : Option bz_V → bz_H → Prop} {bc bs : Nat} (hl : κ.2.1 = l) (a0 : Nat) (r1 : Option Nat) (h : bz_H) (hP : bz_wR h a0 7 0 r1 (fun h_1 => F none h_1)) : bz_J G κ kX7_init (d + 1) F bc bs 0 [some (.inr (some a0)), some (.inr r1)] [] h := by
  subst hl
  refine bz_aload_n (pc := 0) dX7_init_0 rfl rfl ?_
  refine bz_objInit (pc := 1) dX7_init_1 ml_X7_1 oi_i oi_c (Nat.succ_pos d) (by decide) ?_
  refine bz_aload_n (pc := 4) dX7_init_4 rfl rfl ?_
  refine bz_aload_n (pc := 5) dX7_init_5 rfl rfl ?_
  refine bz_rw_wRF (pc := 6) dX7_init_6 fl_X7_7 (fun q h9 => by cases h9; exact ⟨rfl, rfl⟩) rfl (by first | exact Or.inl ⟨_, rfl⟩ | exact Or.inr ⟨_, rfl⟩) hP (fun h_1 hP => ?_)
  exact bz_retV (pc := 9) dX7_init_9 rfl hP
theorem m_X7_init {G : bz_G} {l : Launch} {d mc ms : Nat} {F : Option bz_V → bz_H → Prop} (a0 : Nat) (r1 : Option Nat) (h : bz_H) (hP : bz_wR h a0 7 0 r1 (fun h_1 => F none h_1)) : bz_Call G l (d + 1) kX7_init [.inr (some a0), .inr r1] h mc ms F :=
  bz_body (by decide) (by decide) (fun κ hl => g_X7_init_0 hl a0 r1 h hP)
set_option maxRecDepth 20000 in
set_option maxHeartbeats 4000000 in
theorem g_X8_addRoad_0 {G : bz_G} {κ : bz_K} {l : Launch} {d : Nat} {F : Option bz_V → bz_H → Prop} {bc bs : Nat} (hl : κ.2.1 = l) (a0 : Nat) (x1 : Int32) (x2 : Int32) (x3 : Int32) (h : bz_H) (hP : bz_rR h a0 8 2 (fun r_1 => bz_nn r_1 (fun a_2 => bz_rA h a_2 ((x1 * 16) + x2) (fun x_3 => (x_3 ≤ 0 → bz_rR h a0 8 2 (fun r_4 => bz_nn r_4 (fun a_5 => bz_wA h a_5 ((x1 * 16) + x2) x3 (fun h_6 => bz_rR h_6 a0 8 2 (fun r_7 => bz_nn r_7 (fun a_8 => bz_wA h_6 a_8 ((x2 * 16) + x1) x3 (fun h_9 => bz_rc h_9 a0 8 (bz_cV G l d kX8_measureWays [.inr (some a0)] h_9 0 0 (fun h_11 => F (some (.inl x3)) h_11))))))))) ∧ (¬ (x_3 ≤ 0) → (x3 < x_3 → bz_rR h a0 8 2 (fun r_12 => bz_nn r_12 (fun a_13 => bz_wA h a_13 ((x1 * 16) + x2) x3 (fun h_14 => bz_rR h_14 a0 8 2 (fun r_15 => bz_nn r_15 (fun a_16 => bz_wA h_14 a_16 ((x2 * 16) + x1) x3 (fun h_17 => bz_rc h_17 a0 8 (bz_cV G l d kX8_measureWays [.inr (some a0)] h_17 0 0 (fun h_19 => F (some (.inl x3)) h_19))))))))) ∧ (¬ (x3 < x_3) → F (some (.inl x_3)) h)))))) : bz_J G κ kX8_addRoad (d + 1) F bc bs 0 [some (.inr (some a0)), some (.inl x1), some (.inl x2), some (.inl x3), none] [] h := by
  subst hl
  refine bz_aload_n (pc := 0) dX8_addRoad_0 rfl rfl ?_
  refine bz_rw_rR (pc := 1) dX8_addRoad_1 fl_X8_18 hP (fun r_1 hP => ?_)
  refine bz_iload_n (pc := 4) dX8_addRoad_4 rfl rfl ?_
  refine bz_bipush (v := 16) (pc := 5) dX8_addRoad_5 (by decide) ?_
  refine bz_imul (pc := 7) dX8_addRoad_7 ?_
  refine bz_iload_n (pc := 8) dX8_addRoad_8 rfl rfl ?_
  refine bz_iadd (pc := 9) dX8_addRoad_9 ?_
  obtain ⟨a_2, rfl, hP⟩ := hP
  refine bz_rw_rA (pc := 10) dX8_addRoad_10 hP (fun x_3 hP => ?_)
  refine bz_s_istore (pc := 11) dX8_addRoad_11 (by decide) [some (.inr (some a0)), some (.inl x1), some (.inl x2), some (.inl x3), some (.inl x_3)] rfl ?_
  refine bz_iload (pc := 13) dX8_addRoad_13 rfl ?_
  refine bz_if_le (tgt := 27) (pc := 15) dX8_addRoad_15 (by decide) (fun c => ?_) (fun c => ?_)
  · have hP := hP.1 c
    refine bz_aload_n (pc := 27) dX8_addRoad_27 rfl rfl ?_
    refine bz_rw_rR (pc := 28) dX8_addRoad_28 fl_X8_18 hP (fun r_4 hP => ?_)
    refine bz_iload_n (pc := 31) dX8_addRoad_31 rfl rfl ?_
    refine bz_bipush (v := 16) (pc := 32) dX8_addRoad_32 (by decide) ?_
    refine bz_imul (pc := 34) dX8_addRoad_34 ?_
    refine bz_iload_n (pc := 35) dX8_addRoad_35 rfl rfl ?_
    refine bz_iadd (pc := 36) dX8_addRoad_36 ?_
    refine bz_iload_n (pc := 37) dX8_addRoad_37 rfl rfl ?_
    obtain ⟨a_5, rfl, hP⟩ := hP
    refine bz_rw_wA (pc := 38) dX8_addRoad_38 hP (fun h_6 hP => ?_)
    refine bz_aload_n (pc := 39) dX8_addRoad_39 rfl rfl ?_
    refine bz_rw_rR (pc := 40) dX8_addRoad_40 fl_X8_18 hP (fun r_7 hP => ?_)
    refine bz_iload_n (pc := 43) dX8_addRoad_43 rfl rfl ?_
    refine bz_bipush (v := 16) (pc := 44) dX8_addRoad_44 (by decide) ?_
    refine bz_imul (pc := 46) dX8_addRoad_46 ?_
    refine bz_iload_n (pc := 47) dX8_addRoad_47 rfl rfl ?_
    refine bz_iadd (pc := 48) dX8_addRoad_48 ?_
    refine bz_iload_n (pc := 49) dX8_addRoad_49 rfl rfl ?_
    obtain ⟨a_8, rfl, hP⟩ := hP
    refine bz_rw_wA (pc := 50) dX8_addRoad_50 hP (fun h_9 hP => ?_)
    refine bz_aload_n (pc := 51) dX8_addRoad_51 rfl rfl ?_
    refine bz_kVV (as := []) (st := []) (ci := 8) (pc := 52) dX8_addRoad_52 sc_X8_measureWays ml_X8_30 im_X8_measureWays se_X8_measureWays rfl rfl rfl (by decide) hP (fun h_11 hP => ?_)
    refine bz_iload_n (pc := 55) dX8_addRoad_55 rfl rfl ?_
    exact bz_retI (pc := 56) dX8_addRoad_56 rfl rfl hP
  · have hP := hP.2 c
    refine bz_iload (pc := 18) dX8_addRoad_18 rfl ?_
    refine bz_iload_n (pc := 20) dX8_addRoad_20 rfl rfl ?_
    refine bz_icmp_gt (tgt := 27) (pc := 21) dX8_addRoad_21 (by decide) (fun c => ?_) (fun c => ?_)
    · have hP := hP.1 c
      refine bz_aload_n (pc := 27) dX8_addRoad_27 rfl rfl ?_
      refine bz_rw_rR (pc := 28) dX8_addRoad_28 fl_X8_18 hP (fun r_12 hP => ?_)
      refine bz_iload_n (pc := 31) dX8_addRoad_31 rfl rfl ?_
      refine bz_bipush (v := 16) (pc := 32) dX8_addRoad_32 (by decide) ?_
      refine bz_imul (pc := 34) dX8_addRoad_34 ?_
      refine bz_iload_n (pc := 35) dX8_addRoad_35 rfl rfl ?_
      refine bz_iadd (pc := 36) dX8_addRoad_36 ?_
      refine bz_iload_n (pc := 37) dX8_addRoad_37 rfl rfl ?_
      obtain ⟨a_13, rfl, hP⟩ := hP
      refine bz_rw_wA (pc := 38) dX8_addRoad_38 hP (fun h_14 hP => ?_)
      refine bz_aload_n (pc := 39) dX8_addRoad_39 rfl rfl ?_
      refine bz_rw_rR (pc := 40) dX8_addRoad_40 fl_X8_18 hP (fun r_15 hP => ?_)
      refine bz_iload_n (pc := 43) dX8_addRoad_43 rfl rfl ?_
      refine bz_bipush (v := 16) (pc := 44) dX8_addRoad_44 (by decide) ?_
      refine bz_imul (pc := 46) dX8_addRoad_46 ?_
      refine bz_iload_n (pc := 47) dX8_addRoad_47 rfl rfl ?_
      refine bz_iadd (pc := 48) dX8_addRoad_48 ?_
      refine bz_iload_n (pc := 49) dX8_addRoad_49 rfl rfl ?_
      obtain ⟨a_16, rfl, hP⟩ := hP
      refine bz_rw_wA (pc := 50) dX8_addRoad_50 hP (fun h_17 hP => ?_)
      refine bz_aload_n (pc := 51) dX8_addRoad_51 rfl rfl ?_
      refine bz_kVV (as := []) (st := []) (ci := 8) (pc := 52) dX8_addRoad_52 sc_X8_measureWays ml_X8_30 im_X8_measureWays se_X8_measureWays rfl rfl rfl (by decide) hP (fun h_19 hP => ?_)
      refine bz_iload_n (pc := 55) dX8_addRoad_55 rfl rfl ?_
      exact bz_retI (pc := 56) dX8_addRoad_56 rfl rfl hP
    · have hP := hP.2 c
      refine bz_iload (pc := 24) dX8_addRoad_24 rfl ?_
      exact bz_retI (pc := 26) dX8_addRoad_26 rfl rfl hP
theorem m_X8_addRoad {G : bz_G} {l : Launch} {d mc ms : Nat} {F : Option bz_V → bz_H → Prop} (a0 : Nat) (x1 : Int32) (x2 : Int32) (x3 : Int32) (h : bz_H) (hP : bz_rR h a0 8 2 (fun r_1 => bz_nn r_1 (fun a_2 => bz_rA h a_2 ((x1 * 16) + x2) (fun x_3 => (x_3 ≤ 0 → bz_rR h a0 8 2 (fun r_4 => bz_nn r_4 (fun a_5 => bz_wA h a_5 ((x1 * 16) + x2) x3 (fun h_6 => bz_rR h_6 a0 8 2 (fun r_7 => bz_nn r_7 (fun a_8 => bz_wA h_6 a_8 ((x2 * 16) + x1) x3 (fun h_9 => bz_rc h_9 a0 8 (bz_cV G l d kX8_measureWays [.inr (some a0)] h_9 0 0 (fun h_11 => F (some (.inl x3)) h_11))))))))) ∧ (¬ (x_3 ≤ 0) → (x3 < x_3 → bz_rR h a0 8 2 (fun r_12 => bz_nn r_12 (fun a_13 => bz_wA h a_13 ((x1 * 16) + x2) x3 (fun h_14 => bz_rR h_14 a0 8 2 (fun r_15 => bz_nn r_15 (fun a_16 => bz_wA h_14 a_16 ((x2 * 16) + x1) x3 (fun h_17 => bz_rc h_17 a0 8 (bz_cV G l d kX8_measureWays [.inr (some a0)] h_17 0 0 (fun h_19 => F (some (.inl x3)) h_19))))))))) ∧ (¬ (x3 < x_3) → F (some (.inl x_3)) h)))))) : bz_Call G l (d + 1) kX8_addRoad [.inr (some a0), .inl x1, .inl x2, .inl x3] h mc ms F :=
  bz_body (by decide) (by decide) (fun κ hl => g_X8_addRoad_0 hl a0 x1 x2 x3 h hP)
set_option maxRecDepth 20000 in
set_option maxHeartbeats 4000000 in
theorem g_X8_becomeLike_0 {G : bz_G} {κ : bz_K} {l : Launch} {d : Nat} {F : Option bz_V → bz_H → Prop} {bc bs : Nat} (hl : κ.2.1 = l) (a0 : Nat) (r1 : Option Nat) (h : bz_H) (hP : bz_nn r1 (fun a_1 => bz_rR h a_1 8 0 (fun r_2 => bz_rR h a0 8 0 (fun r_3 => bz_nn r_3 (fun a_4 => bz_nn r_2 (fun a_5 => bz_cp h a_5 0 a_4 0 16 (fun h_6 => bz_rR h_6 a_1 8 1 (fun r_7 => bz_rR h_6 a0 8 1 (fun r_8 => bz_nn r_8 (fun a_9 => bz_nn r_7 (fun a_10 => bz_cp h_6 a_10 0 a_9 0 16 (fun h_11 => bz_rR h_11 a_1 8 2 (fun r_12 => bz_rR h_11 a0 8 2 (fun r_13 => bz_nn r_13 (fun a_14 => bz_nn r_12 (fun a_15 => bz_cp h_11 a_15 0 a_14 0 256 (fun h_16 => bz_rR h_16 a_1 8 3 (fun r_17 => bz_rR h_16 a0 8 3 (fun r_18 => bz_nn r_18 (fun a_19 => bz_nn r_17 (fun a_20 => bz_cp h_16 a_20 0 a_19 0 256 (fun h_21 => F none h_21)))))))))))))))))))))) : bz_J G κ kX8_becomeLike (d + 1) F bc bs 0 [some (.inr (some a0)), some (.inr r1)] [] h := by
  subst hl
  refine bz_aload_n (pc := 0) dX8_becomeLike_0 rfl rfl ?_
  obtain ⟨a_1, rfl, hP⟩ := hP
  refine bz_rw_rR (pc := 1) dX8_becomeLike_1 fl_X8_9 hP (fun r_2 hP => ?_)
  refine bz_iconst (v := 0) (pc := 4) dX8_becomeLike_4 (by decide) ?_
  refine bz_aload_n (pc := 5) dX8_becomeLike_5 rfl rfl ?_
  refine bz_rw_rR (pc := 6) dX8_becomeLike_6 fl_X8_9 hP (fun r_3 hP => ?_)
  refine bz_iconst (v := 0) (pc := 9) dX8_becomeLike_9 (by decide) ?_
  refine bz_bipush (v := 16) (pc := 10) dX8_becomeLike_10 (by decide) ?_
  obtain ⟨a_4, rfl, hP⟩ := hP
  obtain ⟨a_5, rfl, hP⟩ := hP
  refine bz_rw_cp (pc := 12) dX8_becomeLike_12 ml_X8_49 ac_n ac_s ac_i (by decide) hP (fun h_6 hP => ?_)
  refine bz_aload_n (pc := 15) dX8_becomeLike_15 rfl rfl ?_
  refine bz_rw_rR (pc := 16) dX8_becomeLike_16 fl_X8_15 hP (fun r_7 hP => ?_)
  refine bz_iconst (v := 0) (pc := 19) dX8_becomeLike_19 (by decide) ?_
  refine bz_aload_n (pc := 20) dX8_becomeLike_20 rfl rfl ?_
  refine bz_rw_rR (pc := 21) dX8_becomeLike_21 fl_X8_15 hP (fun r_8 hP => ?_)
  refine bz_iconst (v := 0) (pc := 24) dX8_becomeLike_24 (by decide) ?_
  refine bz_bipush (v := 16) (pc := 25) dX8_becomeLike_25 (by decide) ?_
  obtain ⟨a_9, rfl, hP⟩ := hP
  obtain ⟨a_10, rfl, hP⟩ := hP
  refine bz_rw_cp (pc := 27) dX8_becomeLike_27 ml_X8_49 ac_n ac_s ac_i (by decide) hP (fun h_11 hP => ?_)
  refine bz_aload_n (pc := 30) dX8_becomeLike_30 rfl rfl ?_
  refine bz_rw_rR (pc := 31) dX8_becomeLike_31 fl_X8_18 hP (fun r_12 hP => ?_)
  refine bz_iconst (v := 0) (pc := 34) dX8_becomeLike_34 (by decide) ?_
  refine bz_aload_n (pc := 35) dX8_becomeLike_35 rfl rfl ?_
  refine bz_rw_rR (pc := 36) dX8_becomeLike_36 fl_X8_18 hP (fun r_13 hP => ?_)
  refine bz_iconst (v := 0) (pc := 39) dX8_becomeLike_39 (by decide) ?_
  refine bz_sipush (v := 256) (pc := 40) dX8_becomeLike_40 (by decide) ?_
  obtain ⟨a_14, rfl, hP⟩ := hP
  obtain ⟨a_15, rfl, hP⟩ := hP
  refine bz_rw_cp (pc := 43) dX8_becomeLike_43 ml_X8_49 ac_n ac_s ac_i (by decide) hP (fun h_16 hP => ?_)
  refine bz_aload_n (pc := 46) dX8_becomeLike_46 rfl rfl ?_
  refine bz_rw_rR (pc := 47) dX8_becomeLike_47 fl_X8_21 hP (fun r_17 hP => ?_)
  refine bz_iconst (v := 0) (pc := 50) dX8_becomeLike_50 (by decide) ?_
  refine bz_aload_n (pc := 51) dX8_becomeLike_51 rfl rfl ?_
  refine bz_rw_rR (pc := 52) dX8_becomeLike_52 fl_X8_21 hP (fun r_18 hP => ?_)
  refine bz_iconst (v := 0) (pc := 55) dX8_becomeLike_55 (by decide) ?_
  refine bz_sipush (v := 256) (pc := 56) dX8_becomeLike_56 (by decide) ?_
  obtain ⟨a_19, rfl, hP⟩ := hP
  obtain ⟨a_20, rfl, hP⟩ := hP
  refine bz_rw_cp (pc := 59) dX8_becomeLike_59 ml_X8_49 ac_n ac_s ac_i (by decide) hP (fun h_21 hP => ?_)
  exact bz_retV (pc := 62) dX8_becomeLike_62 rfl hP
theorem m_X8_becomeLike {G : bz_G} {l : Launch} {d mc ms : Nat} {F : Option bz_V → bz_H → Prop} (a0 : Nat) (r1 : Option Nat) (h : bz_H) (hP : bz_nn r1 (fun a_1 => bz_rR h a_1 8 0 (fun r_2 => bz_rR h a0 8 0 (fun r_3 => bz_nn r_3 (fun a_4 => bz_nn r_2 (fun a_5 => bz_cp h a_5 0 a_4 0 16 (fun h_6 => bz_rR h_6 a_1 8 1 (fun r_7 => bz_rR h_6 a0 8 1 (fun r_8 => bz_nn r_8 (fun a_9 => bz_nn r_7 (fun a_10 => bz_cp h_6 a_10 0 a_9 0 16 (fun h_11 => bz_rR h_11 a_1 8 2 (fun r_12 => bz_rR h_11 a0 8 2 (fun r_13 => bz_nn r_13 (fun a_14 => bz_nn r_12 (fun a_15 => bz_cp h_11 a_15 0 a_14 0 256 (fun h_16 => bz_rR h_16 a_1 8 3 (fun r_17 => bz_rR h_16 a0 8 3 (fun r_18 => bz_nn r_18 (fun a_19 => bz_nn r_17 (fun a_20 => bz_cp h_16 a_20 0 a_19 0 256 (fun h_21 => F none h_21)))))))))))))))))))))) : bz_Call G l (d + 1) kX8_becomeLike [.inr (some a0), .inr r1] h mc ms F :=
  bz_body (by decide) (by decide) (fun κ hl => g_X8_becomeLike_0 hl a0 r1 h hP)
set_option maxRecDepth 20000 in
set_option maxHeartbeats 4000000 in
theorem g_X8_directWay_0 {G : bz_G} {κ : bz_K} {l : Launch} {d : Nat} {F : Option bz_V → bz_H → Prop} {bc bs : Nat} (hl : κ.2.1 = l) (a0 : Nat) (x1 : Int32) (x2 : Int32) (h : bz_H) (hP : (¬ x1 = x2 → bz_rR h a0 8 2 (fun r_1 => bz_nn r_1 (fun a_2 => bz_rA h a_2 ((x1 * 16) + x2) (fun x_3 => (¬ x_3 = 0 → bz_rR h a0 8 0 (fun r_4 => bz_nn r_4 (fun a_5 => bz_rA h a_5 x2 (fun x_6 => bz_rR h a0 8 0 (fun r_7 => bz_nn r_7 (fun a_8 => bz_rA h a_8 x1 (fun x_9 => F (some (.inl (x_3 + (if 0 < (x_6 - x_9) then x_6 - x_9 else 0)))) h))))))) ∧ (x_3 = 0 → F (some (.inl (-1))) h))))) ∧ (x1 = x2 → F (some (.inl 0)) h)) : bz_J G κ kX8_directWay (d + 1) F bc bs 0 [some (.inr (some a0)), some (.inl x1), some (.inl x2), none] [] h := by
  subst hl
  refine bz_iload_n (pc := 0) dX8_directWay_0 rfl rfl ?_
  refine bz_iload_n (pc := 1) dX8_directWay_1 rfl rfl ?_
  refine bz_icmp_ne (tgt := 7) (pc := 2) dX8_directWay_2 (by decide) (fun c => ?_) (fun c => ?_)
  · have hP := hP.1 c
    refine bz_aload_n (pc := 7) dX8_directWay_7 rfl rfl ?_
    refine bz_rw_rR (pc := 8) dX8_directWay_8 fl_X8_18 hP (fun r_1 hP => ?_)
    refine bz_iload_n (pc := 11) dX8_directWay_11 rfl rfl ?_
    refine bz_bipush (v := 16) (pc := 12) dX8_directWay_12 (by decide) ?_
    refine bz_imul (pc := 14) dX8_directWay_14 ?_
    refine bz_iload_n (pc := 15) dX8_directWay_15 rfl rfl ?_
    refine bz_iadd (pc := 16) dX8_directWay_16 ?_
    obtain ⟨a_2, rfl, hP⟩ := hP
    refine bz_rw_rA (pc := 17) dX8_directWay_17 hP (fun x_3 hP => ?_)
    refine bz_s_istore_n (pc := 18) dX8_directWay_18 rfl (by decide) [some (.inr (some a0)), some (.inl x1), some (.inl x2), some (.inl x_3)] rfl ?_
    refine bz_iload_n (pc := 19) dX8_directWay_19 rfl rfl ?_
    refine bz_if_ne (tgt := 27) (pc := 20) dX8_directWay_20 (by decide) (fun c => ?_) (fun c => ?_)
    · have hP := hP.1 c
      refine bz_iload_n (pc := 27) dX8_directWay_27 rfl rfl ?_
      refine bz_iconst (v := 0) (pc := 28) dX8_directWay_28 (by decide) ?_
      refine bz_aload_n (pc := 29) dX8_directWay_29 rfl rfl ?_
      refine bz_rw_rR (pc := 30) dX8_directWay_30 fl_X8_9 hP (fun r_4 hP => ?_)
      refine bz_iload_n (pc := 33) dX8_directWay_33 rfl rfl ?_
      obtain ⟨a_5, rfl, hP⟩ := hP
      refine bz_rw_rA (pc := 34) dX8_directWay_34 hP (fun x_6 hP => ?_)
      refine bz_aload_n (pc := 35) dX8_directWay_35 rfl rfl ?_
      refine bz_rw_rR (pc := 36) dX8_directWay_36 fl_X8_9 hP (fun r_7 hP => ?_)
      refine bz_iload_n (pc := 39) dX8_directWay_39 rfl rfl ?_
      obtain ⟨a_8, rfl, hP⟩ := hP
      refine bz_rw_rA (pc := 40) dX8_directWay_40 hP (fun x_9 hP => ?_)
      refine bz_isub (pc := 41) dX8_directWay_41 ?_
      refine bz_mmax (pc := 42) dX8_directWay_42 ml_X8_44 mt_max mt_init mt_code_max (Nat.succ_pos d) (by decide) ?_
      refine bz_iadd (pc := 45) dX8_directWay_45 ?_
      exact bz_retI (pc := 46) dX8_directWay_46 rfl rfl hP
    · have hP := hP.2 c
      refine bz_iconst (v := (-1)) (pc := 23) dX8_directWay_23 (by decide) ?_
      refine bz_goto (tgt := 46) (pc := 24) dX8_directWay_24 (by decide) ?_
      exact bz_retI (pc := 46) dX8_directWay_46 rfl rfl hP
  · have hP := hP.2 c
    refine bz_iconst (v := 0) (pc := 5) dX8_directWay_5 (by decide) ?_
    exact bz_retI (pc := 6) dX8_directWay_6 rfl rfl hP
theorem m_X8_directWay {G : bz_G} {l : Launch} {d mc ms : Nat} {F : Option bz_V → bz_H → Prop} (a0 : Nat) (x1 : Int32) (x2 : Int32) (h : bz_H) (hP : (¬ x1 = x2 → bz_rR h a0 8 2 (fun r_1 => bz_nn r_1 (fun a_2 => bz_rA h a_2 ((x1 * 16) + x2) (fun x_3 => (¬ x_3 = 0 → bz_rR h a0 8 0 (fun r_4 => bz_nn r_4 (fun a_5 => bz_rA h a_5 x2 (fun x_6 => bz_rR h a0 8 0 (fun r_7 => bz_nn r_7 (fun a_8 => bz_rA h a_8 x1 (fun x_9 => F (some (.inl (x_3 + (if 0 < (x_6 - x_9) then x_6 - x_9 else 0)))) h))))))) ∧ (x_3 = 0 → F (some (.inl (-1))) h))))) ∧ (x1 = x2 → F (some (.inl 0)) h)) : bz_Call G l (d + 1) kX8_directWay [.inr (some a0), .inl x1, .inl x2] h mc ms F :=
  bz_body (by decide) (by decide) (fun κ hl => g_X8_directWay_0 hl a0 x1 x2 h hP)
set_option maxRecDepth 20000 in
set_option maxHeartbeats 4000000 in
theorem g_X8_measureWays_0 {G : bz_G} {κ : bz_K} {l : Launch} {d : Nat} {F : Option bz_V → bz_H → Prop} {bc bs : Nat} (hl : κ.2.1 = l) (a0 : Nat) (h : bz_H) (hP : bz_J G κ kX8_measureWays (d + 1) F bc bs 2 [some (.inr (some a0)), some (.inl 0), none] [] h) : bz_J G κ kX8_measureWays (d + 1) F bc bs 0 [some (.inr (some a0)), none, none] [] h := by
  subst hl
  refine bz_iconst (v := 0) (pc := 0) dX8_measureWays_0 (by decide) ?_
  refine bz_s_istore_n (pc := 1) dX8_measureWays_1 rfl (by decide) [some (.inr (some a0)), some (.inl 0), none] rfl ?_
  exact hP
set_option maxRecDepth 20000 in
set_option maxHeartbeats 4000000 in
theorem g_X8_measureWays_2 {G : bz_G} {κ : bz_K} {l : Launch} {d : Nat} {F : Option bz_V → bz_H → Prop} {bc bs : Nat} (hl : κ.2.1 = l) (a0 : Nat) (x1 : Int32) (u2 : Option bz_V) (h : bz_H) (hP : (16 ≤ x1 → bz_J G κ kX8_measureWays (d + 1) F bc bs 47 [some (.inr (some a0)), some (.inl 0), u2] [] h) ∧ (¬ (16 ≤ x1) → bz_J G κ kX8_measureWays (d + 1) F bc bs 10 [some (.inr (some a0)), some (.inl x1), some (.inl 0)] [] h)) : bz_J G κ kX8_measureWays (d + 1) F bc bs 2 [some (.inr (some a0)), some (.inl x1), u2] [] h := by
  subst hl
  refine bz_iload_n (pc := 2) dX8_measureWays_2 rfl rfl ?_
  refine bz_bipush (v := 16) (pc := 3) dX8_measureWays_3 (by decide) ?_
  refine bz_icmp_ge (tgt := 45) (pc := 5) dX8_measureWays_5 (by decide) (fun c => ?_) (fun c => ?_)
  · have hP := hP.1 c
    refine bz_iconst (v := 0) (pc := 45) dX8_measureWays_45 (by decide) ?_
    refine bz_s_istore_n (pc := 46) dX8_measureWays_46 rfl (by decide) [some (.inr (some a0)), some (.inl 0), u2] rfl ?_
    exact hP
  · have hP := hP.2 c
    refine bz_iconst (v := 0) (pc := 8) dX8_measureWays_8 (by decide) ?_
    refine bz_s_istore_n (pc := 9) dX8_measureWays_9 rfl (by decide) [some (.inr (some a0)), some (.inl x1), some (.inl 0)] rfl ?_
    exact hP
set_option maxRecDepth 20000 in
set_option maxHeartbeats 4000000 in
theorem g_X8_measureWays_10 {G : bz_G} {κ : bz_K} {l : Launch} {d : Nat} {F : Option bz_V → bz_H → Prop} {bc bs : Nat} (hl : κ.2.1 = l) (a0 : Nat) (x1 : Int32) (x2 : Int32) (h : bz_H) (hP : (16 ≤ x2 → bz_J G κ kX8_measureWays (d + 1) F bc bs 2 [some (.inr (some a0)), some (.inl (x1 + 1)), some (.inl x2)] [] h) ∧ (¬ (16 ≤ x2) → bz_rR h a0 8 3 (fun r_1 => bz_rc h a0 8 (bz_cI G l d kX8_directWay [.inr (some a0), .inl x1, .inl x2] h 0 0 (fun x_2 h_3 => bz_nn r_1 (fun a_4 => bz_wA h_3 a_4 ((x1 * 16) + x2) x_2 (fun h_5 => bz_J G κ kX8_measureWays (d + 1) F bc bs 10 [some (.inr (some a0)), some (.inl x1), some (.inl (x2 + 1))] [] h_5))))))) : bz_J G κ kX8_measureWays (d + 1) F bc bs 10 [some (.inr (some a0)), some (.inl x1), some (.inl x2)] [] h := by
  subst hl
  refine bz_iload_n (pc := 10) dX8_measureWays_10 rfl rfl ?_
  refine bz_bipush (v := 16) (pc := 11) dX8_measureWays_11 (by decide) ?_
  refine bz_icmp_ge (tgt := 39) (pc := 13) dX8_measureWays_13 (by decide) (fun c => ?_) (fun c => ?_)
  · have hP := hP.1 c
    refine bz_s_iinc (pc := 39) dX8_measureWays_39 (by decide) rfl rfl [some (.inr (some a0)), some (.inl (x1 + 1)), some (.inl x2)] rfl ?_
    refine bz_goto (tgt := 2) (pc := 42) dX8_measureWays_42 (by decide) ?_
    exact hP
  · have hP := hP.2 c
    refine bz_aload_n (pc := 16) dX8_measureWays_16 rfl rfl ?_
    refine bz_rw_rR (pc := 17) dX8_measureWays_17 fl_X8_21 hP (fun r_1 hP => ?_)
    refine bz_iload_n (pc := 20) dX8_measureWays_20 rfl rfl ?_
    refine bz_bipush (v := 16) (pc := 21) dX8_measureWays_21 (by decide) ?_
    refine bz_imul (pc := 23) dX8_measureWays_23 ?_
    refine bz_iload_n (pc := 24) dX8_measureWays_24 rfl rfl ?_
    refine bz_iadd (pc := 25) dX8_measureWays_25 ?_
    refine bz_aload_n (pc := 26) dX8_measureWays_26 rfl rfl ?_
    refine bz_iload_n (pc := 27) dX8_measureWays_27 rfl rfl ?_
    refine bz_iload_n (pc := 28) dX8_measureWays_28 rfl rfl ?_
    refine bz_kIV (as := [.inl x1, .inl x2]) (st := [.inl ((x1 * 16) + x2), .inr r_1]) (ci := 8) (pc := 29) dX8_measureWays_29 sc_X8_directWay ml_X8_33 im_X8_directWay se_X8_directWay rfl rfl rfl (by decide) hP (fun x_2 h_3 hP => ?_)
    obtain ⟨a_4, rfl, hP⟩ := hP
    refine bz_rw_wA (pc := 32) dX8_measureWays_32 hP (fun h_5 hP => ?_)
    refine bz_s_iinc (pc := 33) dX8_measureWays_33 (by decide) rfl rfl [some (.inr (some a0)), some (.inl x1), some (.inl (x2 + 1))] rfl ?_
    refine bz_goto (tgt := 10) (pc := 36) dX8_measureWays_36 (by decide) ?_
    exact hP
set_option maxRecDepth 20000 in
set_option maxHeartbeats 4000000 in
theorem g_X8_measureWays_47 {G : bz_G} {κ : bz_K} {l : Launch} {d : Nat} {F : Option bz_V → bz_H → Prop} {bc bs : Nat} (hl : κ.2.1 = l) (a0 : Nat) (x1 : Int32) (u2 : Option bz_V) (h : bz_H) (hP : (16 ≤ x1 → F none h) ∧ (¬ (16 ≤ x1) → bz_J G κ kX8_measureWays (d + 1) F bc bs 55 [some (.inr (some a0)), some (.inl x1), some (.inl 0)] [] h)) : bz_J G κ kX8_measureWays (d + 1) F bc bs 47 [some (.inr (some a0)), some (.inl x1), u2] [] h := by
  subst hl
  refine bz_iload_n (pc := 47) dX8_measureWays_47 rfl rfl ?_
  refine bz_bipush (v := 16) (pc := 48) dX8_measureWays_48 (by decide) ?_
  refine bz_icmp_ge (tgt := 89) (pc := 50) dX8_measureWays_50 (by decide) (fun c => ?_) (fun c => ?_)
  · have hP := hP.1 c
    exact bz_retV (pc := 89) dX8_measureWays_89 rfl hP
  · have hP := hP.2 c
    refine bz_iconst (v := 0) (pc := 53) dX8_measureWays_53 (by decide) ?_
    refine bz_s_istore_n (pc := 54) dX8_measureWays_54 rfl (by decide) [some (.inr (some a0)), some (.inl x1), some (.inl 0)] rfl ?_
    exact hP
set_option maxRecDepth 20000 in
set_option maxHeartbeats 4000000 in
theorem g_X8_measureWays_55 {G : bz_G} {κ : bz_K} {l : Launch} {d : Nat} {F : Option bz_V → bz_H → Prop} {bc bs : Nat} (hl : κ.2.1 = l) (a0 : Nat) (x1 : Int32) (x2 : Int32) (h : bz_H) (hP : (16 ≤ x2 → bz_J G κ kX8_measureWays (d + 1) F bc bs 47 [some (.inr (some a0)), some (.inl (x1 + 1)), some (.inl x2)] [] h) ∧ (¬ (16 ≤ x2) → bz_rc h a0 8 (bz_cI G l d kX8_wayBetween [.inr (some a0), .inl x2, .inl x1] h 0 0 (fun x_6 h_7 => (x_6 = (-1) → bz_J G κ kX8_measureWays (d + 1) F bc bs 55 [some (.inr (some a0)), some (.inl x1), some (.inl (x2 + 1))] [] h_7) ∧ (¬ (x_6 = (-1)) → bz_rc h_7 a0 8 (bz_cV G l d kX8_shortenThrough [.inr (some a0), .inl x2, .inl x1] h_7 0 0 (fun h_9 => bz_J G κ kX8_measureWays (d + 1) F bc bs 55 [some (.inr (some a0)), some (.inl x1), some (.inl (x2 + 1))] [] h_9))))))) : bz_J G κ kX8_measureWays (d + 1) F bc bs 55 [some (.inr (some a0)), some (.inl x1), some (.inl x2)] [] h := by
  subst hl
  refine bz_iload_n (pc := 55) dX8_measureWays_55 rfl rfl ?_
  refine bz_bipush (v := 16) (pc := 56) dX8_measureWays_56 (by decide) ?_
  refine bz_icmp_ge (tgt := 83) (pc := 58) dX8_measureWays_58 (by decide) (fun c => ?_) (fun c => ?_)
  · have hP := hP.1 c
    refine bz_s_iinc (pc := 83) dX8_measureWays_83 (by decide) rfl rfl [some (.inr (some a0)), some (.inl (x1 + 1)), some (.inl x2)] rfl ?_
    refine bz_goto (tgt := 47) (pc := 86) dX8_measureWays_86 (by decide) ?_
    exact hP
  · have hP := hP.2 c
    refine bz_aload_n (pc := 61) dX8_measureWays_61 rfl rfl ?_
    refine bz_iload_n (pc := 62) dX8_measureWays_62 rfl rfl ?_
    refine bz_iload_n (pc := 63) dX8_measureWays_63 rfl rfl ?_
    refine bz_kIV (as := [.inl x2, .inl x1]) (st := []) (ci := 8) (pc := 64) dX8_measureWays_64 sc_X8_wayBetween ml_X8_37 im_X8_wayBetween se_X8_wayBetween rfl rfl rfl (by decide) hP (fun x_6 h_7 hP => ?_)
    refine bz_iconst (v := (-1)) (pc := 67) dX8_measureWays_67 (by decide) ?_
    refine bz_icmp_eq (tgt := 77) (pc := 68) dX8_measureWays_68 (by decide) (fun c => ?_) (fun c => ?_)
    · have hP := hP.1 c
      refine bz_s_iinc (pc := 77) dX8_measureWays_77 (by decide) rfl rfl [some (.inr (some a0)), some (.inl x1), some (.inl (x2 + 1))] rfl ?_
      refine bz_goto (tgt := 55) (pc := 80) dX8_measureWays_80 (by decide) ?_
      exact hP
    · have hP := hP.2 c
      refine bz_aload_n (pc := 71) dX8_measureWays_71 rfl rfl ?_
      refine bz_iload_n (pc := 72) dX8_measureWays_72 rfl rfl ?_
      refine bz_iload_n (pc := 73) dX8_measureWays_73 rfl rfl ?_
      refine bz_kVV (as := [.inl x2, .inl x1]) (st := []) (ci := 8) (pc := 74) dX8_measureWays_74 sc_X8_shortenThrough ml_X8_40 im_X8_shortenThrough se_X8_shortenThrough rfl rfl rfl (by decide) hP (fun h_9 hP => ?_)
      refine bz_s_iinc (pc := 77) dX8_measureWays_77 (by decide) rfl rfl [some (.inr (some a0)), some (.inl x1), some (.inl (x2 + 1))] rfl ?_
      refine bz_goto (tgt := 55) (pc := 80) dX8_measureWays_80 (by decide) ?_
      exact hP
theorem m_X8_measureWays {G : bz_G} {l : Launch} {d mc ms : Nat} {F : Option bz_V → bz_H → Prop} (a0 : Nat) (h : bz_H) (hP : ∀ (κ : bz_K) (bc bs : Nat), κ.2.1 = l → bz_J G κ kX8_measureWays (d + 1) F bc bs 2 [some (.inr (some a0)), some (.inl 0), none] [] h) : bz_Call G l (d + 1) kX8_measureWays [.inr (some a0)] h mc ms F :=
  bz_body (by decide) (by decide) (fun κ hl => g_X8_measureWays_0 hl a0 h (hP κ mc ms hl))
set_option maxRecDepth 20000 in
set_option maxHeartbeats 4000000 in
theorem g_X8_putHeight_0 {G : bz_G} {κ : bz_K} {l : Launch} {d : Nat} {F : Option bz_V → bz_H → Prop} {bc bs : Nat} (hl : κ.2.1 = l) (a0 : Nat) (x1 : Int32) (x2 : Int32) (h : bz_H) (hP : bz_rR h a0 8 0 (fun r_1 => bz_nn r_1 (fun a_2 => bz_rA h a_2 x1 (fun x_3 => bz_rR h a0 8 0 (fun r_4 => bz_nn r_4 (fun a_5 => bz_wA h a_5 x1 x2 (fun h_6 => (x_3 = x2 → F (some (.inl x_3)) h_6) ∧ (¬ (x_3 = x2) → bz_rc h_6 a0 8 (bz_cV G l d kX8_measureWays [.inr (some a0)] h_6 0 0 (fun h_8 => F (some (.inl x_3)) h_8)))))))))) : bz_J G κ kX8_putHeight (d + 1) F bc bs 0 [some (.inr (some a0)), some (.inl x1), some (.inl x2), none] [] h := by
  subst hl
  refine bz_aload_n (pc := 0) dX8_putHeight_0 rfl rfl ?_
  refine bz_rw_rR (pc := 1) dX8_putHeight_1 fl_X8_9 hP (fun r_1 hP => ?_)
  refine bz_iload_n (pc := 4) dX8_putHeight_4 rfl rfl ?_
  obtain ⟨a_2, rfl, hP⟩ := hP
  refine bz_rw_rA (pc := 5) dX8_putHeight_5 hP (fun x_3 hP => ?_)
  refine bz_s_istore_n (pc := 6) dX8_putHeight_6 rfl (by decide) [some (.inr (some a0)), some (.inl x1), some (.inl x2), some (.inl x_3)] rfl ?_
  refine bz_aload_n (pc := 7) dX8_putHeight_7 rfl rfl ?_
  refine bz_rw_rR (pc := 8) dX8_putHeight_8 fl_X8_9 hP (fun r_4 hP => ?_)
  refine bz_iload_n (pc := 11) dX8_putHeight_11 rfl rfl ?_
  refine bz_iload_n (pc := 12) dX8_putHeight_12 rfl rfl ?_
  obtain ⟨a_5, rfl, hP⟩ := hP
  refine bz_rw_wA (pc := 13) dX8_putHeight_13 hP (fun h_6 hP => ?_)
  refine bz_iload_n (pc := 14) dX8_putHeight_14 rfl rfl ?_
  refine bz_iload_n (pc := 15) dX8_putHeight_15 rfl rfl ?_
  refine bz_icmp_eq (tgt := 23) (pc := 16) dX8_putHeight_16 (by decide) (fun c => ?_) (fun c => ?_)
  · have hP := hP.1 c
    refine bz_iload_n (pc := 23) dX8_putHeight_23 rfl rfl ?_
    exact bz_retI (pc := 24) dX8_putHeight_24 rfl rfl hP
  · have hP := hP.2 c
    refine bz_aload_n (pc := 19) dX8_putHeight_19 rfl rfl ?_
    refine bz_kVV (as := []) (st := []) (ci := 8) (pc := 20) dX8_putHeight_20 sc_X8_measureWays ml_X8_30 im_X8_measureWays se_X8_measureWays rfl rfl rfl (by decide) hP (fun h_8 hP => ?_)
    refine bz_iload_n (pc := 23) dX8_putHeight_23 rfl rfl ?_
    exact bz_retI (pc := 24) dX8_putHeight_24 rfl rfl hP
theorem m_X8_putHeight {G : bz_G} {l : Launch} {d mc ms : Nat} {F : Option bz_V → bz_H → Prop} (a0 : Nat) (x1 : Int32) (x2 : Int32) (h : bz_H) (hP : bz_rR h a0 8 0 (fun r_1 => bz_nn r_1 (fun a_2 => bz_rA h a_2 x1 (fun x_3 => bz_rR h a0 8 0 (fun r_4 => bz_nn r_4 (fun a_5 => bz_wA h a_5 x1 x2 (fun h_6 => (x_3 = x2 → F (some (.inl x_3)) h_6) ∧ (¬ (x_3 = x2) → bz_rc h_6 a0 8 (bz_cV G l d kX8_measureWays [.inr (some a0)] h_6 0 0 (fun h_8 => F (some (.inl x_3)) h_8)))))))))) : bz_Call G l (d + 1) kX8_putHeight [.inr (some a0), .inl x1, .inl x2] h mc ms F :=
  bz_body (by decide) (by decide) (fun κ hl => g_X8_putHeight_0 hl a0 x1 x2 h hP)
set_option maxRecDepth 20000 in
set_option maxHeartbeats 4000000 in
theorem g_X8_putZone_0 {G : bz_G} {κ : bz_K} {l : Launch} {d : Nat} {F : Option bz_V → bz_H → Prop} {bc bs : Nat} (hl : κ.2.1 = l) (a0 : Nat) (x1 : Int32) (x2 : Int32) (h : bz_H) (hP : bz_rR h a0 8 1 (fun r_1 => bz_nn r_1 (fun a_2 => bz_rA h a_2 x1 (fun x_3 => bz_rR h a0 8 1 (fun r_4 => bz_nn r_4 (fun a_5 => bz_wA h a_5 x1 x2 (fun h_6 => F (some (.inl x_3)) h_6))))))) : bz_J G κ kX8_putZone (d + 1) F bc bs 0 [some (.inr (some a0)), some (.inl x1), some (.inl x2), none] [] h := by
  subst hl
  refine bz_aload_n (pc := 0) dX8_putZone_0 rfl rfl ?_
  refine bz_rw_rR (pc := 1) dX8_putZone_1 fl_X8_15 hP (fun r_1 hP => ?_)
  refine bz_iload_n (pc := 4) dX8_putZone_4 rfl rfl ?_
  obtain ⟨a_2, rfl, hP⟩ := hP
  refine bz_rw_rA (pc := 5) dX8_putZone_5 hP (fun x_3 hP => ?_)
  refine bz_s_istore_n (pc := 6) dX8_putZone_6 rfl (by decide) [some (.inr (some a0)), some (.inl x1), some (.inl x2), some (.inl x_3)] rfl ?_
  refine bz_aload_n (pc := 7) dX8_putZone_7 rfl rfl ?_
  refine bz_rw_rR (pc := 8) dX8_putZone_8 fl_X8_15 hP (fun r_4 hP => ?_)
  refine bz_iload_n (pc := 11) dX8_putZone_11 rfl rfl ?_
  refine bz_iload_n (pc := 12) dX8_putZone_12 rfl rfl ?_
  obtain ⟨a_5, rfl, hP⟩ := hP
  refine bz_rw_wA (pc := 13) dX8_putZone_13 hP (fun h_6 hP => ?_)
  refine bz_iload_n (pc := 14) dX8_putZone_14 rfl rfl ?_
  exact bz_retI (pc := 15) dX8_putZone_15 rfl rfl hP
theorem m_X8_putZone {G : bz_G} {l : Launch} {d mc ms : Nat} {F : Option bz_V → bz_H → Prop} (a0 : Nat) (x1 : Int32) (x2 : Int32) (h : bz_H) (hP : bz_rR h a0 8 1 (fun r_1 => bz_nn r_1 (fun a_2 => bz_rA h a_2 x1 (fun x_3 => bz_rR h a0 8 1 (fun r_4 => bz_nn r_4 (fun a_5 => bz_wA h a_5 x1 x2 (fun h_6 => F (some (.inl x_3)) h_6))))))) : bz_Call G l (d + 1) kX8_putZone [.inr (some a0), .inl x1, .inl x2] h mc ms F :=
  bz_body (by decide) (by decide) (fun κ hl => g_X8_putZone_0 hl a0 x1 x2 h hP)
set_option maxRecDepth 20000 in
set_option maxHeartbeats 4000000 in
theorem g_X8_shortenThrough_0 {G : bz_G} {κ : bz_K} {l : Launch} {d : Nat} {F : Option bz_V → bz_H → Prop} {bc bs : Nat} (hl : κ.2.1 = l) (a0 : Nat) (x1 : Int32) (x2 : Int32) (h : bz_H) (hP : bz_rc h a0 8 (bz_cI G l d kX8_wayBetween [.inr (some a0), .inl x1, .inl x2] h 0 0 (fun x_1 h_2 => bz_J G κ kX8_shortenThrough (d + 1) F bc bs 10 [some (.inr (some a0)), some (.inl x1), some (.inl x2), some (.inl x_1), some (.inl 0), none, none] [] h_2))) : bz_J G κ kX8_shortenThrough (d + 1) F bc bs 0 [some (.inr (some a0)), some (.inl x1), some (.inl x2), none, none, none, none] [] h := by
  subst hl
  refine bz_aload_n (pc := 0) dX8_shortenThrough_0 rfl rfl ?_
  refine bz_iload_n (pc := 1) dX8_shortenThrough_1 rfl rfl ?_
  refine bz_iload_n (pc := 2) dX8_shortenThrough_2 rfl rfl ?_
  refine bz_kIV (as := [.inl x1, .inl x2]) (st := []) (ci := 8) (pc := 3) dX8_shortenThrough_3 sc_X8_wayBetween ml_X8_37 im_X8_wayBetween se_X8_wayBetween rfl rfl rfl (by decide) hP (fun x_1 h_2 hP => ?_)
  refine bz_s_istore_n (pc := 6) dX8_shortenThrough_6 rfl (by decide) [some (.inr (some a0)), some (.inl x1), some (.inl x2), some (.inl x_1), none, none, none] rfl ?_
  refine bz_iconst (v := 0) (pc := 7) dX8_shortenThrough_7 (by decide) ?_
  refine bz_s_istore (pc := 8) dX8_shortenThrough_8 (by decide) [some (.inr (some a0)), some (.inl x1), some (.inl x2), some (.inl x_1), some (.inl 0), none, none] rfl ?_
  exact hP
set_option maxRecDepth 20000 in
set_option maxHeartbeats 4000000 in
theorem g_X8_shortenThrough_10 {G : bz_G} {κ : bz_K} {l : Launch} {d : Nat} {F : Option bz_V → bz_H → Prop} {bc bs : Nat} (hl : κ.2.1 = l) (a0 : Nat) (x1 : Int32) (x2 : Int32) (x3 : Int32) (x4 : Int32) (u5 : Option bz_V) (u6 : Option bz_V) (h : bz_H) (hP : (16 ≤ x4 → F none h) ∧ (¬ (16 ≤ x4) → bz_rc h a0 8 (bz_cI G l d kX8_wayBetween [.inr (some a0), .inl x2, .inl x4] h 0 0 (fun x_3 h_4 => bz_rc h_4 a0 8 (bz_cI G l d kX8_wayBetween [.inr (some a0), .inl x1, .inl x4] h_4 0 0 (fun x_5 h_6 => (x_3 = (-1) → bz_J G κ kX8_shortenThrough (d + 1) F bc bs 10 [some (.inr (some a0)), some (.inl x1), some (.inl x2), some (.inl x3), some (.inl (x4 + 1)), some (.inl x_3), some (.inl x_5)] [] h_6) ∧ (¬ (x_3 = (-1)) → (x_5 = (-1) → bz_rR h_6 a0 8 3 (fun r_7 => bz_nn r_7 (fun a_8 => bz_wA h_6 a_8 ((x1 * 16) + x4) (x3 + x_3) (fun h_9 => bz_J G κ kX8_shortenThrough (d + 1) F bc bs 10 [some (.inr (some a0)), some (.inl x1), some (.inl x2), some (.inl x3), some (.inl (x4 + 1)), some (.inl x_3), some (.inl x_5)] [] h_9)))) ∧ (¬ (x_5 = (-1)) → (x_5 ≤ (x3 + x_3) → bz_J G κ kX8_shortenThrough (d + 1) F bc bs 10 [some (.inr (some a0)), some (.inl x1), some (.inl x2), some (.inl x3), some (.inl (x4 + 1)), some (.inl x_3), some (.inl x_5)] [] h_6) ∧ (¬ (x_5 ≤ (x3 + x_3)) → bz_rR h_6 a0 8 3 (fun r_10 => bz_nn r_10 (fun a_11 => bz_wA h_6 a_11 ((x1 * 16) + x4) (x3 + x_3) (fun h_12 => bz_J G κ kX8_shortenThrough (d + 1) F bc bs 10 [some (.inr (some a0)), some (.inl x1), some (.inl x2), some (.inl x3), some (.inl (x4 + 1)), some (.inl x_3), some (.inl x_5)] [] h_12)))))))))))) : bz_J G κ kX8_shortenThrough (d + 1) F bc bs 10 [some (.inr (some a0)), some (.inl x1), some (.inl x2), some (.inl x3), some (.inl x4), u5, u6] [] h := by
  subst hl
  refine bz_iload (pc := 10) dX8_shortenThrough_10 rfl ?_
  refine bz_bipush (v := 16) (pc := 12) dX8_shortenThrough_12 (by decide) ?_
  refine bz_icmp_ge (tgt := 78) (pc := 14) dX8_shortenThrough_14 (by decide) (fun c => ?_) (fun c => ?_)
  · have hP := hP.1 c
    exact bz_retV (pc := 78) dX8_shortenThrough_78 rfl hP
  · have hP := hP.2 c
    refine bz_aload_n (pc := 17) dX8_shortenThrough_17 rfl rfl ?_
    refine bz_iload_n (pc := 18) dX8_shortenThrough_18 rfl rfl ?_
    refine bz_iload (pc := 19) dX8_shortenThrough_19 rfl ?_
    refine bz_kIV (as := [.inl x2, .inl x4]) (st := []) (ci := 8) (pc := 21) dX8_shortenThrough_21 sc_X8_wayBetween ml_X8_37 im_X8_wayBetween se_X8_wayBetween rfl rfl rfl (by decide) hP (fun x_3 h_4 hP => ?_)
    refine bz_s_istore (pc := 24) dX8_shortenThrough_24 (by decide) [some (.inr (some a0)), some (.inl x1), some (.inl x2), some (.inl x3), some (.inl x4), some (.inl x_3), u6] rfl ?_
    refine bz_aload_n (pc := 26) dX8_shortenThrough_26 rfl rfl ?_
    refine bz_iload_n (pc := 27) dX8_shortenThrough_27 rfl rfl ?_
    refine bz_iload (pc := 28) dX8_shortenThrough_28 rfl ?_
    refine bz_kIV (as := [.inl x1, .inl x4]) (st := []) (ci := 8) (pc := 30) dX8_shortenThrough_30 sc_X8_wayBetween ml_X8_37 im_X8_wayBetween se_X8_wayBetween rfl rfl rfl (by decide) hP (fun x_5 h_6 hP => ?_)
    refine bz_s_istore (pc := 33) dX8_shortenThrough_33 (by decide) [some (.inr (some a0)), some (.inl x1), some (.inl x2), some (.inl x3), some (.inl x4), some (.inl x_3), some (.inl x_5)] rfl ?_
    refine bz_iload (pc := 35) dX8_shortenThrough_35 rfl ?_
    refine bz_iconst (v := (-1)) (pc := 37) dX8_shortenThrough_37 (by decide) ?_
    refine bz_icmp_eq (tgt := 72) (pc := 38) dX8_shortenThrough_38 (by decide) (fun c => ?_) (fun c => ?_)
    · have hP := hP.1 c
      refine bz_s_iinc (pc := 72) dX8_shortenThrough_72 (by decide) rfl rfl [some (.inr (some a0)), some (.inl x1), some (.inl x2), some (.inl x3), some (.inl (x4 + 1)), some (.inl x_3), some (.inl x_5)] rfl ?_
      refine bz_goto (tgt := 10) (pc := 75) dX8_shortenThrough_75 (by decide) ?_
      exact hP
    · have hP := hP.2 c
      refine bz_iload (pc := 41) dX8_shortenThrough_41 rfl ?_
      refine bz_iconst (v := (-1)) (pc := 43) dX8_shortenThrough_43 (by decide) ?_
      refine bz_icmp_eq (tgt := 56) (pc := 44) dX8_shortenThrough_44 (by decide) (fun c => ?_) (fun c => ?_)
      · have hP := hP.1 c
        refine bz_aload_n (pc := 56) dX8_shortenThrough_56 rfl rfl ?_
        refine bz_rw_rR (pc := 57) dX8_shortenThrough_57 fl_X8_21 hP (fun r_7 hP => ?_)
        refine bz_iload_n (pc := 60) dX8_shortenThrough_60 rfl rfl ?_
        refine bz_bipush (v := 16) (pc := 61) dX8_shortenThrough_61 (by decide) ?_
        refine bz_imul (pc := 63) dX8_shortenThrough_63 ?_
        refine bz_iload (pc := 64) dX8_shortenThrough_64 rfl ?_
        refine bz_iadd (pc := 66) dX8_shortenThrough_66 ?_
        refine bz_iload_n (pc := 67) dX8_shortenThrough_67 rfl rfl ?_
        refine bz_iload (pc := 68) dX8_shortenThrough_68 rfl ?_
        refine bz_iadd (pc := 70) dX8_shortenThrough_70 ?_
        obtain ⟨a_8, rfl, hP⟩ := hP
        refine bz_rw_wA (pc := 71) dX8_shortenThrough_71 hP (fun h_9 hP => ?_)
        refine bz_s_iinc (pc := 72) dX8_shortenThrough_72 (by decide) rfl rfl [some (.inr (some a0)), some (.inl x1), some (.inl x2), some (.inl x3), some (.inl (x4 + 1)), some (.inl x_3), some (.inl x_5)] rfl ?_
        refine bz_goto (tgt := 10) (pc := 75) dX8_shortenThrough_75 (by decide) ?_
        exact hP
      · have hP := hP.2 c
        refine bz_iload_n (pc := 47) dX8_shortenThrough_47 rfl rfl ?_
        refine bz_iload (pc := 48) dX8_shortenThrough_48 rfl ?_
        refine bz_iadd (pc := 50) dX8_shortenThrough_50 ?_
        refine bz_iload (pc := 51) dX8_shortenThrough_51 rfl ?_
        refine bz_icmp_ge (tgt := 72) (pc := 53) dX8_shortenThrough_53 (by decide) (fun c => ?_) (fun c => ?_)
        · have hP := hP.1 c
          refine bz_s_iinc (pc := 72) dX8_shortenThrough_72 (by decide) rfl rfl [some (.inr (some a0)), some (.inl x1), some (.inl x2), some (.inl x3), some (.inl (x4 + 1)), some (.inl x_3), some (.inl x_5)] rfl ?_
          refine bz_goto (tgt := 10) (pc := 75) dX8_shortenThrough_75 (by decide) ?_
          exact hP
        · have hP := hP.2 c
          refine bz_aload_n (pc := 56) dX8_shortenThrough_56 rfl rfl ?_
          refine bz_rw_rR (pc := 57) dX8_shortenThrough_57 fl_X8_21 hP (fun r_10 hP => ?_)
          refine bz_iload_n (pc := 60) dX8_shortenThrough_60 rfl rfl ?_
          refine bz_bipush (v := 16) (pc := 61) dX8_shortenThrough_61 (by decide) ?_
          refine bz_imul (pc := 63) dX8_shortenThrough_63 ?_
          refine bz_iload (pc := 64) dX8_shortenThrough_64 rfl ?_
          refine bz_iadd (pc := 66) dX8_shortenThrough_66 ?_
          refine bz_iload_n (pc := 67) dX8_shortenThrough_67 rfl rfl ?_
          refine bz_iload (pc := 68) dX8_shortenThrough_68 rfl ?_
          refine bz_iadd (pc := 70) dX8_shortenThrough_70 ?_
          obtain ⟨a_11, rfl, hP⟩ := hP
          refine bz_rw_wA (pc := 71) dX8_shortenThrough_71 hP (fun h_12 hP => ?_)
          refine bz_s_iinc (pc := 72) dX8_shortenThrough_72 (by decide) rfl rfl [some (.inr (some a0)), some (.inl x1), some (.inl x2), some (.inl x3), some (.inl (x4 + 1)), some (.inl x_3), some (.inl x_5)] rfl ?_
          refine bz_goto (tgt := 10) (pc := 75) dX8_shortenThrough_75 (by decide) ?_
          exact hP
theorem m_X8_shortenThrough {G : bz_G} {l : Launch} {d mc ms : Nat} {F : Option bz_V → bz_H → Prop} (a0 : Nat) (x1 : Int32) (x2 : Int32) (h : bz_H) (hP : ∀ (κ : bz_K) (bc bs : Nat), κ.2.1 = l → bz_rc h a0 8 (bz_cI G l d kX8_wayBetween [.inr (some a0), .inl x1, .inl x2] h 0 0 (fun x_1 h_2 => bz_J G κ kX8_shortenThrough (d + 1) F bc bs 10 [some (.inr (some a0)), some (.inl x1), some (.inl x2), some (.inl x_1), some (.inl 0), none, none] [] h_2))) : bz_Call G l (d + 1) kX8_shortenThrough [.inr (some a0), .inl x1, .inl x2] h mc ms F :=
  bz_body (by decide) (by decide) (fun κ hl => g_X8_shortenThrough_0 hl a0 x1 x2 h (hP κ mc ms hl))
set_option maxRecDepth 20000 in
set_option maxHeartbeats 4000000 in
theorem g_X8_wayBetween_0 {G : bz_G} {κ : bz_K} {l : Launch} {d : Nat} {F : Option bz_V → bz_H → Prop} {bc bs : Nat} (hl : κ.2.1 = l) (a0 : Nat) (x1 : Int32) (x2 : Int32) (h : bz_H) (hP : bz_rR h a0 8 3 (fun r_1 => bz_nn r_1 (fun a_2 => bz_rA h a_2 ((x1 * 16) + x2) (fun x_3 => F (some (.inl x_3)) h)))) : bz_J G κ kX8_wayBetween (d + 1) F bc bs 0 [some (.inr (some a0)), some (.inl x1), some (.inl x2)] [] h := by
  subst hl
  refine bz_aload_n (pc := 0) dX8_wayBetween_0 rfl rfl ?_
  refine bz_rw_rR (pc := 1) dX8_wayBetween_1 fl_X8_21 hP (fun r_1 hP => ?_)
  refine bz_iload_n (pc := 4) dX8_wayBetween_4 rfl rfl ?_
  refine bz_bipush (v := 16) (pc := 5) dX8_wayBetween_5 (by decide) ?_
  refine bz_imul (pc := 7) dX8_wayBetween_7 ?_
  refine bz_iload_n (pc := 8) dX8_wayBetween_8 rfl rfl ?_
  refine bz_iadd (pc := 9) dX8_wayBetween_9 ?_
  obtain ⟨a_2, rfl, hP⟩ := hP
  refine bz_rw_rA (pc := 10) dX8_wayBetween_10 hP (fun x_3 hP => ?_)
  exact bz_retI (pc := 11) dX8_wayBetween_11 rfl rfl hP
theorem m_X8_wayBetween {G : bz_G} {l : Launch} {d mc ms : Nat} {F : Option bz_V → bz_H → Prop} (a0 : Nat) (x1 : Int32) (x2 : Int32) (h : bz_H) (hP : bz_rR h a0 8 3 (fun r_1 => bz_nn r_1 (fun a_2 => bz_rA h a_2 ((x1 * 16) + x2) (fun x_3 => F (some (.inl x_3)) h)))) : bz_Call G l (d + 1) kX8_wayBetween [.inr (some a0), .inl x1, .inl x2] h mc ms F :=
  bz_body (by decide) (by decide) (fun κ hl => g_X8_wayBetween_0 hl a0 x1 x2 h hP)
set_option maxRecDepth 20000 in
set_option maxHeartbeats 4000000 in
theorem g_X9_follow_0 {G : bz_G} {κ : bz_K} {l : Launch} {d : Nat} {F : Option bz_V → bz_H → Prop} {bc bs : Nat} (hl : κ.2.1 = l) (a0 : Nat) (x1 : Int32) (x2 : Int32) (r3 : Option Nat) (r4 : Option Nat) (h : bz_H) (hP : bz_rI h a0 9 6 (fun x_1 => bz_rI h a0 9 4 (fun x_2 => bz_J G κ kX9_follow (d + 1) F bc bs 15 [some (.inr (some a0)), some (.inl x1), some (.inl x2), some (.inr r3), some (.inr r4), some (.inl x_1), some (.inl x_2), some (.inl 0), none, none, none, none, none] [] h))) : bz_J G κ kX9_follow (d + 1) F bc bs 0 [some (.inr (some a0)), some (.inl x1), some (.inl x2), some (.inr r3), some (.inr r4), none, none, none, none, none, none, none, none] [] h := by
  subst hl
  refine bz_aload_n (pc := 0) dX9_follow_0 rfl rfl ?_
  refine bz_rw_rI (pc := 1) dX9_follow_1 fl_X9_29 hP (fun x_1 hP => ?_)
  refine bz_s_istore (pc := 4) dX9_follow_4 (by decide) [some (.inr (some a0)), some (.inl x1), some (.inl x2), some (.inr r3), some (.inr r4), some (.inl x_1), none, none, none, none, none, none, none] rfl ?_
  refine bz_aload_n (pc := 6) dX9_follow_6 rfl rfl ?_
  refine bz_rw_rI (pc := 7) dX9_follow_7 fl_X9_26 hP (fun x_2 hP => ?_)
  refine bz_s_istore (pc := 10) dX9_follow_10 (by decide) [some (.inr (some a0)), some (.inl x1), some (.inl x2), some (.inr r3), some (.inr r4), some (.inl x_1), some (.inl x_2), none, none, none, none, none, none] rfl ?_
  refine bz_iconst (v := 0) (pc := 12) dX9_follow_12 (by decide) ?_
  refine bz_s_istore (pc := 13) dX9_follow_13 (by decide) [some (.inr (some a0)), some (.inl x1), some (.inl x2), some (.inr r3), some (.inr r4), some (.inl x_1), some (.inl x_2), some (.inl 0), none, none, none, none, none] rfl ?_
  exact hP
set_option maxRecDepth 20000 in
set_option maxHeartbeats 4000000 in
theorem g_X9_follow_15 {G : bz_G} {κ : bz_K} {l : Launch} {d : Nat} {F : Option bz_V → bz_H → Prop} {bc bs : Nat} (hl : κ.2.1 = l) (a0 : Nat) (x1 : Int32) (x2 : Int32) (r3 : Option Nat) (r4 : Option Nat) (x5 : Int32) (x6 : Int32) (x7 : Int32) (u8 : Option bz_V) (u9 : Option bz_V) (u10 : Option bz_V) (u11 : Option bz_V) (u12 : Option bz_V) (h : bz_H) (hP : (x2 ≤ x7 → F (some (.inl (if x5 ≤ 1439 then x5 else (-1)))) h) ∧ (¬ (x2 ≤ x7) → bz_rA h 1 ((x1 * 4) + x7) (fun x_3 => (1 < x_3 → ((if x_3 = 0 then 1 else if x_3 = 2 then 1 else 0) = 0 → bz_nn r4 (fun a_4 => bz_rI h a_4 2 2 (fun x_5 => bz_J G κ kX9_follow (d + 1) F bc bs 83 [some (.inr (some a0)), some (.inl x1), some (.inl x2), some (.inr r3), some (.inr (some a_4)), some (.inl x5), some (.inl x6), some (.inl x7), some (.inl x_3), some (.inl (if x_3 = 0 then 1 else if x_3 = 2 then 1 else 0)), some (.inr (some a_4)), u11, u12] [.inl x_5] h))) ∧ (¬ ((if x_3 = 0 then 1 else if x_3 = 2 then 1 else 0) = 0) → bz_nn r4 (fun a_6 => bz_rI h a_6 2 1 (fun x_7 => bz_J G κ kX9_follow (d + 1) F bc bs 83 [some (.inr (some a0)), some (.inl x1), some (.inl x2), some (.inr r3), some (.inr (some a_6)), some (.inl x5), some (.inl x6), some (.inl x7), some (.inl x_3), some (.inl (if x_3 = 0 then 1 else if x_3 = 2 then 1 else 0)), some (.inr (some a_6)), u11, u12] [.inl x_7] h)))) ∧ (¬ (1 < x_3) → ((if x_3 = 0 then 1 else if x_3 = 2 then 1 else 0) = 0 → bz_nn r3 (fun a_8 => bz_rI h a_8 2 2 (fun x_9 => bz_J G κ kX9_follow (d + 1) F bc bs 83 [some (.inr (some a0)), some (.inl x1), some (.inl x2), some (.inr (some a_8)), some (.inr r4), some (.inl x5), some (.inl x6), some (.inl x7), some (.inl x_3), some (.inl (if x_3 = 0 then 1 else if x_3 = 2 then 1 else 0)), some (.inr (some a_8)), u11, u12] [.inl x_9] h))) ∧ (¬ ((if x_3 = 0 then 1 else if x_3 = 2 then 1 else 0) = 0) → bz_nn r3 (fun a_10 => bz_rI h a_10 2 1 (fun x_11 => bz_J G κ kX9_follow (d + 1) F bc bs 83 [some (.inr (some a0)), some (.inl x1), some (.inl x2), some (.inr (some a_10)), some (.inr r4), some (.inl x5), some (.inl x6), some (.inl x7), some (.inl x_3), some (.inl (if x_3 = 0 then 1 else if x_3 = 2 then 1 else 0)), some (.inr (some a_10)), u11, u12] [.inl x_11] h))))))) : bz_J G κ kX9_follow (d + 1) F bc bs 15 [some (.inr (some a0)), some (.inl x1), some (.inl x2), some (.inr r3), some (.inr r4), some (.inl x5), some (.inl x6), some (.inl x7), u8, u9, u10, u11, u12] [] h := by
  subst hl
  refine bz_iload (pc := 15) dX9_follow_15 rfl ?_
  refine bz_iload_n (pc := 17) dX9_follow_17 rfl rfl ?_
  refine bz_icmp_ge (tgt := 156) (pc := 18) dX9_follow_18 (by decide) (fun c => ?_) (fun c => ?_)
  · have hP := hP.1 c
    refine bz_iload (pc := 156) dX9_follow_156 rfl ?_
    refine bz_sipush (v := 1439) (pc := 158) dX9_follow_158 (by decide) ?_
    have hJ : bz_J G κ kX9_follow (d + 1) F bc bs 170 [some (.inr (some a0)), some (.inl x1), some (.inl x2), some (.inr r3), some (.inr r4), some (.inl x5), some (.inl x6), some (.inl x7), u8, u9, u10, u11, u12] [.inl (if x5 ≤ 1439 then x5 else (-1))] h := by
      exact bz_retI (pc := 170) dX9_follow_170 rfl rfl hP
    refine bz_icmp_le (tgt := 168) (pc := 161) dX9_follow_161 (by decide) (fun c => ?_) (fun c => ?_)
    · have e9 : ((if x5 ≤ 1439 then x5 else (-1)) : Int32) = (x5) := if_pos c
      rw [e9] at hJ
      refine bz_iload (pc := 168) dX9_follow_168 rfl ?_
      exact hJ
    · have e9 : ((if x5 ≤ 1439 then x5 else (-1)) : Int32) = ((-1)) := if_neg c
      rw [e9] at hJ
      refine bz_iconst (v := (-1)) (pc := 164) dX9_follow_164 (by decide) ?_
      refine bz_goto (tgt := 170) (pc := 165) dX9_follow_165 (by decide) ?_
      exact hJ
  · have hP := hP.2 c
    refine bz_getsL (pc := 21) dX9_follow_21 ⟨rfl, rfl⟩ ?_
    refine bz_iload_n (pc := 24) dX9_follow_24 rfl rfl ?_
    refine bz_iconst (v := 4) (pc := 25) dX9_follow_25 (by decide) ?_
    refine bz_imul (pc := 26) dX9_follow_26 ?_
    refine bz_iload (pc := 27) dX9_follow_27 rfl ?_
    refine bz_iadd (pc := 29) dX9_follow_29 ?_
    refine bz_rw_rA (pc := 30) dX9_follow_30 hP (fun x_3 hP => ?_)
    refine bz_s_istore (pc := 31) dX9_follow_31 (by decide) [some (.inr (some a0)), some (.inl x1), some (.inl x2), some (.inr r3), some (.inr r4), some (.inl x5), some (.inl x6), some (.inl x7), some (.inl x_3), u9, u10, u11, u12] rfl ?_
    refine bz_iload (pc := 33) dX9_follow_33 rfl ?_
    have hJ : bz_J G κ kX9_follow (d + 1) F bc bs 49 [some (.inr (some a0)), some (.inl x1), some (.inl x2), some (.inr r3), some (.inr r4), some (.inl x5), some (.inl x6), some (.inl x7), some (.inl x_3), u9, u10, u11, u12] [.inl (if x_3 = 0 then 1 else if x_3 = 2 then 1 else 0)] h := by
      refine bz_s_istore (pc := 49) dX9_follow_49 (by decide) [some (.inr (some a0)), some (.inl x1), some (.inl x2), some (.inr r3), some (.inr r4), some (.inl x5), some (.inl x6), some (.inl x7), some (.inl x_3), some (.inl (if x_3 = 0 then 1 else if x_3 = 2 then 1 else 0)), u10, u11, u12] rfl ?_
      refine bz_iload (pc := 51) dX9_follow_51 rfl ?_
      refine bz_iconst (v := 1) (pc := 53) dX9_follow_53 (by decide) ?_
      refine bz_icmp_gt (tgt := 61) (pc := 54) dX9_follow_54 (by decide) (fun c => ?_) (fun c => ?_)
      · have hP := hP.1 c
        refine bz_aload (pc := 61) dX9_follow_61 rfl ?_
        refine bz_s_astore (pc := 63) dX9_follow_63 (by decide) [some (.inr (some a0)), some (.inl x1), some (.inl x2), some (.inr r3), some (.inr r4), some (.inl x5), some (.inl x6), some (.inl x7), some (.inl x_3), some (.inl (if x_3 = 0 then 1 else if x_3 = 2 then 1 else 0)), some (.inr r4), u11, u12] rfl ?_
        refine bz_iload (pc := 65) dX9_follow_65 rfl ?_
        refine bz_if_eq (tgt := 78) (pc := 67) dX9_follow_67 (by decide) (fun c => ?_) (fun c => ?_)
        · have hP := hP.1 c
          refine bz_aload (pc := 78) dX9_follow_78 rfl ?_
          obtain ⟨a_4, rfl, hP⟩ := hP
          refine bz_rw_rI (pc := 80) dX9_follow_80 fl_X9_50 hP (fun x_5 hP => ?_)
          exact hP
        · have hP := hP.2 c
          refine bz_aload (pc := 70) dX9_follow_70 rfl ?_
          obtain ⟨a_6, rfl, hP⟩ := hP
          refine bz_rw_rI (pc := 72) dX9_follow_72 fl_X9_78 hP (fun x_7 hP => ?_)
          refine bz_goto (tgt := 83) (pc := 75) dX9_follow_75 (by decide) ?_
          exact hP
      · have hP := hP.2 c
        refine bz_aload_n (pc := 57) dX9_follow_57 rfl rfl ?_
        refine bz_goto (tgt := 63) (pc := 58) dX9_follow_58 (by decide) ?_
        refine bz_s_astore (pc := 63) dX9_follow_63 (by decide) [some (.inr (some a0)), some (.inl x1), some (.inl x2), some (.inr r3), some (.inr r4), some (.inl x5), some (.inl x6), some (.inl x7), some (.inl x_3), some (.inl (if x_3 = 0 then 1 else if x_3 = 2 then 1 else 0)), some (.inr r3), u11, u12] rfl ?_
        refine bz_iload (pc := 65) dX9_follow_65 rfl ?_
        refine bz_if_eq (tgt := 78) (pc := 67) dX9_follow_67 (by decide) (fun c => ?_) (fun c => ?_)
        · have hP := hP.1 c
          refine bz_aload (pc := 78) dX9_follow_78 rfl ?_
          obtain ⟨a_8, rfl, hP⟩ := hP
          refine bz_rw_rI (pc := 80) dX9_follow_80 fl_X9_50 hP (fun x_9 hP => ?_)
          exact hP
        · have hP := hP.2 c
          refine bz_aload (pc := 70) dX9_follow_70 rfl ?_
          obtain ⟨a_10, rfl, hP⟩ := hP
          refine bz_rw_rI (pc := 72) dX9_follow_72 fl_X9_78 hP (fun x_11 hP => ?_)
          refine bz_goto (tgt := 83) (pc := 75) dX9_follow_75 (by decide) ?_
          exact hP
    refine bz_if_eq (tgt := 44) (pc := 35) dX9_follow_35 (by decide) (fun c => ?_) (fun c => ?_)
    · have e9 : ((if x_3 = 0 then 1 else if x_3 = 2 then 1 else 0) : Int32) = (1) := if_pos c
      rw [e9] at hJ
      refine bz_iconst (v := 1) (pc := 44) dX9_follow_44 (by decide) ?_
      refine bz_goto (tgt := 49) (pc := 45) dX9_follow_45 (by decide) ?_
      exact hJ
    · have e9 : ((if x_3 = 0 then 1 else if x_3 = 2 then 1 else 0) : Int32) = (if x_3 = 2 then 1 else 0) := if_neg c
      rw [e9] at hJ
      refine bz_iload (pc := 38) dX9_follow_38 rfl ?_
      refine bz_iconst (v := 2) (pc := 40) dX9_follow_40 (by decide) ?_
      refine bz_icmp_ne (tgt := 48) (pc := 41) dX9_follow_41 (by decide) (fun c => ?_) (fun c => ?_)
      · have e9 : ((if x_3 = 2 then 1 else 0) : Int32) = (0) := if_neg c
        rw [e9] at hJ
        refine bz_iconst (v := 0) (pc := 48) dX9_follow_48 (by decide) ?_
        exact hJ
      · have e9 : ((if x_3 = 2 then 1 else 0) : Int32) = (1) := if_pos c
        rw [e9] at hJ
        refine bz_iconst (v := 1) (pc := 44) dX9_follow_44 (by decide) ?_
        refine bz_goto (tgt := 49) (pc := 45) dX9_follow_45 (by decide) ?_
        exact hJ
set_option maxRecDepth 20000 in
set_option maxHeartbeats 4000000 in
theorem g_X9_follow_83 {G : bz_G} {κ : bz_K} {l : Launch} {d : Nat} {F : Option bz_V → bz_H → Prop} {bc bs : Nat} (hl : κ.2.1 = l) (a0 : Nat) (x1 : Int32) (x2 : Int32) (r3 : Option Nat) (r4 : Option Nat) (x5 : Int32) (x6 : Int32) (x7 : Int32) (x8 : Int32) (x9 : Int32) (r10 : Option Nat) (u11 : Option bz_V) (u12 : Option bz_V) (y0 : Int32) (h : bz_H) (hP : bz_rI h a0 9 3 (fun x_12 => bz_rR h a0 9 0 (fun r_13 => bz_nn r_13 (fun a_16 => bz_rc h a_16 8 (bz_cI G l d kX8_wayBetween [.inr (some a_16), .inl x6, .inl y0] h 0 0 (fun x_14 h_15 => bz_cI G l d kX11_legFor [.inl x_12, .inl x_14] h_15 0 0 (fun x_17 h_18 => (¬ x_17 = (-1) → (x9 = 0 → bz_rR h_18 a0 9 2 (fun r_19 => bz_nn r_19 (fun a_20 => bz_wA h_18 a_20 x8 (x5 + x_17) (fun h_21 => bz_J G κ kX9_follow (d + 1) F bc bs 15 [some (.inr (some a0)), some (.inl x1), some (.inl x2), some (.inr r3), some (.inr r4), some (.inl (x5 + x_17)), some (.inl y0), some (.inl (x7 + 1)), some (.inl x8), some (.inl x9), some (.inr r10), some (.inl y0), some (.inl x_17)] [] h_21)))) ∧ (¬ (x9 = 0) → bz_nn r10 (fun a_22 => bz_rI h_18 a_22 2 6 (fun x_23 => bz_rR h_18 a0 9 2 (fun r_24 => bz_nn r_24 (fun a_25 => bz_wA h_18 a_25 x8 (if (x5 + x_17) < x_23 then x_23 else x5 + x_17) (fun h_26 => bz_J G κ kX9_follow (d + 1) F bc bs 15 [some (.inr (some a0)), some (.inl x1), some (.inl x2), some (.inr r3), some (.inr r4), some (.inl (if (x5 + x_17) < x_23 then x_23 else x5 + x_17)), some (.inl y0), some (.inl (x7 + 1)), some (.inl x8), some (.inl x9), some (.inr (some a_22)), some (.inl y0), some (.inl x_17)] [] h_26))))))) ∧ (x_17 = (-1) → F (some (.inl (-1))) h_18)))))))) : bz_J G κ kX9_follow (d + 1) F bc bs 83 [some (.inr (some a0)), some (.inl x1), some (.inl x2), some (.inr r3), some (.inr r4), some (.inl x5), some (.inl x6), some (.inl x7), some (.inl x8), some (.inl x9), some (.inr r10), u11, u12] [.inl y0] h := by
  subst hl
  refine bz_s_istore (pc := 83) dX9_follow_83 (by decide) [some (.inr (some a0)), some (.inl x1), some (.inl x2), some (.inr r3), some (.inr r4), some (.inl x5), some (.inl x6), some (.inl x7), some (.inl x8), some (.inl x9), some (.inr r10), some (.inl y0), u12] rfl ?_
  refine bz_aload_n (pc := 85) dX9_follow_85 rfl rfl ?_
  refine bz_rw_rI (pc := 86) dX9_follow_86 fl_X9_22 hP (fun x_12 hP => ?_)
  refine bz_aload_n (pc := 89) dX9_follow_89 rfl rfl ?_
  refine bz_rw_rR (pc := 90) dX9_follow_90 fl_X9_18 hP (fun r_13 hP => ?_)
  refine bz_iload (pc := 93) dX9_follow_93 rfl ?_
  refine bz_iload (pc := 95) dX9_follow_95 rfl ?_
  obtain ⟨a_16, rfl, hP⟩ := hP
  refine bz_kIV (as := [.inl x6, .inl y0]) (st := [.inl x_12]) (ci := 8) (pc := 97) dX9_follow_97 sc_X8_wayBetween ml_X9_79 im_X8_wayBetween se_X8_wayBetween rfl rfl rfl (by decide) hP (fun x_14 h_15 hP => ?_)
  refine bz_kISN (as := [.inl x_12, .inl x_14]) (st := []) (pc := 100) dX9_follow_100 sc_X11_legFor ml_X9_85 ss_X11_legFor rfl (by decide) hP (fun x_17 h_18 hP => ?_)
  refine bz_s_istore (pc := 103) dX9_follow_103 (by decide) [some (.inr (some a0)), some (.inl x1), some (.inl x2), some (.inr r3), some (.inr r4), some (.inl x5), some (.inl x6), some (.inl x7), some (.inl x8), some (.inl x9), some (.inr r10), some (.inl y0), some (.inl x_17)] rfl ?_
  refine bz_iload (pc := 105) dX9_follow_105 rfl ?_
  refine bz_iconst (v := (-1)) (pc := 107) dX9_follow_107 (by decide) ?_
  refine bz_icmp_ne (tgt := 113) (pc := 108) dX9_follow_108 (by decide) (fun c => ?_) (fun c => ?_)
  · have hP := hP.1 c
    refine bz_iload (pc := 113) dX9_follow_113 rfl ?_
    refine bz_iload (pc := 115) dX9_follow_115 rfl ?_
    refine bz_iadd (pc := 117) dX9_follow_117 ?_
    refine bz_s_istore (pc := 118) dX9_follow_118 (by decide) [some (.inr (some a0)), some (.inl x1), some (.inl x2), some (.inr r3), some (.inr r4), some (.inl (x5 + x_17)), some (.inl x6), some (.inl x7), some (.inl x8), some (.inl x9), some (.inr r10), some (.inl y0), some (.inl x_17)] rfl ?_
    refine bz_iload (pc := 120) dX9_follow_120 rfl ?_
    refine bz_if_eq (tgt := 137) (pc := 122) dX9_follow_122 (by decide) (fun c => ?_) (fun c => ?_)
    · have hP := hP.1 c
      refine bz_aload_n (pc := 137) dX9_follow_137 rfl rfl ?_
      refine bz_rw_rR (pc := 138) dX9_follow_138 fl_X9_15 hP (fun r_19 hP => ?_)
      refine bz_iload (pc := 141) dX9_follow_141 rfl ?_
      refine bz_iload (pc := 143) dX9_follow_143 rfl ?_
      obtain ⟨a_20, rfl, hP⟩ := hP
      refine bz_rw_wA (pc := 145) dX9_follow_145 hP (fun h_21 hP => ?_)
      refine bz_iload (pc := 146) dX9_follow_146 rfl ?_
      refine bz_s_istore (pc := 148) dX9_follow_148 (by decide) [some (.inr (some a0)), some (.inl x1), some (.inl x2), some (.inr r3), some (.inr r4), some (.inl (x5 + x_17)), some (.inl y0), some (.inl x7), some (.inl x8), some (.inl x9), some (.inr r10), some (.inl y0), some (.inl x_17)] rfl ?_
      refine bz_s_iinc (pc := 150) dX9_follow_150 (by decide) rfl rfl [some (.inr (some a0)), some (.inl x1), some (.inl x2), some (.inr r3), some (.inr r4), some (.inl (x5 + x_17)), some (.inl y0), some (.inl (x7 + 1)), some (.inl x8), some (.inl x9), some (.inr r10), some (.inl y0), some (.inl x_17)] rfl ?_
      refine bz_goto (tgt := 15) (pc := 153) dX9_follow_153 (by decide) ?_
      exact hP
    · have hP := hP.2 c
      refine bz_iload (pc := 125) dX9_follow_125 rfl ?_
      refine bz_aload (pc := 127) dX9_follow_127 rfl ?_
      obtain ⟨a_22, rfl, hP⟩ := hP
      refine bz_rw_rI (pc := 129) dX9_follow_129 fl_X9_88 hP (fun x_23 hP => ?_)
      refine bz_mmax (pc := 132) dX9_follow_132 ml_X9_91 mt_max mt_init mt_code_max (Nat.succ_pos d) (by decide) ?_
      refine bz_s_istore (pc := 135) dX9_follow_135 (by decide) [some (.inr (some a0)), some (.inl x1), some (.inl x2), some (.inr r3), some (.inr r4), some (.inl (if (x5 + x_17) < x_23 then x_23 else x5 + x_17)), some (.inl x6), some (.inl x7), some (.inl x8), some (.inl x9), some (.inr (some a_22)), some (.inl y0), some (.inl x_17)] rfl ?_
      refine bz_aload_n (pc := 137) dX9_follow_137 rfl rfl ?_
      refine bz_rw_rR (pc := 138) dX9_follow_138 fl_X9_15 hP (fun r_24 hP => ?_)
      refine bz_iload (pc := 141) dX9_follow_141 rfl ?_
      refine bz_iload (pc := 143) dX9_follow_143 rfl ?_
      obtain ⟨a_25, rfl, hP⟩ := hP
      refine bz_rw_wA (pc := 145) dX9_follow_145 hP (fun h_26 hP => ?_)
      refine bz_iload (pc := 146) dX9_follow_146 rfl ?_
      refine bz_s_istore (pc := 148) dX9_follow_148 (by decide) [some (.inr (some a0)), some (.inl x1), some (.inl x2), some (.inr r3), some (.inr r4), some (.inl (if (x5 + x_17) < x_23 then x_23 else x5 + x_17)), some (.inl y0), some (.inl x7), some (.inl x8), some (.inl x9), some (.inr (some a_22)), some (.inl y0), some (.inl x_17)] rfl ?_
      refine bz_s_iinc (pc := 150) dX9_follow_150 (by decide) rfl rfl [some (.inr (some a0)), some (.inl x1), some (.inl x2), some (.inr r3), some (.inr r4), some (.inl (if (x5 + x_17) < x_23 then x_23 else x5 + x_17)), some (.inl y0), some (.inl (x7 + 1)), some (.inl x8), some (.inl x9), some (.inr (some a_22)), some (.inl y0), some (.inl x_17)] rfl ?_
      refine bz_goto (tgt := 15) (pc := 153) dX9_follow_153 (by decide) ?_
      exact hP
  · have hP := hP.2 c
    refine bz_iconst (v := (-1)) (pc := 111) dX9_follow_111 (by decide) ?_
    exact bz_retI (pc := 112) dX9_follow_112 rfl rfl hP
theorem m_X9_follow {G : bz_G} {l : Launch} {d mc ms : Nat} {F : Option bz_V → bz_H → Prop} (a0 : Nat) (x1 : Int32) (x2 : Int32) (r3 : Option Nat) (r4 : Option Nat) (h : bz_H) (hP : ∀ (κ : bz_K) (bc bs : Nat), κ.2.1 = l → bz_rI h a0 9 6 (fun x_1 => bz_rI h a0 9 4 (fun x_2 => bz_J G κ kX9_follow (d + 1) F bc bs 15 [some (.inr (some a0)), some (.inl x1), some (.inl x2), some (.inr r3), some (.inr r4), some (.inl x_1), some (.inl x_2), some (.inl 0), none, none, none, none, none] [] h))) : bz_Call G l (d + 1) kX9_follow [.inr (some a0), .inl x1, .inl x2, .inr r3, .inr r4] h mc ms F :=
  bz_body (by decide) (by decide) (fun κ hl => g_X9_follow_0 hl a0 x1 x2 r3 r4 h (hP κ mc ms hl))
set_option maxRecDepth 20000 in
set_option maxHeartbeats 4000000 in
theorem g_X9_planOne_0 {G : bz_G} {κ : bz_K} {l : Launch} {d : Nat} {F : Option bz_V → bz_H → Prop} {bc bs : Nat} (hl : κ.2.1 = l) (a0 : Nat) (x1 : Int32) (x2 : Int32) (x3 : Int32) (r4 : Option Nat) (h : bz_H) (hP : bz_rc h a0 9 (bz_cV G l d kX9_setOut [.inr (some a0), .inl x1, .inl x2, .inl x3] h 0 0 (fun h_2 => bz_rc h_2 a0 9 (bz_cI G l d kX9_follow [.inr (some a0), .inl 0, .inl 2, .inr r4, .inr r4] h_2 0 0 (fun x_3 h_4 => (x_3 = (-1) → bz_rI h_4 a0 9 5 (fun x_5 => bz_b x_5 (F (some (.inl x_5)) h_4))) ∧ (¬ (x_3 = (-1)) → bz_rR h_4 a0 9 2 (fun r_6 => bz_nn r_6 (fun a_7 => bz_rA h_4 a_7 1 (fun x_8 => bz_rR h_4 a0 9 2 (fun r_9 => bz_nn r_9 (fun a_10 => bz_rA h_4 a_10 1 (fun x_11 => bz_nn r4 (fun a_14 => bz_rc h_4 a_14 2 (bz_cI G l d kX2_lateAt [.inr (some a_14), .inl x_11] h_4 0 0 (fun x_12 h_13 => bz_rI h_13 a_14 2 2 (fun x_15 => bz_rc h_13 a0 9 (bz_cV G l d kX9_takeTried [.inr (some a0), .inl 0, .inl x_8, .inl x_12, .inl x_15] h_13 0 0 (fun h_17 => bz_rI h_17 a0 9 5 (fun x_18 => bz_b x_18 (F (some (.inl x_18)) h_17)))))))))))))))))))) : bz_J G κ kX9_planOne (d + 1) F bc bs 0 [some (.inr (some a0)), some (.inl x1), some (.inl x2), some (.inl x3), some (.inr r4)] [] h := by
  subst hl
  refine bz_aload_n (pc := 0) dX9_planOne_0 rfl rfl ?_
  refine bz_iload_n (pc := 1) dX9_planOne_1 rfl rfl ?_
  refine bz_iload_n (pc := 2) dX9_planOne_2 rfl rfl ?_
  refine bz_iload_n (pc := 3) dX9_planOne_3 rfl rfl ?_
  refine bz_kVV (as := [.inl x1, .inl x2, .inl x3]) (st := []) (ci := 9) (pc := 4) dX9_planOne_4 sc_X9_setOut ml_X9_36 im_X9_setOut se_X9_setOut rfl rfl rfl (by decide) hP (fun h_2 hP => ?_)
  refine bz_aload_n (pc := 7) dX9_planOne_7 rfl rfl ?_
  refine bz_iconst (v := 0) (pc := 8) dX9_planOne_8 (by decide) ?_
  refine bz_iconst (v := 2) (pc := 9) dX9_planOne_9 (by decide) ?_
  refine bz_aload (pc := 10) dX9_planOne_10 rfl ?_
  refine bz_aload (pc := 12) dX9_planOne_12 rfl ?_
  refine bz_kIV (as := [.inl 0, .inl 2, .inr r4, .inr r4]) (st := []) (ci := 9) (pc := 14) dX9_planOne_14 sc_X9_follow ml_X9_40 im_X9_follow se_X9_follow rfl rfl rfl (by decide) hP (fun x_3 h_4 hP => ?_)
  refine bz_iconst (v := (-1)) (pc := 17) dX9_planOne_17 (by decide) ?_
  refine bz_icmp_eq (tgt := 48) (pc := 18) dX9_planOne_18 (by decide) (fun c => ?_) (fun c => ?_)
  · have hP := hP.1 c
    refine bz_aload_n (pc := 48) dX9_planOne_48 rfl rfl ?_
    refine bz_rw_rI (pc := 49) dX9_planOne_49 fl_X9_32 hP (fun x_5 hP => ?_)
    obtain ⟨hb, hP⟩ := hP
    exact bz_retI (pc := 52) dX9_planOne_52 rfl (by rcases hb with hb | hb <;> rw [hb] <;> rfl) hP
  · have hP := hP.2 c
    refine bz_aload_n (pc := 21) dX9_planOne_21 rfl rfl ?_
    refine bz_iconst (v := 0) (pc := 22) dX9_planOne_22 (by decide) ?_
    refine bz_aload_n (pc := 23) dX9_planOne_23 rfl rfl ?_
    refine bz_rw_rR (pc := 24) dX9_planOne_24 fl_X9_15 hP (fun r_6 hP => ?_)
    refine bz_iconst (v := 1) (pc := 27) dX9_planOne_27 (by decide) ?_
    obtain ⟨a_7, rfl, hP⟩ := hP
    refine bz_rw_rA (pc := 28) dX9_planOne_28 hP (fun x_8 hP => ?_)
    refine bz_aload (pc := 29) dX9_planOne_29 rfl ?_
    refine bz_aload_n (pc := 31) dX9_planOne_31 rfl rfl ?_
    refine bz_rw_rR (pc := 32) dX9_planOne_32 fl_X9_15 hP (fun r_9 hP => ?_)
    refine bz_iconst (v := 1) (pc := 35) dX9_planOne_35 (by decide) ?_
    obtain ⟨a_10, rfl, hP⟩ := hP
    refine bz_rw_rA (pc := 36) dX9_planOne_36 hP (fun x_11 hP => ?_)
    obtain ⟨a_14, rfl, hP⟩ := hP
    refine bz_kIV (as := [.inl x_11]) (st := [.inl x_8, .inl 0, .inr (some a0)]) (ci := 2) (pc := 37) dX9_planOne_37 sc_X2_lateAt ml_X9_44 im_X2_lateAt se_X2_lateAt rfl rfl rfl (by decide) hP (fun x_12 h_13 hP => ?_)
    refine bz_aload (pc := 40) dX9_planOne_40 rfl ?_
    refine bz_rw_rI (pc := 42) dX9_planOne_42 fl_X9_50 hP (fun x_15 hP => ?_)
    refine bz_kVV (as := [.inl 0, .inl x_8, .inl x_12, .inl x_15]) (st := []) (ci := 9) (pc := 45) dX9_planOne_45 sc_X9_takeTried ml_X9_53 im_X9_takeTried se_X9_takeTried rfl rfl rfl (by decide) hP (fun h_17 hP => ?_)
    refine bz_aload_n (pc := 48) dX9_planOne_48 rfl rfl ?_
    refine bz_rw_rI (pc := 49) dX9_planOne_49 fl_X9_32 hP (fun x_18 hP => ?_)
    obtain ⟨hb, hP⟩ := hP
    exact bz_retI (pc := 52) dX9_planOne_52 rfl (by rcases hb with hb | hb <;> rw [hb] <;> rfl) hP
theorem m_X9_planOne {G : bz_G} {l : Launch} {d mc ms : Nat} {F : Option bz_V → bz_H → Prop} (a0 : Nat) (x1 : Int32) (x2 : Int32) (x3 : Int32) (r4 : Option Nat) (h : bz_H) (hP : bz_rc h a0 9 (bz_cV G l d kX9_setOut [.inr (some a0), .inl x1, .inl x2, .inl x3] h 0 0 (fun h_2 => bz_rc h_2 a0 9 (bz_cI G l d kX9_follow [.inr (some a0), .inl 0, .inl 2, .inr r4, .inr r4] h_2 0 0 (fun x_3 h_4 => (x_3 = (-1) → bz_rI h_4 a0 9 5 (fun x_5 => bz_b x_5 (F (some (.inl x_5)) h_4))) ∧ (¬ (x_3 = (-1)) → bz_rR h_4 a0 9 2 (fun r_6 => bz_nn r_6 (fun a_7 => bz_rA h_4 a_7 1 (fun x_8 => bz_rR h_4 a0 9 2 (fun r_9 => bz_nn r_9 (fun a_10 => bz_rA h_4 a_10 1 (fun x_11 => bz_nn r4 (fun a_14 => bz_rc h_4 a_14 2 (bz_cI G l d kX2_lateAt [.inr (some a_14), .inl x_11] h_4 0 0 (fun x_12 h_13 => bz_rI h_13 a_14 2 2 (fun x_15 => bz_rc h_13 a0 9 (bz_cV G l d kX9_takeTried [.inr (some a0), .inl 0, .inl x_8, .inl x_12, .inl x_15] h_13 0 0 (fun h_17 => bz_rI h_17 a0 9 5 (fun x_18 => bz_b x_18 (F (some (.inl x_18)) h_17)))))))))))))))))))) : bz_Call G l (d + 1) kX9_planOne [.inr (some a0), .inl x1, .inl x2, .inl x3, .inr r4] h mc ms F :=
  bz_body (by decide) (by decide) (fun κ hl => g_X9_planOne_0 hl a0 x1 x2 x3 r4 h hP)
set_option maxRecDepth 20000 in
set_option maxHeartbeats 4000000 in
theorem g_X9_planTwo_0 {G : bz_G} {κ : bz_K} {l : Launch} {d : Nat} {F : Option bz_V → bz_H → Prop} {bc bs : Nat} (hl : κ.2.1 = l) (a0 : Nat) (r1 : Option Nat) (r2 : Option Nat) (h : bz_H) (hP : bz_J G κ kX9_planTwo (d + 1) F bc bs 2 [some (.inr (some a0)), some (.inr r1), some (.inr r2), some (.inl 0), none, none, none, none] [] h) : bz_J G κ kX9_planTwo (d + 1) F bc bs 0 [some (.inr (some a0)), some (.inr r1), some (.inr r2), none, none, none, none, none] [] h := by
  subst hl
  refine bz_iconst (v := 0) (pc := 0) dX9_planTwo_0 (by decide) ?_
  refine bz_s_istore_n (pc := 1) dX9_planTwo_1 rfl (by decide) [some (.inr (some a0)), some (.inr r1), some (.inr r2), some (.inl 0), none, none, none, none] rfl ?_
  exact hP
set_option maxRecDepth 20000 in
set_option maxHeartbeats 4000000 in
theorem g_X9_planTwo_2 {G : bz_G} {κ : bz_K} {l : Launch} {d : Nat} {F : Option bz_V → bz_H → Prop} {bc bs : Nat} (hl : κ.2.1 = l) (a0 : Nat) (r1 : Option Nat) (r2 : Option Nat) (x3 : Int32) (u4 : Option bz_V) (u5 : Option bz_V) (u6 : Option bz_V) (u7 : Option bz_V) (h : bz_H) (hP : (6 ≤ x3 → bz_rI h a0 9 5 (fun x_1 => bz_b x_1 (F (some (.inl x_1)) h))) ∧ (¬ (6 ≤ x3) → bz_rc h a0 9 (bz_cI G l d kX9_follow [.inr (some a0), .inl x3, .inl 4, .inr r1, .inr r2] h 0 0 (fun x_2 h_3 => bz_rR h_3 a0 9 2 (fun r_4 => bz_nn r_4 (fun a_5 => bz_rA h_3 a_5 1 (fun x_6 => bz_nn r1 (fun a_9 => bz_rc h_3 a_9 2 (bz_cI G l d kX2_lateAt [.inr (some a_9), .inl x_6] h_3 0 0 (fun x_7 h_8 => bz_rR h_8 a0 9 2 (fun r_10 => bz_nn r_10 (fun a_11 => bz_rA h_8 a_11 3 (fun x_12 => bz_nn r2 (fun a_15 => bz_rc h_8 a_15 2 (bz_cI G l d kX2_lateAt [.inr (some a_15), .inl x_12] h_8 0 0 (fun x_13 h_14 => bz_rI h_14 a0 9 5 (fun x_16 => (x_16 = 0 → bz_J G κ kX9_planTwo (d + 1) F bc bs 80 [some (.inr (some a0)), some (.inr (some a_9)), some (.inr (some a_15)), some (.inl x3), some (.inl x_2), some (.inl (x_7 + x_13)), u6, u7] [.inl 1] h_14) ∧ (¬ (x_16 = 0) → bz_rI h_14 a0 9 10 (fun x_17 => ((x_7 + x_13) < x_17 → bz_J G κ kX9_planTwo (d + 1) F bc bs 80 [some (.inr (some a0)), some (.inr (some a_9)), some (.inr (some a_15)), some (.inl x3), some (.inl x_2), some (.inl (x_7 + x_13)), u6, u7] [.inl 1] h_14) ∧ (¬ ((x_7 + x_13) < x_17) → bz_rI h_14 a0 9 10 (fun x_18 => (¬ (x_7 + x_13) = x_18 → bz_J G κ kX9_planTwo (d + 1) F bc bs 80 [some (.inr (some a0)), some (.inr (some a_9)), some (.inr (some a_15)), some (.inl x3), some (.inl x_2), some (.inl (x_7 + x_13)), u6, u7] [.inl 0] h_14) ∧ ((x_7 + x_13) = x_18 → bz_rI h_14 a0 9 7 (fun x_19 => bz_J G κ kX9_planTwo (d + 1) F bc bs 80 [some (.inr (some a0)), some (.inr (some a_9)), some (.inr (some a_15)), some (.inl x3), some (.inl x_2), some (.inl (x_7 + x_13)), u6, u7] [.inl (if x_19 ≤ x_2 then 0 else 1)] h_14))))))))))))))))))))))) : bz_J G κ kX9_planTwo (d + 1) F bc bs 2 [some (.inr (some a0)), some (.inr r1), some (.inr r2), some (.inl x3), u4, u5, u6, u7] [] h := by
  subst hl
  refine bz_iload_n (pc := 2) dX9_planTwo_2 rfl rfl ?_
  refine bz_bipush (v := 6) (pc := 3) dX9_planTwo_3 (by decide) ?_
  refine bz_icmp_ge (tgt := 146) (pc := 5) dX9_planTwo_5 (by decide) (fun c => ?_) (fun c => ?_)
  · have hP := hP.1 c
    refine bz_aload_n (pc := 146) dX9_planTwo_146 rfl rfl ?_
    refine bz_rw_rI (pc := 147) dX9_planTwo_147 fl_X9_32 hP (fun x_1 hP => ?_)
    obtain ⟨hb, hP⟩ := hP
    exact bz_retI (pc := 150) dX9_planTwo_150 rfl (by rcases hb with hb | hb <;> rw [hb] <;> rfl) hP
  · have hP := hP.2 c
    refine bz_aload_n (pc := 8) dX9_planTwo_8 rfl rfl ?_
    refine bz_iload_n (pc := 9) dX9_planTwo_9 rfl rfl ?_
    refine bz_iconst (v := 4) (pc := 10) dX9_planTwo_10 (by decide) ?_
    refine bz_aload_n (pc := 11) dX9_planTwo_11 rfl rfl ?_
    refine bz_aload_n (pc := 12) dX9_planTwo_12 rfl rfl ?_
    refine bz_kIV (as := [.inl x3, .inl 4, .inr r1, .inr r2]) (st := []) (ci := 9) (pc := 13) dX9_planTwo_13 sc_X9_follow ml_X9_40 im_X9_follow se_X9_follow rfl rfl rfl (by decide) hP (fun x_2 h_3 hP => ?_)
    refine bz_s_istore (pc := 16) dX9_planTwo_16 (by decide) [some (.inr (some a0)), some (.inr r1), some (.inr r2), some (.inl x3), some (.inl x_2), u5, u6, u7] rfl ?_
    refine bz_aload_n (pc := 18) dX9_planTwo_18 rfl rfl ?_
    refine bz_aload_n (pc := 19) dX9_planTwo_19 rfl rfl ?_
    refine bz_rw_rR (pc := 20) dX9_planTwo_20 fl_X9_15 hP (fun r_4 hP => ?_)
    refine bz_iconst (v := 1) (pc := 23) dX9_planTwo_23 (by decide) ?_
    obtain ⟨a_5, rfl, hP⟩ := hP
    refine bz_rw_rA (pc := 24) dX9_planTwo_24 hP (fun x_6 hP => ?_)
    obtain ⟨a_9, rfl, hP⟩ := hP
    refine bz_kIV (as := [.inl x_6]) (st := []) (ci := 2) (pc := 25) dX9_planTwo_25 sc_X2_lateAt ml_X9_44 im_X2_lateAt se_X2_lateAt rfl rfl rfl (by decide) hP (fun x_7 h_8 hP => ?_)
    refine bz_aload_n (pc := 28) dX9_planTwo_28 rfl rfl ?_
    refine bz_aload_n (pc := 29) dX9_planTwo_29 rfl rfl ?_
    refine bz_rw_rR (pc := 30) dX9_planTwo_30 fl_X9_15 hP (fun r_10 hP => ?_)
    refine bz_iconst (v := 3) (pc := 33) dX9_planTwo_33 (by decide) ?_
    obtain ⟨a_11, rfl, hP⟩ := hP
    refine bz_rw_rA (pc := 34) dX9_planTwo_34 hP (fun x_12 hP => ?_)
    obtain ⟨a_15, rfl, hP⟩ := hP
    refine bz_kIV (as := [.inl x_12]) (st := [.inl x_7]) (ci := 2) (pc := 35) dX9_planTwo_35 sc_X2_lateAt ml_X9_44 im_X2_lateAt se_X2_lateAt rfl rfl rfl (by decide) hP (fun x_13 h_14 hP => ?_)
    refine bz_iadd (pc := 38) dX9_planTwo_38 ?_
    refine bz_s_istore (pc := 39) dX9_planTwo_39 (by decide) [some (.inr (some a0)), some (.inr (some a_9)), some (.inr (some a_15)), some (.inl x3), some (.inl x_2), some (.inl (x_7 + x_13)), u6, u7] rfl ?_
    refine bz_aload_n (pc := 41) dX9_planTwo_41 rfl rfl ?_
    refine bz_rw_rI (pc := 42) dX9_planTwo_42 fl_X9_32 hP (fun x_16 hP => ?_)
    refine bz_if_eq (tgt := 75) (pc := 45) dX9_planTwo_45 (by decide) (fun c => ?_) (fun c => ?_)
    · have hP := hP.1 c
      refine bz_iconst (v := 1) (pc := 75) dX9_planTwo_75 (by decide) ?_
      refine bz_goto (tgt := 80) (pc := 76) dX9_planTwo_76 (by decide) ?_
      exact hP
    · have hP := hP.2 c
      refine bz_iload (pc := 48) dX9_planTwo_48 rfl ?_
      refine bz_aload_n (pc := 50) dX9_planTwo_50 rfl rfl ?_
      refine bz_rw_rI (pc := 51) dX9_planTwo_51 fl_X9_57 hP (fun x_17 hP => ?_)
      refine bz_icmp_lt (tgt := 75) (pc := 54) dX9_planTwo_54 (by decide) (fun c => ?_) (fun c => ?_)
      · have hP := hP.1 c
        refine bz_iconst (v := 1) (pc := 75) dX9_planTwo_75 (by decide) ?_
        refine bz_goto (tgt := 80) (pc := 76) dX9_planTwo_76 (by decide) ?_
        exact hP
      · have hP := hP.2 c
        refine bz_iload (pc := 57) dX9_planTwo_57 rfl ?_
        refine bz_aload_n (pc := 59) dX9_planTwo_59 rfl rfl ?_
        refine bz_rw_rI (pc := 60) dX9_planTwo_60 fl_X9_57 hP (fun x_18 hP => ?_)
        refine bz_icmp_ne (tgt := 79) (pc := 63) dX9_planTwo_63 (by decide) (fun c => ?_) (fun c => ?_)
        · have hP := hP.1 c
          refine bz_iconst (v := 0) (pc := 79) dX9_planTwo_79 (by decide) ?_
          exact hP
        · have hP := hP.2 c
          refine bz_iload (pc := 66) dX9_planTwo_66 rfl ?_
          refine bz_aload_n (pc := 68) dX9_planTwo_68 rfl rfl ?_
          refine bz_rw_rI (pc := 69) dX9_planTwo_69 fl_X9_60 hP (fun x_19 hP => ?_)
          have hJ : bz_J G κ kX9_planTwo (d + 1) F bc bs 80 [some (.inr (some a0)), some (.inr (some a_9)), some (.inr (some a_15)), some (.inl x3), some (.inl x_2), some (.inl (x_7 + x_13)), u6, u7] [.inl (if x_19 ≤ x_2 then 0 else 1)] h_14 := by
            exact hP
          refine bz_icmp_ge (tgt := 79) (pc := 72) dX9_planTwo_72 (by decide) (fun c => ?_) (fun c => ?_)
          · have e9 : ((if x_19 ≤ x_2 then 0 else 1) : Int32) = (0) := if_pos c
            rw [e9] at hJ
            refine bz_iconst (v := 0) (pc := 79) dX9_planTwo_79 (by decide) ?_
            exact hJ
          · have e9 : ((if x_19 ≤ x_2 then 0 else 1) : Int32) = (1) := if_neg c
            rw [e9] at hJ
            refine bz_iconst (v := 1) (pc := 75) dX9_planTwo_75 (by decide) ?_
            refine bz_goto (tgt := 80) (pc := 76) dX9_planTwo_76 (by decide) ?_
            exact hJ
set_option maxRecDepth 20000 in
set_option maxHeartbeats 4000000 in
theorem g_X9_planTwo_80 {G : bz_G} {κ : bz_K} {l : Launch} {d : Nat} {F : Option bz_V → bz_H → Prop} {bc bs : Nat} (hl : κ.2.1 = l) (a0 : Nat) (r1 : Option Nat) (r2 : Option Nat) (x3 : Int32) (x4 : Int32) (x5 : Int32) (u6 : Option bz_V) (u7 : Option bz_V) (y0 : Int32) (h : bz_H) (hP : (x4 = (-1) → bz_J G κ kX9_planTwo (d + 1) F bc bs 2 [some (.inr (some a0)), some (.inr r1), some (.inr r2), some (.inl (x3 + 1)), some (.inl x4), some (.inl x5), some (.inl y0), u7] [] h) ∧ (¬ (x4 = (-1)) → (y0 = 0 → bz_J G κ kX9_planTwo (d + 1) F bc bs 2 [some (.inr (some a0)), some (.inr r1), some (.inr r2), some (.inl (x3 + 1)), some (.inl x4), some (.inl x5), some (.inl y0), u7] [] h) ∧ (¬ (y0 = 0) → bz_rA h 1 (((x3 * 4) + 4) - 1) (fun x_20 => ((if x_20 = 1 then 1 else 0) = 0 → bz_nn r2 (fun a_21 => bz_rI h a_21 2 2 (fun x_22 => bz_rc h a0 9 (bz_cV G l d kX9_takeTried [.inr (some a0), .inl x3, .inl x4, .inl x5, .inl x_22] h 0 0 (fun h_24 => bz_J G κ kX9_planTwo (d + 1) F bc bs 2 [some (.inr (some a0)), some (.inr r1), some (.inr (some a_21)), some (.inl (x3 + 1)), some (.inl x4), some (.inl x5), some (.inl y0), some (.inl (if x_20 = 1 then 1 else 0))] [] h_24))))) ∧ (¬ ((if x_20 = 1 then 1 else 0) = 0) → bz_nn r1 (fun a_25 => bz_rI h a_25 2 2 (fun x_26 => bz_rc h a0 9 (bz_cV G l d kX9_takeTried [.inr (some a0), .inl x3, .inl x4, .inl x5, .inl x_26] h 0 0 (fun h_28 => bz_J G κ kX9_planTwo (d + 1) F bc bs 2 [some (.inr (some a0)), some (.inr (some a_25)), some (.inr r2), some (.inl (x3 + 1)), some (.inl x4), some (.inl x5), some (.inl y0), some (.inl (if x_20 = 1 then 1 else 0))] [] h_28))))))))) : bz_J G κ kX9_planTwo (d + 1) F bc bs 80 [some (.inr (some a0)), some (.inr r1), some (.inr r2), some (.inl x3), some (.inl x4), some (.inl x5), u6, u7] [.inl y0] h := by
  subst hl
  refine bz_s_istore (pc := 80) dX9_planTwo_80 (by decide) [some (.inr (some a0)), some (.inr r1), some (.inr r2), some (.inl x3), some (.inl x4), some (.inl x5), some (.inl y0), u7] rfl ?_
  refine bz_iload (pc := 82) dX9_planTwo_82 rfl ?_
  refine bz_iconst (v := (-1)) (pc := 84) dX9_planTwo_84 (by decide) ?_
  refine bz_icmp_eq (tgt := 140) (pc := 85) dX9_planTwo_85 (by decide) (fun c => ?_) (fun c => ?_)
  · have hP := hP.1 c
    refine bz_s_iinc (pc := 140) dX9_planTwo_140 (by decide) rfl rfl [some (.inr (some a0)), some (.inr r1), some (.inr r2), some (.inl (x3 + 1)), some (.inl x4), some (.inl x5), some (.inl y0), u7] rfl ?_
    refine bz_goto (tgt := 2) (pc := 143) dX9_planTwo_143 (by decide) ?_
    exact hP
  · have hP := hP.2 c
    refine bz_iload (pc := 88) dX9_planTwo_88 rfl ?_
    refine bz_if_eq (tgt := 140) (pc := 90) dX9_planTwo_90 (by decide) (fun c => ?_) (fun c => ?_)
    · have hP := hP.1 c
      refine bz_s_iinc (pc := 140) dX9_planTwo_140 (by decide) rfl rfl [some (.inr (some a0)), some (.inr r1), some (.inr r2), some (.inl (x3 + 1)), some (.inl x4), some (.inl x5), some (.inl y0), u7] rfl ?_
      refine bz_goto (tgt := 2) (pc := 143) dX9_planTwo_143 (by decide) ?_
      exact hP
    · have hP := hP.2 c
      refine bz_getsL (pc := 93) dX9_planTwo_93 ⟨rfl, rfl⟩ ?_
      refine bz_iload_n (pc := 96) dX9_planTwo_96 rfl rfl ?_
      refine bz_iconst (v := 4) (pc := 97) dX9_planTwo_97 (by decide) ?_
      refine bz_imul (pc := 98) dX9_planTwo_98 ?_
      refine bz_iconst (v := 4) (pc := 99) dX9_planTwo_99 (by decide) ?_
      refine bz_iadd (pc := 100) dX9_planTwo_100 ?_
      refine bz_iconst (v := 1) (pc := 101) dX9_planTwo_101 (by decide) ?_
      refine bz_isub (pc := 102) dX9_planTwo_102 ?_
      refine bz_rw_rA (pc := 103) dX9_planTwo_103 hP (fun x_20 hP => ?_)
      refine bz_iconst (v := 1) (pc := 104) dX9_planTwo_104 (by decide) ?_
      have hJ : bz_J G κ kX9_planTwo (d + 1) F bc bs 113 [some (.inr (some a0)), some (.inr r1), some (.inr r2), some (.inl x3), some (.inl x4), some (.inl x5), some (.inl y0), u7] [.inl (if x_20 = 1 then 1 else 0)] h := by
        refine bz_s_istore (pc := 113) dX9_planTwo_113 (by decide) [some (.inr (some a0)), some (.inr r1), some (.inr r2), some (.inl x3), some (.inl x4), some (.inl x5), some (.inl y0), some (.inl (if x_20 = 1 then 1 else 0))] rfl ?_
        refine bz_aload_n (pc := 115) dX9_planTwo_115 rfl rfl ?_
        refine bz_iload_n (pc := 116) dX9_planTwo_116 rfl rfl ?_
        refine bz_iload (pc := 117) dX9_planTwo_117 rfl ?_
        refine bz_iload (pc := 119) dX9_planTwo_119 rfl ?_
        refine bz_iload (pc := 121) dX9_planTwo_121 rfl ?_
        refine bz_if_eq (tgt := 133) (pc := 123) dX9_planTwo_123 (by decide) (fun c => ?_) (fun c => ?_)
        · have hP := hP.1 c
          refine bz_aload_n (pc := 133) dX9_planTwo_133 rfl rfl ?_
          obtain ⟨a_21, rfl, hP⟩ := hP
          refine bz_rw_rI (pc := 134) dX9_planTwo_134 fl_X9_50 hP (fun x_22 hP => ?_)
          refine bz_kVV (as := [.inl x3, .inl x4, .inl x5, .inl x_22]) (st := []) (ci := 9) (pc := 137) dX9_planTwo_137 sc_X9_takeTried ml_X9_53 im_X9_takeTried se_X9_takeTried rfl rfl rfl (by decide) hP (fun h_24 hP => ?_)
          refine bz_s_iinc (pc := 140) dX9_planTwo_140 (by decide) rfl rfl [some (.inr (some a0)), some (.inr r1), some (.inr (some a_21)), some (.inl (x3 + 1)), some (.inl x4), some (.inl x5), some (.inl y0), some (.inl (if x_20 = 1 then 1 else 0))] rfl ?_
          refine bz_goto (tgt := 2) (pc := 143) dX9_planTwo_143 (by decide) ?_
          exact hP
        · have hP := hP.2 c
          refine bz_aload_n (pc := 126) dX9_planTwo_126 rfl rfl ?_
          obtain ⟨a_25, rfl, hP⟩ := hP
          refine bz_rw_rI (pc := 127) dX9_planTwo_127 fl_X9_50 hP (fun x_26 hP => ?_)
          refine bz_goto (tgt := 137) (pc := 130) dX9_planTwo_130 (by decide) ?_
          refine bz_kVV (as := [.inl x3, .inl x4, .inl x5, .inl x_26]) (st := []) (ci := 9) (pc := 137) dX9_planTwo_137 sc_X9_takeTried ml_X9_53 im_X9_takeTried se_X9_takeTried rfl rfl rfl (by decide) hP (fun h_28 hP => ?_)
          refine bz_s_iinc (pc := 140) dX9_planTwo_140 (by decide) rfl rfl [some (.inr (some a0)), some (.inr (some a_25)), some (.inr r2), some (.inl (x3 + 1)), some (.inl x4), some (.inl x5), some (.inl y0), some (.inl (if x_20 = 1 then 1 else 0))] rfl ?_
          refine bz_goto (tgt := 2) (pc := 143) dX9_planTwo_143 (by decide) ?_
          exact hP
      refine bz_icmp_ne (tgt := 112) (pc := 105) dX9_planTwo_105 (by decide) (fun c => ?_) (fun c => ?_)
      · have e9 : ((if x_20 = 1 then 1 else 0) : Int32) = (0) := if_neg c
        rw [e9] at hJ
        refine bz_iconst (v := 0) (pc := 112) dX9_planTwo_112 (by decide) ?_
        exact hJ
      · have e9 : ((if x_20 = 1 then 1 else 0) : Int32) = (1) := if_pos c
        rw [e9] at hJ
        refine bz_iconst (v := 1) (pc := 108) dX9_planTwo_108 (by decide) ?_
        refine bz_goto (tgt := 113) (pc := 109) dX9_planTwo_109 (by decide) ?_
        exact hJ
theorem m_X9_planTwo {G : bz_G} {l : Launch} {d mc ms : Nat} {F : Option bz_V → bz_H → Prop} (a0 : Nat) (r1 : Option Nat) (r2 : Option Nat) (h : bz_H) (hP : ∀ (κ : bz_K) (bc bs : Nat), κ.2.1 = l → bz_J G κ kX9_planTwo (d + 1) F bc bs 2 [some (.inr (some a0)), some (.inr r1), some (.inr r2), some (.inl 0), none, none, none, none] [] h) : bz_Call G l (d + 1) kX9_planTwo [.inr (some a0), .inr r1, .inr r2] h mc ms F :=
  bz_body (by decide) (by decide) (fun κ hl => g_X9_planTwo_0 hl a0 r1 r2 h (hP κ mc ms hl))
set_option maxRecDepth 20000 in
set_option maxHeartbeats 4000000 in
theorem g_X9_setOut_0 {G : bz_G} {κ : bz_K} {l : Launch} {d : Nat} {F : Option bz_V → bz_H → Prop} {bc bs : Nat} (hl : κ.2.1 = l) (a0 : Nat) (x1 : Int32) (x2 : Int32) (x3 : Int32) (h : bz_H) (hP : bz_wI h a0 9 3 x1 (fun h_1 => bz_wI h_1 a0 9 4 x2 (fun h_2 => bz_wI h_2 a0 9 6 x3 (fun h_3 => bz_b 0 (bz_wI h_3 a0 9 5 0 (fun h_4 => F none h_4)))))) : bz_J G κ kX9_setOut (d + 1) F bc bs 0 [some (.inr (some a0)), some (.inl x1), some (.inl x2), some (.inl x3)] [] h := by
  subst hl
  refine bz_aload_n (pc := 0) dX9_setOut_0 rfl rfl ?_
  refine bz_iload_n (pc := 1) dX9_setOut_1 rfl rfl ?_
  refine bz_rw_wI (pc := 2) dX9_setOut_2 fl_X9_22 (fun q h9 => by cases h9; rfl) rfl hP (fun h_1 hP => ?_)
  refine bz_aload_n (pc := 5) dX9_setOut_5 rfl rfl ?_
  refine bz_iload_n (pc := 6) dX9_setOut_6 rfl rfl ?_
  refine bz_rw_wI (pc := 7) dX9_setOut_7 fl_X9_26 (fun q h9 => by cases h9; rfl) rfl hP (fun h_2 hP => ?_)
  refine bz_aload_n (pc := 10) dX9_setOut_10 rfl rfl ?_
  refine bz_iload_n (pc := 11) dX9_setOut_11 rfl rfl ?_
  refine bz_rw_wI (pc := 12) dX9_setOut_12 fl_X9_29 (fun q h9 => by cases h9; rfl) rfl hP (fun h_3 hP => ?_)
  refine bz_aload_n (pc := 15) dX9_setOut_15 rfl rfl ?_
  refine bz_iconst (v := 0) (pc := 16) dX9_setOut_16 (by decide) ?_
  refine bz_rw_wZ (pc := 17) dX9_setOut_17 fl_X9_32 (fun q h9 => by cases h9; rfl) rfl hP (fun h_4 hP => ?_)
  exact bz_retV (pc := 20) dX9_setOut_20 rfl hP
theorem m_X9_setOut {G : bz_G} {l : Launch} {d mc ms : Nat} {F : Option bz_V → bz_H → Prop} (a0 : Nat) (x1 : Int32) (x2 : Int32) (x3 : Int32) (h : bz_H) (hP : bz_wI h a0 9 3 x1 (fun h_1 => bz_wI h_1 a0 9 4 x2 (fun h_2 => bz_wI h_2 a0 9 6 x3 (fun h_3 => bz_b 0 (bz_wI h_3 a0 9 5 0 (fun h_4 => F none h_4)))))) : bz_Call G l (d + 1) kX9_setOut [.inr (some a0), .inl x1, .inl x2, .inl x3] h mc ms F :=
  bz_body (by decide) (by decide) (fun κ hl => g_X9_setOut_0 hl a0 x1 x2 x3 h hP)
set_option maxRecDepth 20000 in
set_option maxHeartbeats 4000000 in
theorem g_X9_takeTried_0 {G : bz_G} {κ : bz_K} {l : Launch} {d : Nat} {F : Option bz_V → bz_H → Prop} {bc bs : Nat} (hl : κ.2.1 = l) (a0 : Nat) (x1 : Int32) (x2 : Int32) (x3 : Int32) (x4 : Int32) (h : bz_H) (hP : bz_b 1 (bz_wI h a0 9 5 1 (fun h_1 => bz_wI h_1 a0 9 9 x1 (fun h_2 => bz_wI h_2 a0 9 7 x2 (fun h_3 => bz_wI h_3 a0 9 10 x3 (fun h_4 => bz_wI h_4 a0 9 8 x4 (fun h_5 => bz_rR h_5 a0 9 2 (fun r_6 => bz_rR h_5 a0 9 1 (fun r_7 => bz_nn r_7 (fun a_8 => bz_nn r_6 (fun a_9 => bz_cp h_5 a_9 0 a_8 0 4 (fun h_10 => F none h_10)))))))))))) : bz_J G κ kX9_takeTried (d + 1) F bc bs 0 [some (.inr (some a0)), some (.inl x1), some (.inl x2), some (.inl x3), some (.inl x4)] [] h := by
  subst hl
  refine bz_aload_n (pc := 0) dX9_takeTried_0 rfl rfl ?_
  refine bz_iconst (v := 1) (pc := 1) dX9_takeTried_1 (by decide) ?_
  refine bz_rw_wZ (pc := 2) dX9_takeTried_2 fl_X9_32 (fun q h9 => by cases h9; rfl) rfl hP (fun h_1 hP => ?_)
  refine bz_aload_n (pc := 5) dX9_takeTried_5 rfl rfl ?_
  refine bz_iload_n (pc := 6) dX9_takeTried_6 rfl rfl ?_
  refine bz_rw_wI (pc := 7) dX9_takeTried_7 fl_X9_66 (fun q h9 => by cases h9; rfl) rfl hP (fun h_2 hP => ?_)
  refine bz_aload_n (pc := 10) dX9_takeTried_10 rfl rfl ?_
  refine bz_iload_n (pc := 11) dX9_takeTried_11 rfl rfl ?_
  refine bz_rw_wI (pc := 12) dX9_takeTried_12 fl_X9_60 (fun q h9 => by cases h9; rfl) rfl hP (fun h_3 hP => ?_)
  refine bz_aload_n (pc := 15) dX9_takeTried_15 rfl rfl ?_
  refine bz_iload_n (pc := 16) dX9_takeTried_16 rfl rfl ?_
  refine bz_rw_wI (pc := 17) dX9_takeTried_17 fl_X9_57 (fun q h9 => by cases h9; rfl) rfl hP (fun h_4 hP => ?_)
  refine bz_aload_n (pc := 20) dX9_takeTried_20 rfl rfl ?_
  refine bz_iload (pc := 21) dX9_takeTried_21 rfl ?_
  refine bz_rw_wI (pc := 23) dX9_takeTried_23 fl_X9_69 (fun q h9 => by cases h9; rfl) rfl hP (fun h_5 hP => ?_)
  refine bz_aload_n (pc := 26) dX9_takeTried_26 rfl rfl ?_
  refine bz_rw_rR (pc := 27) dX9_takeTried_27 fl_X9_15 hP (fun r_6 hP => ?_)
  refine bz_iconst (v := 0) (pc := 30) dX9_takeTried_30 (by decide) ?_
  refine bz_aload_n (pc := 31) dX9_takeTried_31 rfl rfl ?_
  refine bz_rw_rR (pc := 32) dX9_takeTried_32 fl_X9_9 hP (fun r_7 hP => ?_)
  refine bz_iconst (v := 0) (pc := 35) dX9_takeTried_35 (by decide) ?_
  refine bz_iconst (v := 4) (pc := 36) dX9_takeTried_36 (by decide) ?_
  obtain ⟨a_8, rfl, hP⟩ := hP
  obtain ⟨a_9, rfl, hP⟩ := hP
  refine bz_rw_cp (pc := 37) dX9_takeTried_37 ml_X9_72 ac_n ac_s ac_i (by decide) hP (fun h_10 hP => ?_)
  exact bz_retV (pc := 40) dX9_takeTried_40 rfl hP
theorem m_X9_takeTried {G : bz_G} {l : Launch} {d mc ms : Nat} {F : Option bz_V → bz_H → Prop} (a0 : Nat) (x1 : Int32) (x2 : Int32) (x3 : Int32) (x4 : Int32) (h : bz_H) (hP : bz_b 1 (bz_wI h a0 9 5 1 (fun h_1 => bz_wI h_1 a0 9 9 x1 (fun h_2 => bz_wI h_2 a0 9 7 x2 (fun h_3 => bz_wI h_3 a0 9 10 x3 (fun h_4 => bz_wI h_4 a0 9 8 x4 (fun h_5 => bz_rR h_5 a0 9 2 (fun r_6 => bz_rR h_5 a0 9 1 (fun r_7 => bz_nn r_7 (fun a_8 => bz_nn r_6 (fun a_9 => bz_cp h_5 a_9 0 a_8 0 4 (fun h_10 => F none h_10)))))))))))) : bz_Call G l (d + 1) kX9_takeTried [.inr (some a0), .inl x1, .inl x2, .inl x3, .inl x4] h mc ms F :=
  bz_body (by decide) (by decide) (fun κ hl => g_X9_takeTried_0 hl a0 x1 x2 x3 x4 h hP)
set_option maxRecDepth 20000 in
set_option maxHeartbeats 4000000 in
theorem g_X10_addOrder_0 {G : bz_G} {κ : bz_K} {l : Launch} {d : Nat} {F : Option bz_V → bz_H → Prop} {bc bs : Nat} (hl : κ.2.1 = l) (a0 : Nat) (x1 : Int32) (x2 : Int32) (x3 : Int32) (x4 : Int32) (h : bz_H) (hP : bz_rR h a0 10 2 (fun r_1 => bz_rI h a0 10 9 (fun x_2 => bz_nn r_1 (fun a_3 => bz_rQ h a_3 x_2 (fun r_4 => bz_nn r_4 (fun a_5 => bz_wI h a_5 2 0 x1 (fun h_6 => bz_rR h_6 a0 10 1 (fun r_7 => bz_nn r_7 (fun a_10 => bz_rc h_6 a_10 4 (bz_cI G l d kX4_cell [.inr (some a_10), .inl x1, .inl 0] h_6 0 0 (fun x_8 h_9 => bz_wI h_9 a_5 2 1 x_8 (fun h_11 => bz_wI h_11 a_5 2 2 x2 (fun h_12 => bz_rI h_12 a0 10 12 (fun x_13 => bz_wI h_12 a_5 2 3 x_13 (fun h_14 => bz_rI h_14 a0 10 12 (fun x_15 => bz_wI h_14 a_5 2 4 (x_15 + x3) (fun h_16 => bz_wI h_16 a_5 2 5 x4 (fun h_17 => bz_rI h_17 a0 10 12 (fun x_18 => bz_rR h_17 a0 10 1 (fun r_19 => bz_nn r_19 (fun a_22 => bz_rc h_17 a_22 4 (bz_cI G l d kX4_cell [.inr (some a_22), .inl x1, .inl 1] h_17 0 0 (fun x_20 h_21 => bz_wI h_21 a_5 2 6 ((x_18 + x_20) + x4) (fun h_23 => bz_wI h_23 a_5 2 7 0 (fun h_24 => bz_wI h_24 a_5 2 14 0 (fun h_25 => bz_rI h_25 a0 10 9 (fun x_26 => bz_wI h_25 a0 10 9 (x_26 + 1) (fun h_27 => F none h_27)))))))))))))))))))))))))))) : bz_J G κ kX10_addOrder (d + 1) F bc bs 0 [some (.inr (some a0)), some (.inl x1), some (.inl x2), some (.inl x3), some (.inl x4), none] [] h := by
  subst hl
  refine bz_aload_n (pc := 0) dX10_addOrder_0 rfl rfl ?_
  refine bz_rw_rR (pc := 1) dX10_addOrder_1 fl_X10_29 hP (fun r_1 hP => ?_)
  refine bz_aload_n (pc := 4) dX10_addOrder_4 rfl rfl ?_
  refine bz_rw_rI (pc := 5) dX10_addOrder_5 fl_X10_73 hP (fun x_2 hP => ?_)
  obtain ⟨a_3, rfl, hP⟩ := hP
  refine bz_rw_ldq (pc := 8) dX10_addOrder_8 hP (fun r_4 hP => ?_)
  refine bz_s_astore (pc := 9) dX10_addOrder_9 (by decide) [some (.inr (some a0)), some (.inl x1), some (.inl x2), some (.inl x3), some (.inl x4), some (.inr r_4)] rfl ?_
  refine bz_aload (pc := 11) dX10_addOrder_11 rfl ?_
  refine bz_iload_n (pc := 13) dX10_addOrder_13 rfl rfl ?_
  obtain ⟨a_5, rfl, hP⟩ := hP
  refine bz_rw_wI (pc := 14) dX10_addOrder_14 fl_X10_86 (fun q h9 => by cases h9; rfl) rfl hP (fun h_6 hP => ?_)
  refine bz_aload (pc := 17) dX10_addOrder_17 rfl ?_
  refine bz_aload_n (pc := 19) dX10_addOrder_19 rfl rfl ?_
  refine bz_rw_rR (pc := 20) dX10_addOrder_20 fl_X10_23 hP (fun r_7 hP => ?_)
  refine bz_iload_n (pc := 23) dX10_addOrder_23 rfl rfl ?_
  refine bz_iconst (v := 0) (pc := 24) dX10_addOrder_24 (by decide) ?_
  obtain ⟨a_10, rfl, hP⟩ := hP
  refine bz_kIV (as := [.inl x1, .inl 0]) (st := [.inr (some a_5)]) (ci := 4) (pc := 25) dX10_addOrder_25 sc_X4_cell ml_X10_89 im_X4_cell se_X4_cell rfl rfl rfl (by decide) hP (fun x_8 h_9 hP => ?_)
  refine bz_rw_wI (pc := 28) dX10_addOrder_28 fl_X10_93 (fun q h9 => by cases h9; rfl) rfl hP (fun h_11 hP => ?_)
  refine bz_aload (pc := 31) dX10_addOrder_31 rfl ?_
  refine bz_iload_n (pc := 33) dX10_addOrder_33 rfl rfl ?_
  refine bz_rw_wI (pc := 34) dX10_addOrder_34 fl_X10_96 (fun q h9 => by cases h9; rfl) rfl hP (fun h_12 hP => ?_)
  refine bz_aload (pc := 37) dX10_addOrder_37 rfl ?_
  refine bz_aload_n (pc := 39) dX10_addOrder_39 rfl rfl ?_
  refine bz_rw_rI (pc := 40) dX10_addOrder_40 fl_X10_99 hP (fun x_13 hP => ?_)
  refine bz_rw_wI (pc := 43) dX10_addOrder_43 fl_X10_102 (fun q h9 => by cases h9; rfl) rfl hP (fun h_14 hP => ?_)
  refine bz_aload (pc := 46) dX10_addOrder_46 rfl ?_
  refine bz_aload_n (pc := 48) dX10_addOrder_48 rfl rfl ?_
  refine bz_rw_rI (pc := 49) dX10_addOrder_49 fl_X10_99 hP (fun x_15 hP => ?_)
  refine bz_iload_n (pc := 52) dX10_addOrder_52 rfl rfl ?_
  refine bz_iadd (pc := 53) dX10_addOrder_53 ?_
  refine bz_rw_wI (pc := 54) dX10_addOrder_54 fl_X10_105 (fun q h9 => by cases h9; rfl) rfl hP (fun h_16 hP => ?_)
  refine bz_aload (pc := 57) dX10_addOrder_57 rfl ?_
  refine bz_iload (pc := 59) dX10_addOrder_59 rfl ?_
  refine bz_rw_wI (pc := 61) dX10_addOrder_61 fl_X10_108 (fun q h9 => by cases h9; rfl) rfl hP (fun h_17 hP => ?_)
  refine bz_aload (pc := 64) dX10_addOrder_64 rfl ?_
  refine bz_aload_n (pc := 66) dX10_addOrder_66 rfl rfl ?_
  refine bz_rw_rI (pc := 67) dX10_addOrder_67 fl_X10_99 hP (fun x_18 hP => ?_)
  refine bz_aload_n (pc := 70) dX10_addOrder_70 rfl rfl ?_
  refine bz_rw_rR (pc := 71) dX10_addOrder_71 fl_X10_23 hP (fun r_19 hP => ?_)
  refine bz_iload_n (pc := 74) dX10_addOrder_74 rfl rfl ?_
  refine bz_iconst (v := 1) (pc := 75) dX10_addOrder_75 (by decide) ?_
  obtain ⟨a_22, rfl, hP⟩ := hP
  refine bz_kIV (as := [.inl x1, .inl 1]) (st := [.inl x_18, .inr (some a_5)]) (ci := 4) (pc := 76) dX10_addOrder_76 sc_X4_cell ml_X10_89 im_X4_cell se_X4_cell rfl rfl rfl (by decide) hP (fun x_20 h_21 hP => ?_)
  refine bz_iadd (pc := 79) dX10_addOrder_79 ?_
  refine bz_iload (pc := 80) dX10_addOrder_80 rfl ?_
  refine bz_iadd (pc := 82) dX10_addOrder_82 ?_
  refine bz_rw_wI (pc := 83) dX10_addOrder_83 fl_X10_111 (fun q h9 => by cases h9; rfl) rfl hP (fun h_23 hP => ?_)
  refine bz_aload (pc := 86) dX10_addOrder_86 rfl ?_
  refine bz_iconst (v := 0) (pc := 88) dX10_addOrder_88 (by decide) ?_
  refine bz_rw_wI (pc := 89) dX10_addOrder_89 fl_X10_114 (fun q h9 => by cases h9; rfl) rfl hP (fun h_24 hP => ?_)
  refine bz_aload (pc := 92) dX10_addOrder_92 rfl ?_
  refine bz_iconst (v := 0) (pc := 94) dX10_addOrder_94 (by decide) ?_
  refine bz_rw_wI (pc := 95) dX10_addOrder_95 fl_X10_117 (fun q h9 => by cases h9; rfl) rfl hP (fun h_25 hP => ?_)
  refine bz_aload_n (pc := 98) dX10_addOrder_98 rfl rfl ?_
  refine bz_dup (pc := 99) dX10_addOrder_99 ?_
  refine bz_rw_rI (pc := 100) dX10_addOrder_100 fl_X10_73 hP (fun x_26 hP => ?_)
  refine bz_iconst (v := 1) (pc := 103) dX10_addOrder_103 (by decide) ?_
  refine bz_iadd (pc := 104) dX10_addOrder_104 ?_
  refine bz_rw_wI (pc := 105) dX10_addOrder_105 fl_X10_73 (fun q h9 => by cases h9; rfl) rfl hP (fun h_27 hP => ?_)
  exact bz_retV (pc := 108) dX10_addOrder_108 rfl hP
theorem m_X10_addOrder {G : bz_G} {l : Launch} {d mc ms : Nat} {F : Option bz_V → bz_H → Prop} (a0 : Nat) (x1 : Int32) (x2 : Int32) (x3 : Int32) (x4 : Int32) (h : bz_H) (hP : bz_rR h a0 10 2 (fun r_1 => bz_rI h a0 10 9 (fun x_2 => bz_nn r_1 (fun a_3 => bz_rQ h a_3 x_2 (fun r_4 => bz_nn r_4 (fun a_5 => bz_wI h a_5 2 0 x1 (fun h_6 => bz_rR h_6 a0 10 1 (fun r_7 => bz_nn r_7 (fun a_10 => bz_rc h_6 a_10 4 (bz_cI G l d kX4_cell [.inr (some a_10), .inl x1, .inl 0] h_6 0 0 (fun x_8 h_9 => bz_wI h_9 a_5 2 1 x_8 (fun h_11 => bz_wI h_11 a_5 2 2 x2 (fun h_12 => bz_rI h_12 a0 10 12 (fun x_13 => bz_wI h_12 a_5 2 3 x_13 (fun h_14 => bz_rI h_14 a0 10 12 (fun x_15 => bz_wI h_14 a_5 2 4 (x_15 + x3) (fun h_16 => bz_wI h_16 a_5 2 5 x4 (fun h_17 => bz_rI h_17 a0 10 12 (fun x_18 => bz_rR h_17 a0 10 1 (fun r_19 => bz_nn r_19 (fun a_22 => bz_rc h_17 a_22 4 (bz_cI G l d kX4_cell [.inr (some a_22), .inl x1, .inl 1] h_17 0 0 (fun x_20 h_21 => bz_wI h_21 a_5 2 6 ((x_18 + x_20) + x4) (fun h_23 => bz_wI h_23 a_5 2 7 0 (fun h_24 => bz_wI h_24 a_5 2 14 0 (fun h_25 => bz_rI h_25 a0 10 9 (fun x_26 => bz_wI h_25 a0 10 9 (x_26 + 1) (fun h_27 => F none h_27)))))))))))))))))))))))))))) : bz_Call G l (d + 1) kX10_addOrder [.inr (some a0), .inl x1, .inl x2, .inl x3, .inl x4] h mc ms F :=
  bz_body (by decide) (by decide) (fun κ hl => g_X10_addOrder_0 hl a0 x1 x2 x3 x4 h hP)
set_option maxRecDepth 20000 in
set_option maxHeartbeats 4000000 in
theorem g_X10_addRider_0 {G : bz_G} {κ : bz_K} {l : Launch} {d : Nat} {F : Option bz_V → bz_H → Prop} {bc bs : Nat} (hl : κ.2.1 = l) (a0 : Nat) (x1 : Int32) (x2 : Int32) (h : bz_H) (hP : bz_rR h a0 10 3 (fun r_1 => bz_rI h a0 10 10 (fun x_2 => bz_nn r_1 (fun a_3 => bz_rQ h a_3 x_2 (fun r_4 => bz_rI h a0 10 12 (fun x_5 => bz_nn r_4 (fun a_8 => bz_rc h a_8 3 (bz_cV G l d kX3_comeOn [.inr (some a_8), .inl x1, .inl x2, .inl x_5] h 0 0 (fun h_7 => bz_rI h_7 a0 10 10 (fun x_9 => bz_wI h_7 a0 10 10 (x_9 + 1) (fun h_10 => F none h_10))))))))))) : bz_J G κ kX10_addRider (d + 1) F bc bs 0 [some (.inr (some a0)), some (.inl x1), some (.inl x2)] [] h := by
  subst hl
  refine bz_aload_n (pc := 0) dX10_addRider_0 rfl rfl ?_
  refine bz_rw_rR (pc := 1) dX10_addRider_1 fl_X10_35 hP (fun r_1 hP => ?_)
  refine bz_aload_n (pc := 4) dX10_addRider_4 rfl rfl ?_
  refine bz_rw_rI (pc := 5) dX10_addRider_5 fl_X10_80 hP (fun x_2 hP => ?_)
  obtain ⟨a_3, rfl, hP⟩ := hP
  refine bz_rw_ldq (pc := 8) dX10_addRider_8 hP (fun r_4 hP => ?_)
  refine bz_iload_n (pc := 9) dX10_addRider_9 rfl rfl ?_
  refine bz_iload_n (pc := 10) dX10_addRider_10 rfl rfl ?_
  refine bz_aload_n (pc := 11) dX10_addRider_11 rfl rfl ?_
  refine bz_rw_rI (pc := 12) dX10_addRider_12 fl_X10_99 hP (fun x_5 hP => ?_)
  obtain ⟨a_8, rfl, hP⟩ := hP
  refine bz_kVV (as := [.inl x1, .inl x2, .inl x_5]) (st := []) (ci := 3) (pc := 15) dX10_addRider_15 sc_X3_comeOn ml_X10_120 im_X3_comeOn se_X3_comeOn rfl rfl rfl (by decide) hP (fun h_7 hP => ?_)
  refine bz_aload_n (pc := 18) dX10_addRider_18 rfl rfl ?_
  refine bz_dup (pc := 19) dX10_addRider_19 ?_
  refine bz_rw_rI (pc := 20) dX10_addRider_20 fl_X10_80 hP (fun x_9 hP => ?_)
  refine bz_iconst (v := 1) (pc := 23) dX10_addRider_23 (by decide) ?_
  refine bz_iadd (pc := 24) dX10_addRider_24 ?_
  refine bz_rw_wI (pc := 25) dX10_addRider_25 fl_X10_80 (fun q h9 => by cases h9; rfl) rfl hP (fun h_10 hP => ?_)
  exact bz_retV (pc := 28) dX10_addRider_28 rfl hP
theorem m_X10_addRider {G : bz_G} {l : Launch} {d mc ms : Nat} {F : Option bz_V → bz_H → Prop} (a0 : Nat) (x1 : Int32) (x2 : Int32) (h : bz_H) (hP : bz_rR h a0 10 3 (fun r_1 => bz_rI h a0 10 10 (fun x_2 => bz_nn r_1 (fun a_3 => bz_rQ h a_3 x_2 (fun r_4 => bz_rI h a0 10 12 (fun x_5 => bz_nn r_4 (fun a_8 => bz_rc h a_8 3 (bz_cV G l d kX3_comeOn [.inr (some a_8), .inl x1, .inl x2, .inl x_5] h 0 0 (fun h_7 => bz_rI h_7 a0 10 10 (fun x_9 => bz_wI h_7 a0 10 10 (x_9 + 1) (fun h_10 => F none h_10))))))))))) : bz_Call G l (d + 1) kX10_addRider [.inr (some a0), .inl x1, .inl x2] h mc ms F :=
  bz_body (by decide) (by decide) (fun κ hl => g_X10_addRider_0 hl a0 x1 x2 h hP)
set_option maxRecDepth 20000 in
set_option maxHeartbeats 4000000 in
theorem g_X10_addText_0 {G : bz_G} {κ : bz_K} {l : Launch} {d : Nat} {F : Option bz_V → bz_H → Prop} {bc bs : Nat} (hl : κ.2.1 = l) (a0 : Nat) (r1 : Option Nat) (h : bz_H) (hP : bz_rR h a0 10 4 (fun r_1 => bz_rI h a0 10 11 (fun x_2 => bz_nn r_1 (fun a_3 => bz_wQ h a_3 x_2 r1 (fun h_4 => bz_rI h_4 a0 10 11 (fun x_5 => bz_wI h_4 a0 10 11 (x_5 + 1) (fun h_6 => F none h_6))))))) : bz_J G κ kX10_addText (d + 1) F bc bs 0 [some (.inr (some a0)), some (.inr r1)] [] h := by
  subst hl
  refine bz_aload_n (pc := 0) dX10_addText_0 rfl rfl ?_
  refine bz_rw_rR (pc := 1) dX10_addText_1 fl_X10_41 hP (fun r_1 hP => ?_)
  refine bz_aload_n (pc := 4) dX10_addText_4 rfl rfl ?_
  refine bz_rw_rI (pc := 5) dX10_addText_5 fl_X10_83 hP (fun x_2 hP => ?_)
  refine bz_aload_n (pc := 8) dX10_addText_8 rfl rfl ?_
  obtain ⟨a_3, rfl, hP⟩ := hP
  refine bz_rw_stq (pc := 9) dX10_addText_9 hP (fun h_4 hP => ?_)
  refine bz_aload_n (pc := 10) dX10_addText_10 rfl rfl ?_
  refine bz_dup (pc := 11) dX10_addText_11 ?_
  refine bz_rw_rI (pc := 12) dX10_addText_12 fl_X10_83 hP (fun x_5 hP => ?_)
  refine bz_iconst (v := 1) (pc := 15) dX10_addText_15 (by decide) ?_
  refine bz_iadd (pc := 16) dX10_addText_16 ?_
  refine bz_rw_wI (pc := 17) dX10_addText_17 fl_X10_83 (fun q h9 => by cases h9; rfl) rfl hP (fun h_6 hP => ?_)
  exact bz_retV (pc := 20) dX10_addText_20 rfl hP
theorem m_X10_addText {G : bz_G} {l : Launch} {d mc ms : Nat} {F : Option bz_V → bz_H → Prop} (a0 : Nat) (r1 : Option Nat) (h : bz_H) (hP : bz_rR h a0 10 4 (fun r_1 => bz_rI h a0 10 11 (fun x_2 => bz_nn r_1 (fun a_3 => bz_wQ h a_3 x_2 r1 (fun h_4 => bz_rI h_4 a0 10 11 (fun x_5 => bz_wI h_4 a0 10 11 (x_5 + 1) (fun h_6 => F none h_6))))))) : bz_Call G l (d + 1) kX10_addText [.inr (some a0), .inr r1] h mc ms F :=
  bz_body (by decide) (by decide) (fun κ hl => g_X10_addText_0 hl a0 r1 h hP)
set_option maxRecDepth 20000 in
set_option maxHeartbeats 4000000 in
theorem g_X10_becomeLike_0 {G : bz_G} {κ : bz_K} {l : Launch} {d : Nat} {F : Option bz_V → bz_H → Prop} {bc bs : Nat} (hl : κ.2.1 = l) (a0 : Nat) (r1 : Option Nat) (h : bz_H) (hP : bz_rR h a0 10 0 (fun r_1 => bz_nn r1 (fun a_2 => bz_rR h a_2 10 0 (fun r_3 => bz_nn r_1 (fun a_6 => bz_rc h a_6 8 (bz_cV G l d kX8_becomeLike [.inr (some a_6), .inr r_3] h 0 0 (fun h_5 => bz_rR h_5 a0 10 1 (fun r_7 => bz_rR h_5 a_2 10 1 (fun r_8 => bz_nn r_7 (fun a_11 => bz_rc h_5 a_11 4 (bz_cV G l d kX4_becomeLike [.inr (some a_11), .inr r_8] h_5 0 0 (fun h_10 => bz_J G κ kX10_becomeLike (d + 1) F bc bs 24 [some (.inr (some a0)), some (.inr (some a_2)), some (.inl 0)] [] h_10)))))))))))) : bz_J G κ kX10_becomeLike (d + 1) F bc bs 0 [some (.inr (some a0)), some (.inr r1), none] [] h := by
  subst hl
  refine bz_aload_n (pc := 0) dX10_becomeLike_0 rfl rfl ?_
  refine bz_rw_rR (pc := 1) dX10_becomeLike_1 fl_X10_12 hP (fun r_1 hP => ?_)
  refine bz_aload_n (pc := 4) dX10_becomeLike_4 rfl rfl ?_
  obtain ⟨a_2, rfl, hP⟩ := hP
  refine bz_rw_rR (pc := 5) dX10_becomeLike_5 fl_X10_12 hP (fun r_3 hP => ?_)
  obtain ⟨a_6, rfl, hP⟩ := hP
  refine bz_kVV (as := [.inr r_3]) (st := []) (ci := 8) (pc := 8) dX10_becomeLike_8 sc_X8_becomeLike ml_X10_212 im_X8_becomeLike se_X8_becomeLike rfl rfl rfl (by decide) hP (fun h_5 hP => ?_)
  refine bz_aload_n (pc := 11) dX10_becomeLike_11 rfl rfl ?_
  refine bz_rw_rR (pc := 12) dX10_becomeLike_12 fl_X10_23 hP (fun r_7 hP => ?_)
  refine bz_aload_n (pc := 15) dX10_becomeLike_15 rfl rfl ?_
  refine bz_rw_rR (pc := 16) dX10_becomeLike_16 fl_X10_23 hP (fun r_8 hP => ?_)
  obtain ⟨a_11, rfl, hP⟩ := hP
  refine bz_kVV (as := [.inr r_8]) (st := []) (ci := 4) (pc := 19) dX10_becomeLike_19 sc_X4_becomeLike ml_X10_216 im_X4_becomeLike se_X4_becomeLike rfl rfl rfl (by decide) hP (fun h_10 hP => ?_)
  refine bz_iconst (v := 0) (pc := 22) dX10_becomeLike_22 (by decide) ?_
  refine bz_s_istore_n (pc := 23) dX10_becomeLike_23 rfl (by decide) [some (.inr (some a0)), some (.inr (some a_2)), some (.inl 0)] rfl ?_
  exact hP
set_option maxRecDepth 20000 in
set_option maxHeartbeats 4000000 in
theorem g_X10_becomeLike_24 {G : bz_G} {κ : bz_K} {l : Launch} {d : Nat} {F : Option bz_V → bz_H → Prop} {bc bs : Nat} (hl : κ.2.1 = l) (a0 : Nat) (r1 : Option Nat) (x2 : Int32) (h : bz_H) (hP : (24 ≤ x2 → bz_J G κ kX10_becomeLike (d + 1) F bc bs 53 [some (.inr (some a0)), some (.inr r1), some (.inl 0)] [] h) ∧ (¬ (24 ≤ x2) → bz_rR h a0 10 2 (fun r_12 => bz_nn r_12 (fun a_13 => bz_rQ h a_13 x2 (fun r_14 => bz_nn r1 (fun a_15 => bz_rR h a_15 10 2 (fun r_16 => bz_nn r_16 (fun a_17 => bz_rQ h a_17 x2 (fun r_18 => bz_nn r_14 (fun a_21 => bz_rc h a_21 2 (bz_cV G l d kX2_becomeLike [.inr (some a_21), .inr r_18] h 0 0 (fun h_20 => bz_J G κ kX10_becomeLike (d + 1) F bc bs 24 [some (.inr (some a0)), some (.inr (some a_15)), some (.inl (x2 + 1))] [] h_20)))))))))))) : bz_J G κ kX10_becomeLike (d + 1) F bc bs 24 [some (.inr (some a0)), some (.inr r1), some (.inl x2)] [] h := by
  subst hl
  refine bz_iload_n (pc := 24) dX10_becomeLike_24 rfl rfl ?_
  refine bz_bipush (v := 24) (pc := 25) dX10_becomeLike_25 (by decide) ?_
  refine bz_icmp_ge (tgt := 51) (pc := 27) dX10_becomeLike_27 (by decide) (fun c => ?_) (fun c => ?_)
  · have hP := hP.1 c
    refine bz_iconst (v := 0) (pc := 51) dX10_becomeLike_51 (by decide) ?_
    refine bz_s_istore_n (pc := 52) dX10_becomeLike_52 rfl (by decide) [some (.inr (some a0)), some (.inr r1), some (.inl 0)] rfl ?_
    exact hP
  · have hP := hP.2 c
    refine bz_aload_n (pc := 30) dX10_becomeLike_30 rfl rfl ?_
    refine bz_rw_rR (pc := 31) dX10_becomeLike_31 fl_X10_29 hP (fun r_12 hP => ?_)
    refine bz_iload_n (pc := 34) dX10_becomeLike_34 rfl rfl ?_
    obtain ⟨a_13, rfl, hP⟩ := hP
    refine bz_rw_ldq (pc := 35) dX10_becomeLike_35 hP (fun r_14 hP => ?_)
    refine bz_aload_n (pc := 36) dX10_becomeLike_36 rfl rfl ?_
    obtain ⟨a_15, rfl, hP⟩ := hP
    refine bz_rw_rR (pc := 37) dX10_becomeLike_37 fl_X10_29 hP (fun r_16 hP => ?_)
    refine bz_iload_n (pc := 40) dX10_becomeLike_40 rfl rfl ?_
    obtain ⟨a_17, rfl, hP⟩ := hP
    refine bz_rw_ldq (pc := 41) dX10_becomeLike_41 hP (fun r_18 hP => ?_)
    obtain ⟨a_21, rfl, hP⟩ := hP
    refine bz_kVV (as := [.inr r_18]) (st := []) (ci := 2) (pc := 42) dX10_becomeLike_42 sc_X2_becomeLike ml_X10_219 im_X2_becomeLike se_X2_becomeLike rfl rfl rfl (by decide) hP (fun h_20 hP => ?_)
    refine bz_s_iinc (pc := 45) dX10_becomeLike_45 (by decide) rfl rfl [some (.inr (some a0)), some (.inr (some a_15)), some (.inl (x2 + 1))] rfl ?_
    refine bz_goto (tgt := 24) (pc := 48) dX10_becomeLike_48 (by decide) ?_
    exact hP
set_option maxRecDepth 20000 in
set_option maxHeartbeats 4000000 in
theorem g_X10_becomeLike_53 {G : bz_G} {κ : bz_K} {l : Launch} {d : Nat} {F : Option bz_V → bz_H → Prop} {bc bs : Nat} (hl : κ.2.1 = l) (a0 : Nat) (r1 : Option Nat) (x2 : Int32) (h : bz_H) (hP : (12 ≤ x2 → bz_J G κ kX10_becomeLike (d + 1) F bc bs 82 [some (.inr (some a0)), some (.inr r1), some (.inl 0)] [] h) ∧ (¬ (12 ≤ x2) → bz_rR h a0 10 3 (fun r_22 => bz_nn r_22 (fun a_23 => bz_rQ h a_23 x2 (fun r_24 => bz_nn r1 (fun a_25 => bz_rR h a_25 10 3 (fun r_26 => bz_nn r_26 (fun a_27 => bz_rQ h a_27 x2 (fun r_28 => bz_nn r_24 (fun a_31 => bz_rc h a_31 3 (bz_cV G l d kX3_becomeLike [.inr (some a_31), .inr r_28] h 0 0 (fun h_30 => bz_J G κ kX10_becomeLike (d + 1) F bc bs 53 [some (.inr (some a0)), some (.inr (some a_25)), some (.inl (x2 + 1))] [] h_30)))))))))))) : bz_J G κ kX10_becomeLike (d + 1) F bc bs 53 [some (.inr (some a0)), some (.inr r1), some (.inl x2)] [] h := by
  subst hl
  refine bz_iload_n (pc := 53) dX10_becomeLike_53 rfl rfl ?_
  refine bz_bipush (v := 12) (pc := 54) dX10_becomeLike_54 (by decide) ?_
  refine bz_icmp_ge (tgt := 80) (pc := 56) dX10_becomeLike_56 (by decide) (fun c => ?_) (fun c => ?_)
  · have hP := hP.1 c
    refine bz_iconst (v := 0) (pc := 80) dX10_becomeLike_80 (by decide) ?_
    refine bz_s_istore_n (pc := 81) dX10_becomeLike_81 rfl (by decide) [some (.inr (some a0)), some (.inr r1), some (.inl 0)] rfl ?_
    exact hP
  · have hP := hP.2 c
    refine bz_aload_n (pc := 59) dX10_becomeLike_59 rfl rfl ?_
    refine bz_rw_rR (pc := 60) dX10_becomeLike_60 fl_X10_35 hP (fun r_22 hP => ?_)
    refine bz_iload_n (pc := 63) dX10_becomeLike_63 rfl rfl ?_
    obtain ⟨a_23, rfl, hP⟩ := hP
    refine bz_rw_ldq (pc := 64) dX10_becomeLike_64 hP (fun r_24 hP => ?_)
    refine bz_aload_n (pc := 65) dX10_becomeLike_65 rfl rfl ?_
    obtain ⟨a_25, rfl, hP⟩ := hP
    refine bz_rw_rR (pc := 66) dX10_becomeLike_66 fl_X10_35 hP (fun r_26 hP => ?_)
    refine bz_iload_n (pc := 69) dX10_becomeLike_69 rfl rfl ?_
    obtain ⟨a_27, rfl, hP⟩ := hP
    refine bz_rw_ldq (pc := 70) dX10_becomeLike_70 hP (fun r_28 hP => ?_)
    obtain ⟨a_31, rfl, hP⟩ := hP
    refine bz_kVV (as := [.inr r_28]) (st := []) (ci := 3) (pc := 71) dX10_becomeLike_71 sc_X3_becomeLike ml_X10_222 im_X3_becomeLike se_X3_becomeLike rfl rfl rfl (by decide) hP (fun h_30 hP => ?_)
    refine bz_s_iinc (pc := 74) dX10_becomeLike_74 (by decide) rfl rfl [some (.inr (some a0)), some (.inr (some a_25)), some (.inl (x2 + 1))] rfl ?_
    refine bz_goto (tgt := 53) (pc := 77) dX10_becomeLike_77 (by decide) ?_
    exact hP
set_option maxRecDepth 20000 in
set_option maxHeartbeats 4000000 in
theorem g_X10_becomeLike_82 {G : bz_G} {κ : bz_K} {l : Launch} {d : Nat} {F : Option bz_V → bz_H → Prop} {bc bs : Nat} (hl : κ.2.1 = l) (a0 : Nat) (r1 : Option Nat) (x2 : Int32) (h : bz_H) (hP : (8 ≤ x2 → bz_rR h a0 10 5 (fun r_32 => bz_nn r1 (fun a_33 => bz_rR h a_33 10 5 (fun r_34 => bz_nn r_32 (fun a_37 => bz_rc h a_37 4 (bz_cV G l d kX4_becomeLike [.inr (some a_37), .inr r_34] h 0 0 (fun h_36 => bz_rR h_36 a0 10 6 (fun r_38 => bz_rR h_36 a_33 10 6 (fun r_39 => bz_nn r_38 (fun a_42 => bz_rc h_36 a_42 4 (bz_cV G l d kX4_becomeLike [.inr (some a_42), .inr r_39] h_36 0 0 (fun h_41 => bz_rR h_41 a0 10 7 (fun r_43 => bz_rR h_41 a_33 10 7 (fun r_44 => bz_nn r_43 (fun a_47 => bz_rc h_41 a_47 4 (bz_cV G l d kX4_becomeLike [.inr (some a_47), .inr r_44] h_41 0 0 (fun h_46 => bz_rR h_46 a_33 10 8 (fun r_48 => bz_rR h_46 a0 10 8 (fun r_49 => bz_nn r_49 (fun a_50 => bz_nn r_48 (fun a_51 => bz_cp h_46 a_51 0 a_50 0 10 (fun h_52 => bz_rI h_52 a_33 10 9 (fun x_53 => bz_wI h_52 a0 10 9 x_53 (fun h_54 => bz_rI h_54 a_33 10 10 (fun x_55 => bz_wI h_54 a0 10 10 x_55 (fun h_56 => bz_rI h_56 a_33 10 11 (fun x_57 => bz_wI h_56 a0 10 11 x_57 (fun h_58 => bz_rI h_58 a_33 10 12 (fun x_59 => bz_wI h_58 a0 10 12 x_59 (fun h_60 => bz_rI h_60 a_33 10 13 (fun x_61 => bz_wI h_60 a0 10 13 x_61 (fun h_62 => bz_rI h_62 a_33 10 14 (fun x_63 => bz_wI h_62 a0 10 14 x_63 (fun h_64 => bz_rI h_64 a_33 10 15 (fun x_65 => bz_wI h_64 a0 10 15 x_65 (fun h_66 => F none h_66)))))))))))))))))))))))))))))))))))) ∧ (¬ (8 ≤ x2) → bz_rR h a0 10 4 (fun r_67 => bz_nn r1 (fun a_68 => bz_rR h a_68 10 4 (fun r_69 => bz_nn r_69 (fun a_70 => bz_rQ h a_70 x2 (fun r_71 => bz_nn r_67 (fun a_72 => bz_wQ h a_72 x2 r_71 (fun h_73 => bz_J G κ kX10_becomeLike (d + 1) F bc bs 82 [some (.inr (some a0)), some (.inr (some a_68)), some (.inl (x2 + 1))] [] h_73))))))))) : bz_J G κ kX10_becomeLike (d + 1) F bc bs 82 [some (.inr (some a0)), some (.inr r1), some (.inl x2)] [] h := by
  subst hl
  refine bz_iload_n (pc := 82) dX10_becomeLike_82 rfl rfl ?_
  refine bz_bipush (v := 8) (pc := 83) dX10_becomeLike_83 (by decide) ?_
  refine bz_icmp_ge (tgt := 106) (pc := 85) dX10_becomeLike_85 (by decide) (fun c => ?_) (fun c => ?_)
  · have hP := hP.1 c
    refine bz_aload_n (pc := 106) dX10_becomeLike_106 rfl rfl ?_
    refine bz_rw_rR (pc := 107) dX10_becomeLike_107 fl_X10_45 hP (fun r_32 hP => ?_)
    refine bz_aload_n (pc := 110) dX10_becomeLike_110 rfl rfl ?_
    obtain ⟨a_33, rfl, hP⟩ := hP
    refine bz_rw_rR (pc := 111) dX10_becomeLike_111 fl_X10_45 hP (fun r_34 hP => ?_)
    obtain ⟨a_37, rfl, hP⟩ := hP
    refine bz_kVV (as := [.inr r_34]) (st := []) (ci := 4) (pc := 114) dX10_becomeLike_114 sc_X4_becomeLike ml_X10_216 im_X4_becomeLike se_X4_becomeLike rfl rfl rfl (by decide) hP (fun h_36 hP => ?_)
    refine bz_aload_n (pc := 117) dX10_becomeLike_117 rfl rfl ?_
    refine bz_rw_rR (pc := 118) dX10_becomeLike_118 fl_X10_48 hP (fun r_38 hP => ?_)
    refine bz_aload_n (pc := 121) dX10_becomeLike_121 rfl rfl ?_
    refine bz_rw_rR (pc := 122) dX10_becomeLike_122 fl_X10_48 hP (fun r_39 hP => ?_)
    obtain ⟨a_42, rfl, hP⟩ := hP
    refine bz_kVV (as := [.inr r_39]) (st := []) (ci := 4) (pc := 125) dX10_becomeLike_125 sc_X4_becomeLike ml_X10_216 im_X4_becomeLike se_X4_becomeLike rfl rfl rfl (by decide) hP (fun h_41 hP => ?_)
    refine bz_aload_n (pc := 128) dX10_becomeLike_128 rfl rfl ?_
    refine bz_rw_rR (pc := 129) dX10_becomeLike_129 fl_X10_51 hP (fun r_43 hP => ?_)
    refine bz_aload_n (pc := 132) dX10_becomeLike_132 rfl rfl ?_
    refine bz_rw_rR (pc := 133) dX10_becomeLike_133 fl_X10_51 hP (fun r_44 hP => ?_)
    obtain ⟨a_47, rfl, hP⟩ := hP
    refine bz_kVV (as := [.inr r_44]) (st := []) (ci := 4) (pc := 136) dX10_becomeLike_136 sc_X4_becomeLike ml_X10_216 im_X4_becomeLike se_X4_becomeLike rfl rfl rfl (by decide) hP (fun h_46 hP => ?_)
    refine bz_aload_n (pc := 139) dX10_becomeLike_139 rfl rfl ?_
    refine bz_rw_rR (pc := 140) dX10_becomeLike_140 fl_X10_54 hP (fun r_48 hP => ?_)
    refine bz_iconst (v := 0) (pc := 143) dX10_becomeLike_143 (by decide) ?_
    refine bz_aload_n (pc := 144) dX10_becomeLike_144 rfl rfl ?_
    refine bz_rw_rR (pc := 145) dX10_becomeLike_145 fl_X10_54 hP (fun r_49 hP => ?_)
    refine bz_iconst (v := 0) (pc := 148) dX10_becomeLike_148 (by decide) ?_
    refine bz_bipush (v := 10) (pc := 149) dX10_becomeLike_149 (by decide) ?_
    obtain ⟨a_50, rfl, hP⟩ := hP
    obtain ⟨a_51, rfl, hP⟩ := hP
    refine bz_rw_cp (pc := 151) dX10_becomeLike_151 ml_X10_225 ac_n ac_s ac_i (by decide) hP (fun h_52 hP => ?_)
    refine bz_aload_n (pc := 154) dX10_becomeLike_154 rfl rfl ?_
    refine bz_aload_n (pc := 155) dX10_becomeLike_155 rfl rfl ?_
    refine bz_rw_rI (pc := 156) dX10_becomeLike_156 fl_X10_73 hP (fun x_53 hP => ?_)
    refine bz_rw_wI (pc := 159) dX10_becomeLike_159 fl_X10_73 (fun q h9 => by cases h9; rfl) rfl hP (fun h_54 hP => ?_)
    refine bz_aload_n (pc := 162) dX10_becomeLike_162 rfl rfl ?_
    refine bz_aload_n (pc := 163) dX10_becomeLike_163 rfl rfl ?_
    refine bz_rw_rI (pc := 164) dX10_becomeLike_164 fl_X10_80 hP (fun x_55 hP => ?_)
    refine bz_rw_wI (pc := 167) dX10_becomeLike_167 fl_X10_80 (fun q h9 => by cases h9; rfl) rfl hP (fun h_56 hP => ?_)
    refine bz_aload_n (pc := 170) dX10_becomeLike_170 rfl rfl ?_
    refine bz_aload_n (pc := 171) dX10_becomeLike_171 rfl rfl ?_
    refine bz_rw_rI (pc := 172) dX10_becomeLike_172 fl_X10_83 hP (fun x_57 hP => ?_)
    refine bz_rw_wI (pc := 175) dX10_becomeLike_175 fl_X10_83 (fun q h9 => by cases h9; rfl) rfl hP (fun h_58 hP => ?_)
    refine bz_aload_n (pc := 178) dX10_becomeLike_178 rfl rfl ?_
    refine bz_aload_n (pc := 179) dX10_becomeLike_179 rfl rfl ?_
    refine bz_rw_rI (pc := 180) dX10_becomeLike_180 fl_X10_99 hP (fun x_59 hP => ?_)
    refine bz_rw_wI (pc := 183) dX10_becomeLike_183 fl_X10_99 (fun q h9 => by cases h9; rfl) rfl hP (fun h_60 hP => ?_)
    refine bz_aload_n (pc := 186) dX10_becomeLike_186 rfl rfl ?_
    refine bz_aload_n (pc := 187) dX10_becomeLike_187 rfl rfl ?_
    refine bz_rw_rI (pc := 188) dX10_becomeLike_188 fl_X10_58 hP (fun x_61 hP => ?_)
    refine bz_rw_wI (pc := 191) dX10_becomeLike_191 fl_X10_58 (fun q h9 => by cases h9; rfl) rfl hP (fun h_62 hP => ?_)
    refine bz_aload_n (pc := 194) dX10_becomeLike_194 rfl rfl ?_
    refine bz_aload_n (pc := 195) dX10_becomeLike_195 rfl rfl ?_
    refine bz_rw_rI (pc := 196) dX10_becomeLike_196 fl_X10_62 hP (fun x_63 hP => ?_)
    refine bz_rw_wI (pc := 199) dX10_becomeLike_199 fl_X10_62 (fun q h9 => by cases h9; rfl) rfl hP (fun h_64 hP => ?_)
    refine bz_aload_n (pc := 202) dX10_becomeLike_202 rfl rfl ?_
    refine bz_aload_n (pc := 203) dX10_becomeLike_203 rfl rfl ?_
    refine bz_rw_rI (pc := 204) dX10_becomeLike_204 fl_X10_231 hP (fun x_65 hP => ?_)
    refine bz_rw_wI (pc := 207) dX10_becomeLike_207 fl_X10_231 (fun q h9 => by cases h9; rfl) rfl hP (fun h_66 hP => ?_)
    exact bz_retV (pc := 210) dX10_becomeLike_210 rfl hP
  · have hP := hP.2 c
    refine bz_aload_n (pc := 88) dX10_becomeLike_88 rfl rfl ?_
    refine bz_rw_rR (pc := 89) dX10_becomeLike_89 fl_X10_41 hP (fun r_67 hP => ?_)
    refine bz_iload_n (pc := 92) dX10_becomeLike_92 rfl rfl ?_
    refine bz_aload_n (pc := 93) dX10_becomeLike_93 rfl rfl ?_
    obtain ⟨a_68, rfl, hP⟩ := hP
    refine bz_rw_rR (pc := 94) dX10_becomeLike_94 fl_X10_41 hP (fun r_69 hP => ?_)
    refine bz_iload_n (pc := 97) dX10_becomeLike_97 rfl rfl ?_
    obtain ⟨a_70, rfl, hP⟩ := hP
    refine bz_rw_ldq (pc := 98) dX10_becomeLike_98 hP (fun r_71 hP => ?_)
    obtain ⟨a_72, rfl, hP⟩ := hP
    refine bz_rw_stq (pc := 99) dX10_becomeLike_99 hP (fun h_73 hP => ?_)
    refine bz_s_iinc (pc := 100) dX10_becomeLike_100 (by decide) rfl rfl [some (.inr (some a0)), some (.inr (some a_68)), some (.inl (x2 + 1))] rfl ?_
    refine bz_goto (tgt := 82) (pc := 103) dX10_becomeLike_103 (by decide) ?_
    exact hP
theorem m_X10_becomeLike {G : bz_G} {l : Launch} {d mc ms : Nat} {F : Option bz_V → bz_H → Prop} (a0 : Nat) (r1 : Option Nat) (h : bz_H) (hP : ∀ (κ : bz_K) (bc bs : Nat), κ.2.1 = l → bz_rR h a0 10 0 (fun r_1 => bz_nn r1 (fun a_2 => bz_rR h a_2 10 0 (fun r_3 => bz_nn r_1 (fun a_6 => bz_rc h a_6 8 (bz_cV G l d kX8_becomeLike [.inr (some a_6), .inr r_3] h 0 0 (fun h_5 => bz_rR h_5 a0 10 1 (fun r_7 => bz_rR h_5 a_2 10 1 (fun r_8 => bz_nn r_7 (fun a_11 => bz_rc h_5 a_11 4 (bz_cV G l d kX4_becomeLike [.inr (some a_11), .inr r_8] h_5 0 0 (fun h_10 => bz_J G κ kX10_becomeLike (d + 1) F bc bs 24 [some (.inr (some a0)), some (.inr (some a_2)), some (.inl 0)] [] h_10)))))))))))) : bz_Call G l (d + 1) kX10_becomeLike [.inr (some a0), .inr r1] h mc ms F :=
  bz_body (by decide) (by decide) (fun κ hl => g_X10_becomeLike_0 hl a0 r1 h (hP κ mc ms hl))
set_option maxRecDepth 20000 in
set_option maxHeartbeats 4000000 in
theorem g_X10_countingOf_0 {G : bz_G} {κ : bz_K} {l : Launch} {d : Nat} {F : Option bz_V → bz_H → Prop} {bc bs : Nat} (hl : κ.2.1 = l) (a0 : Nat) (r1 : Option Nat) (h : bz_H) (hP : bz_J G κ kX10_countingOf (d + 1) F bc bs 4 [some (.inr (some a0)), some (.inr r1), some (.inl 0), some (.inl 0), none, none] [] h) : bz_J G κ kX10_countingOf (d + 1) F bc bs 0 [some (.inr (some a0)), some (.inr r1), none, none, none, none] [] h := by
  subst hl
  refine bz_iconst (v := 0) (pc := 0) dX10_countingOf_0 (by decide) ?_
  refine bz_s_istore_n (pc := 1) dX10_countingOf_1 rfl (by decide) [some (.inr (some a0)), some (.inr r1), some (.inl 0), none, none, none] rfl ?_
  refine bz_iconst (v := 0) (pc := 2) dX10_countingOf_2 (by decide) ?_
  refine bz_s_istore_n (pc := 3) dX10_countingOf_3 rfl (by decide) [some (.inr (some a0)), some (.inr r1), some (.inl 0), some (.inl 0), none, none] rfl ?_
  exact hP
set_option maxRecDepth 20000 in
set_option maxHeartbeats 4000000 in
theorem g_X10_countingOf_4 {G : bz_G} {κ : bz_K} {l : Launch} {d : Nat} {F : Option bz_V → bz_H → Prop} {bc bs : Nat} (hl : κ.2.1 = l) (a0 : Nat) (r1 : Option Nat) (x2 : Int32) (x3 : Int32) (u4 : Option bz_V) (u5 : Option bz_V) (h : bz_H) (hP : bz_rR h a0 10 5 (fun r_1 => bz_nn r_1 (fun a_2 => bz_rI h a_2 4 1 (fun x_3 => (x_3 ≤ x3 → bz_nn r1 (fun a_4 => bz_rI h a_4 3 0 (fun x_5 => bz_rc h a0 10 (bz_cI G l d kX10_engagedOf [.inr (some a0), .inl x_5] h 0 0 (fun x_6 h_7 => F (some (.inl ((x_6 - x2) + (x2 / 2)))) h_7))))) ∧ (¬ (x_3 ≤ x3) → bz_rR h a0 10 5 (fun r_8 => bz_nn r_8 (fun a_11 => bz_rc h a_11 4 (bz_cI G l d kX4_cell [.inr (some a_11), .inl x3, .inl 0] h 0 0 (fun x_9 h_10 => bz_nn r1 (fun a_12 => bz_rI h_10 a_12 3 0 (fun x_13 => (x_9 = x_13 → bz_rR h_10 a0 10 5 (fun r_14 => bz_nn r_14 (fun a_17 => bz_rc h_10 a_17 4 (bz_cI G l d kX4_cell [.inr (some a_17), .inl x3, .inl 2] h_10 0 0 (fun x_15 h_16 => bz_rR h_16 a0 10 5 (fun r_18 => bz_nn r_18 (fun a_21 => bz_rc h_16 a_21 4 (bz_cI G l d kX4_cell [.inr (some a_21), .inl x3, .inl 1] h_16 0 0 (fun x_19 h_20 => bz_J G κ kX10_countingOf (d + 1) F bc bs 56 [some (.inr (some a0)), some (.inr (some a_12)), some (.inl x2), some (.inl x3), some (.inl x_15), some (.inl x_19)] [] h_20))))))))) ∧ (¬ (x_9 = x_13) → bz_J G κ kX10_countingOf (d + 1) F bc bs 4 [some (.inr (some a0)), some (.inr (some a_12)), some (.inl x2), some (.inl (x3 + 1)), u4, u5] [] h_10)))))))))))) : bz_J G κ kX10_countingOf (d + 1) F bc bs 4 [some (.inr (some a0)), some (.inr r1), some (.inl x2), some (.inl x3), u4, u5] [] h := by
  subst hl
  refine bz_iload_n (pc := 4) dX10_countingOf_4 rfl rfl ?_
  refine bz_aload_n (pc := 5) dX10_countingOf_5 rfl rfl ?_
  refine bz_rw_rR (pc := 6) dX10_countingOf_6 fl_X10_45 hP (fun r_1 hP => ?_)
  obtain ⟨a_2, rfl, hP⟩ := hP
  refine bz_rw_rI (pc := 9) dX10_countingOf_9 fl_X10_164 hP (fun x_3 hP => ?_)
  refine bz_icmp_ge (tgt := 87) (pc := 12) dX10_countingOf_12 (by decide) (fun c => ?_) (fun c => ?_)
  · have hP := hP.1 c
    refine bz_aload_n (pc := 87) dX10_countingOf_87 rfl rfl ?_
    refine bz_aload_n (pc := 88) dX10_countingOf_88 rfl rfl ?_
    obtain ⟨a_4, rfl, hP⟩ := hP
    refine bz_rw_rI (pc := 89) dX10_countingOf_89 fl_X10_192 hP (fun x_5 hP => ?_)
    refine bz_kIV (as := [.inl x_5]) (st := []) (ci := 10) (pc := 92) dX10_countingOf_92 sc_X10_engagedOf ml_X10_198 im_X10_engagedOf se_X10_engagedOf rfl rfl rfl (by decide) hP (fun x_6 h_7 hP => ?_)
    refine bz_iload_n (pc := 95) dX10_countingOf_95 rfl rfl ?_
    refine bz_isub (pc := 96) dX10_countingOf_96 ?_
    refine bz_iload_n (pc := 97) dX10_countingOf_97 rfl rfl ?_
    refine bz_iconst (v := 2) (pc := 98) dX10_countingOf_98 (by decide) ?_
    refine bz_idiv (pc := 99) dX10_countingOf_99 (by decide) ?_
    refine bz_iadd (pc := 100) dX10_countingOf_100 ?_
    exact bz_retI (pc := 101) dX10_countingOf_101 rfl rfl hP
  · have hP := hP.2 c
    refine bz_aload_n (pc := 15) dX10_countingOf_15 rfl rfl ?_
    refine bz_rw_rR (pc := 16) dX10_countingOf_16 fl_X10_45 hP (fun r_8 hP => ?_)
    refine bz_iload_n (pc := 19) dX10_countingOf_19 rfl rfl ?_
    refine bz_iconst (v := 0) (pc := 20) dX10_countingOf_20 (by decide) ?_
    obtain ⟨a_11, rfl, hP⟩ := hP
    refine bz_kIV (as := [.inl x3, .inl 0]) (st := []) (ci := 4) (pc := 21) dX10_countingOf_21 sc_X4_cell ml_X10_89 im_X4_cell se_X4_cell rfl rfl rfl (by decide) hP (fun x_9 h_10 hP => ?_)
    refine bz_aload_n (pc := 24) dX10_countingOf_24 rfl rfl ?_
    obtain ⟨a_12, rfl, hP⟩ := hP
    refine bz_rw_rI (pc := 25) dX10_countingOf_25 fl_X10_192 hP (fun x_13 hP => ?_)
    refine bz_icmp_eq (tgt := 34) (pc := 28) dX10_countingOf_28 (by decide) (fun c => ?_) (fun c => ?_)
    · have hP := hP.1 c
      refine bz_aload_n (pc := 34) dX10_countingOf_34 rfl rfl ?_
      refine bz_rw_rR (pc := 35) dX10_countingOf_35 fl_X10_45 hP (fun r_14 hP => ?_)
      refine bz_iload_n (pc := 38) dX10_countingOf_38 rfl rfl ?_
      refine bz_iconst (v := 2) (pc := 39) dX10_countingOf_39 (by decide) ?_
      obtain ⟨a_17, rfl, hP⟩ := hP
      refine bz_kIV (as := [.inl x3, .inl 2]) (st := []) (ci := 4) (pc := 40) dX10_countingOf_40 sc_X4_cell ml_X10_89 im_X4_cell se_X4_cell rfl rfl rfl (by decide) hP (fun x_15 h_16 hP => ?_)
      refine bz_s_istore (pc := 43) dX10_countingOf_43 (by decide) [some (.inr (some a0)), some (.inr (some a_12)), some (.inl x2), some (.inl x3), some (.inl x_15), u5] rfl ?_
      refine bz_aload_n (pc := 45) dX10_countingOf_45 rfl rfl ?_
      refine bz_rw_rR (pc := 46) dX10_countingOf_46 fl_X10_45 hP (fun r_18 hP => ?_)
      refine bz_iload_n (pc := 49) dX10_countingOf_49 rfl rfl ?_
      refine bz_iconst (v := 1) (pc := 50) dX10_countingOf_50 (by decide) ?_
      obtain ⟨a_21, rfl, hP⟩ := hP
      refine bz_kIV (as := [.inl x3, .inl 1]) (st := []) (ci := 4) (pc := 51) dX10_countingOf_51 sc_X4_cell ml_X10_89 im_X4_cell se_X4_cell rfl rfl rfl (by decide) hP (fun x_19 h_20 hP => ?_)
      refine bz_s_istore (pc := 54) dX10_countingOf_54 (by decide) [some (.inr (some a0)), some (.inr (some a_12)), some (.inl x2), some (.inl x3), some (.inl x_15), some (.inl x_19)] rfl ?_
      exact hP
    · have hP := hP.2 c
      refine bz_goto (tgt := 81) (pc := 31) dX10_countingOf_31 (by decide) ?_
      refine bz_s_iinc (pc := 81) dX10_countingOf_81 (by decide) rfl rfl [some (.inr (some a0)), some (.inr (some a_12)), some (.inl x2), some (.inl (x3 + 1)), u4, u5] rfl ?_
      refine bz_goto (tgt := 4) (pc := 84) dX10_countingOf_84 (by decide) ?_
      exact hP
set_option maxRecDepth 20000 in
set_option maxHeartbeats 4000000 in
theorem g_X10_countingOf_56 {G : bz_G} {κ : bz_K} {l : Launch} {d : Nat} {F : Option bz_V → bz_H → Prop} {bc bs : Nat} (hl : κ.2.1 = l) (a0 : Nat) (r1 : Option Nat) (x2 : Int32) (x3 : Int32) (x4 : Int32) (x5 : Int32) (h : bz_H) (hP : (x4 ≤ x5 → bz_J G κ kX10_countingOf (d + 1) F bc bs 4 [some (.inr (some a0)), some (.inr r1), some (.inl x2), some (.inl (x3 + 1)), some (.inl x4), some (.inl x5)] [] h) ∧ (¬ (x4 ≤ x5) → bz_nn r1 (fun a_24 => bz_rc h a_24 3 (bz_cI G l d kX3_isInApp [.inr (some a_24), .inl x5] h 0 0 (fun x_22 h_23 => (x_22 = 0 → bz_J G κ kX10_countingOf (d + 1) F bc bs 56 [some (.inr (some a0)), some (.inr (some a_24)), some (.inl x2), some (.inl x3), some (.inl x4), some (.inl (x5 + 1))] [] h_23) ∧ (¬ (x_22 = 0) → bz_J G κ kX10_countingOf (d + 1) F bc bs 56 [some (.inr (some a0)), some (.inr (some a_24)), some (.inl (x2 + 1)), some (.inl x3), some (.inl x4), some (.inl (x5 + 1))] [] h_23)))))) : bz_J G κ kX10_countingOf (d + 1) F bc bs 56 [some (.inr (some a0)), some (.inr r1), some (.inl x2), some (.inl x3), some (.inl x4), some (.inl x5)] [] h := by
  subst hl
  refine bz_iload (pc := 56) dX10_countingOf_56 rfl ?_
  refine bz_iload (pc := 58) dX10_countingOf_58 rfl ?_
  refine bz_icmp_ge (tgt := 81) (pc := 60) dX10_countingOf_60 (by decide) (fun c => ?_) (fun c => ?_)
  · have hP := hP.1 c
    refine bz_s_iinc (pc := 81) dX10_countingOf_81 (by decide) rfl rfl [some (.inr (some a0)), some (.inr r1), some (.inl x2), some (.inl (x3 + 1)), some (.inl x4), some (.inl x5)] rfl ?_
    refine bz_goto (tgt := 4) (pc := 84) dX10_countingOf_84 (by decide) ?_
    exact hP
  · have hP := hP.2 c
    refine bz_aload_n (pc := 63) dX10_countingOf_63 rfl rfl ?_
    refine bz_iload (pc := 64) dX10_countingOf_64 rfl ?_
    obtain ⟨a_24, rfl, hP⟩ := hP
    refine bz_kIV (as := [.inl x5]) (st := []) (ci := 3) (pc := 66) dX10_countingOf_66 sc_X3_isInApp ml_X10_195 im_X3_isInApp se_X3_isInApp rfl rfl rfl (by decide) hP (fun x_22 h_23 hP => ?_)
    refine bz_if_eq (tgt := 75) (pc := 69) dX10_countingOf_69 (by decide) (fun c => ?_) (fun c => ?_)
    · have hP := hP.1 c
      refine bz_s_iinc (pc := 75) dX10_countingOf_75 (by decide) rfl rfl [some (.inr (some a0)), some (.inr (some a_24)), some (.inl x2), some (.inl x3), some (.inl x4), some (.inl (x5 + 1))] rfl ?_
      refine bz_goto (tgt := 56) (pc := 78) dX10_countingOf_78 (by decide) ?_
      exact hP
    · have hP := hP.2 c
      refine bz_s_iinc (pc := 72) dX10_countingOf_72 (by decide) rfl rfl [some (.inr (some a0)), some (.inr (some a_24)), some (.inl (x2 + 1)), some (.inl x3), some (.inl x4), some (.inl x5)] rfl ?_
      refine bz_s_iinc (pc := 75) dX10_countingOf_75 (by decide) rfl rfl [some (.inr (some a0)), some (.inr (some a_24)), some (.inl (x2 + 1)), some (.inl x3), some (.inl x4), some (.inl (x5 + 1))] rfl ?_
      refine bz_goto (tgt := 56) (pc := 78) dX10_countingOf_78 (by decide) ?_
      exact hP
theorem m_X10_countingOf {G : bz_G} {l : Launch} {d mc ms : Nat} {F : Option bz_V → bz_H → Prop} (a0 : Nat) (r1 : Option Nat) (h : bz_H) (hP : ∀ (κ : bz_K) (bc bs : Nat), κ.2.1 = l → bz_J G κ kX10_countingOf (d + 1) F bc bs 4 [some (.inr (some a0)), some (.inr r1), some (.inl 0), some (.inl 0), none, none] [] h) : bz_Call G l (d + 1) kX10_countingOf [.inr (some a0), .inr r1] h mc ms F :=
  bz_body (by decide) (by decide) (fun κ hl => g_X10_countingOf_0 hl a0 r1 h (hP κ mc ms hl))
set_option maxRecDepth 20000 in
set_option maxHeartbeats 4000000 in
theorem g_X10_engage_0 {G : bz_G} {κ : bz_K} {l : Launch} {d : Nat} {F : Option bz_V → bz_H → Prop} {bc bs : Nat} (hl : κ.2.1 = l) (a0 : Nat) (x1 : Int32) (r2 : Option Nat) (x3 : Int32) (h : bz_H) (hP : bz_rR h a0 10 3 (fun r_1 => bz_nn r_1 (fun a_2 => bz_rQ h a_2 x1 (fun r_3 => bz_rR h a0 10 5 (fun r_4 => bz_nn r2 (fun a_5 => bz_rI h a_5 9 6 (fun x_6 => bz_rI h a_5 9 7 (fun x_7 => bz_nn r_4 (fun a_10 => bz_rc h a_10 4 (bz_cI G l d kX4_add [.inr (some a_10), .inl x1, .inl x_6, .inl x_7] h 0 0 (fun x_8 h_9 => bz_rI h_9 a_5 9 8 (fun x_11 => bz_nn r_3 (fun a_12 => bz_wI h_9 a_12 3 4 x_11 (fun h_13 => bz_rI h_13 a_5 9 7 (fun x_14 => bz_wI h_13 a_12 3 5 x_14 (fun h_15 => bz_rI h_15 a_12 3 6 (fun x_16 => bz_wI h_15 a_12 3 6 (x_16 + x3) (fun h_17 => F none h_17)))))))))))))))))) : bz_J G κ kX10_engage (d + 1) F bc bs 0 [some (.inr (some a0)), some (.inl x1), some (.inr r2), some (.inl x3), none] [] h := by
  subst hl
  refine bz_aload_n (pc := 0) dX10_engage_0 rfl rfl ?_
  refine bz_rw_rR (pc := 1) dX10_engage_1 fl_X10_35 hP (fun r_1 hP => ?_)
  refine bz_iload_n (pc := 4) dX10_engage_4 rfl rfl ?_
  obtain ⟨a_2, rfl, hP⟩ := hP
  refine bz_rw_ldq (pc := 5) dX10_engage_5 hP (fun r_3 hP => ?_)
  refine bz_s_astore (pc := 6) dX10_engage_6 (by decide) [some (.inr (some a0)), some (.inl x1), some (.inr r2), some (.inl x3), some (.inr r_3)] rfl ?_
  refine bz_aload_n (pc := 8) dX10_engage_8 rfl rfl ?_
  refine bz_rw_rR (pc := 9) dX10_engage_9 fl_X10_45 hP (fun r_4 hP => ?_)
  refine bz_iload_n (pc := 12) dX10_engage_12 rfl rfl ?_
  refine bz_aload_n (pc := 13) dX10_engage_13 rfl rfl ?_
  obtain ⟨a_5, rfl, hP⟩ := hP
  refine bz_rw_rI (pc := 14) dX10_engage_14 fl_X10_146 hP (fun x_6 hP => ?_)
  refine bz_aload_n (pc := 17) dX10_engage_17 rfl rfl ?_
  refine bz_rw_rI (pc := 18) dX10_engage_18 fl_X10_151 hP (fun x_7 hP => ?_)
  obtain ⟨a_10, rfl, hP⟩ := hP
  refine bz_kIV (as := [.inl x1, .inl x_6, .inl x_7]) (st := []) (ci := 4) (pc := 21) dX10_engage_21 sc_X4_add ml_X10_154 im_X4_add se_X4_add rfl rfl rfl (by decide) hP (fun x_8 h_9 hP => ?_)
  refine bz_pop (pc := 24) dX10_engage_24 ?_
  refine bz_aload (pc := 25) dX10_engage_25 rfl ?_
  refine bz_aload_n (pc := 27) dX10_engage_27 rfl rfl ?_
  refine bz_rw_rI (pc := 28) dX10_engage_28 fl_X10_158 hP (fun x_11 hP => ?_)
  obtain ⟨a_12, rfl, hP⟩ := hP
  refine bz_rw_wI (pc := 31) dX10_engage_31 fl_X10_127 (fun q h9 => by cases h9; rfl) rfl hP (fun h_13 hP => ?_)
  refine bz_aload (pc := 34) dX10_engage_34 rfl ?_
  refine bz_aload_n (pc := 36) dX10_engage_36 rfl rfl ?_
  refine bz_rw_rI (pc := 37) dX10_engage_37 fl_X10_151 hP (fun x_14 hP => ?_)
  refine bz_rw_wI (pc := 40) dX10_engage_40 fl_X10_161 (fun q h9 => by cases h9; rfl) rfl hP (fun h_15 hP => ?_)
  refine bz_aload (pc := 43) dX10_engage_43 rfl ?_
  refine bz_dup (pc := 45) dX10_engage_45 ?_
  refine bz_rw_rI (pc := 46) dX10_engage_46 fl_X10_136 hP (fun x_16 hP => ?_)
  refine bz_iload_n (pc := 49) dX10_engage_49 rfl rfl ?_
  refine bz_iadd (pc := 50) dX10_engage_50 ?_
  refine bz_rw_wI (pc := 51) dX10_engage_51 fl_X10_136 (fun q h9 => by cases h9; rfl) rfl hP (fun h_17 hP => ?_)
  exact bz_retV (pc := 54) dX10_engage_54 rfl hP
theorem m_X10_engage {G : bz_G} {l : Launch} {d mc ms : Nat} {F : Option bz_V → bz_H → Prop} (a0 : Nat) (x1 : Int32) (r2 : Option Nat) (x3 : Int32) (h : bz_H) (hP : bz_rR h a0 10 3 (fun r_1 => bz_nn r_1 (fun a_2 => bz_rQ h a_2 x1 (fun r_3 => bz_rR h a0 10 5 (fun r_4 => bz_nn r2 (fun a_5 => bz_rI h a_5 9 6 (fun x_6 => bz_rI h a_5 9 7 (fun x_7 => bz_nn r_4 (fun a_10 => bz_rc h a_10 4 (bz_cI G l d kX4_add [.inr (some a_10), .inl x1, .inl x_6, .inl x_7] h 0 0 (fun x_8 h_9 => bz_rI h_9 a_5 9 8 (fun x_11 => bz_nn r_3 (fun a_12 => bz_wI h_9 a_12 3 4 x_11 (fun h_13 => bz_rI h_13 a_5 9 7 (fun x_14 => bz_wI h_13 a_12 3 5 x_14 (fun h_15 => bz_rI h_15 a_12 3 6 (fun x_16 => bz_wI h_15 a_12 3 6 (x_16 + x3) (fun h_17 => F none h_17)))))))))))))))))) : bz_Call G l (d + 1) kX10_engage [.inr (some a0), .inl x1, .inr r2, .inl x3] h mc ms F :=
  bz_body (by decide) (by decide) (fun κ hl => g_X10_engage_0 hl a0 x1 r2 x3 h hP)
set_option maxRecDepth 20000 in
set_option maxHeartbeats 4000000 in
theorem g_X10_engagedOf_0 {G : bz_G} {κ : bz_K} {l : Launch} {d : Nat} {F : Option bz_V → bz_H → Prop} {bc bs : Nat} (hl : κ.2.1 = l) (a0 : Nat) (x1 : Int32) (h : bz_H) (hP : bz_J G κ kX10_engagedOf (d + 1) F bc bs 4 [some (.inr (some a0)), some (.inl x1), some (.inl 0), some (.inl 0)] [] h) : bz_J G κ kX10_engagedOf (d + 1) F bc bs 0 [some (.inr (some a0)), some (.inl x1), none, none] [] h := by
  subst hl
  refine bz_iconst (v := 0) (pc := 0) dX10_engagedOf_0 (by decide) ?_
  refine bz_s_istore_n (pc := 1) dX10_engagedOf_1 rfl (by decide) [some (.inr (some a0)), some (.inl x1), some (.inl 0), none] rfl ?_
  refine bz_iconst (v := 0) (pc := 2) dX10_engagedOf_2 (by decide) ?_
  refine bz_s_istore_n (pc := 3) dX10_engagedOf_3 rfl (by decide) [some (.inr (some a0)), some (.inl x1), some (.inl 0), some (.inl 0)] rfl ?_
  exact hP
set_option maxRecDepth 20000 in
set_option maxHeartbeats 4000000 in
theorem g_X10_engagedOf_4 {G : bz_G} {κ : bz_K} {l : Launch} {d : Nat} {F : Option bz_V → bz_H → Prop} {bc bs : Nat} (hl : κ.2.1 = l) (a0 : Nat) (x1 : Int32) (x2 : Int32) (x3 : Int32) (h : bz_H) (hP : bz_rR h a0 10 5 (fun r_1 => bz_nn r_1 (fun a_2 => bz_rI h a_2 4 1 (fun x_3 => (x_3 ≤ x3 → F (some (.inl x2)) h) ∧ (¬ (x_3 ≤ x3) → bz_rR h a0 10 5 (fun r_4 => bz_nn r_4 (fun a_7 => bz_rc h a_7 4 (bz_cI G l d kX4_cell [.inr (some a_7), .inl x3, .inl 0] h 0 0 (fun x_5 h_6 => (¬ x_5 = x1 → bz_J G κ kX10_engagedOf (d + 1) F bc bs 4 [some (.inr (some a0)), some (.inl x1), some (.inl x2), some (.inl (x3 + 1))] [] h_6) ∧ (x_5 = x1 → bz_rR h_6 a0 10 5 (fun r_8 => bz_nn r_8 (fun a_11 => bz_rc h_6 a_11 4 (bz_cI G l d kX4_cell [.inr (some a_11), .inl x3, .inl 2] h_6 0 0 (fun x_9 h_10 => bz_rR h_10 a0 10 5 (fun r_12 => bz_nn r_12 (fun a_15 => bz_rc h_10 a_15 4 (bz_cI G l d kX4_cell [.inr (some a_15), .inl x3, .inl 1] h_10 0 0 (fun x_13 h_14 => bz_J G κ kX10_engagedOf (d + 1) F bc bs 4 [some (.inr (some a0)), some (.inl x1), some (.inl (x2 + (x_9 - x_13))), some (.inl (x3 + 1))] [] h_14)))))))))))))))))) : bz_J G κ kX10_engagedOf (d + 1) F bc bs 4 [some (.inr (some a0)), some (.inl x1), some (.inl x2), some (.inl x3)] [] h := by
  subst hl
  refine bz_iload_n (pc := 4) dX10_engagedOf_4 rfl rfl ?_
  refine bz_aload_n (pc := 5) dX10_engagedOf_5 rfl rfl ?_
  refine bz_rw_rR (pc := 6) dX10_engagedOf_6 fl_X10_45 hP (fun r_1 hP => ?_)
  obtain ⟨a_2, rfl, hP⟩ := hP
  refine bz_rw_rI (pc := 9) dX10_engagedOf_9 fl_X10_164 hP (fun x_3 hP => ?_)
  refine bz_icmp_ge (tgt := 56) (pc := 12) dX10_engagedOf_12 (by decide) (fun c => ?_) (fun c => ?_)
  · have hP := hP.1 c
    refine bz_iload_n (pc := 56) dX10_engagedOf_56 rfl rfl ?_
    exact bz_retI (pc := 57) dX10_engagedOf_57 rfl rfl hP
  · have hP := hP.2 c
    refine bz_aload_n (pc := 15) dX10_engagedOf_15 rfl rfl ?_
    refine bz_rw_rR (pc := 16) dX10_engagedOf_16 fl_X10_45 hP (fun r_4 hP => ?_)
    refine bz_iload_n (pc := 19) dX10_engagedOf_19 rfl rfl ?_
    refine bz_iconst (v := 0) (pc := 20) dX10_engagedOf_20 (by decide) ?_
    obtain ⟨a_7, rfl, hP⟩ := hP
    refine bz_kIV (as := [.inl x3, .inl 0]) (st := []) (ci := 4) (pc := 21) dX10_engagedOf_21 sc_X4_cell ml_X10_89 im_X4_cell se_X4_cell rfl rfl rfl (by decide) hP (fun x_5 h_6 hP => ?_)
    refine bz_iload_n (pc := 24) dX10_engagedOf_24 rfl rfl ?_
    refine bz_icmp_ne (tgt := 50) (pc := 25) dX10_engagedOf_25 (by decide) (fun c => ?_) (fun c => ?_)
    · have hP := hP.1 c
      refine bz_s_iinc (pc := 50) dX10_engagedOf_50 (by decide) rfl rfl [some (.inr (some a0)), some (.inl x1), some (.inl x2), some (.inl (x3 + 1))] rfl ?_
      refine bz_goto (tgt := 4) (pc := 53) dX10_engagedOf_53 (by decide) ?_
      exact hP
    · have hP := hP.2 c
      refine bz_iload_n (pc := 28) dX10_engagedOf_28 rfl rfl ?_
      refine bz_aload_n (pc := 29) dX10_engagedOf_29 rfl rfl ?_
      refine bz_rw_rR (pc := 30) dX10_engagedOf_30 fl_X10_45 hP (fun r_8 hP => ?_)
      refine bz_iload_n (pc := 33) dX10_engagedOf_33 rfl rfl ?_
      refine bz_iconst (v := 2) (pc := 34) dX10_engagedOf_34 (by decide) ?_
      obtain ⟨a_11, rfl, hP⟩ := hP
      refine bz_kIV (as := [.inl x3, .inl 2]) (st := [.inl x2]) (ci := 4) (pc := 35) dX10_engagedOf_35 sc_X4_cell ml_X10_89 im_X4_cell se_X4_cell rfl rfl rfl (by decide) hP (fun x_9 h_10 hP => ?_)
      refine bz_aload_n (pc := 38) dX10_engagedOf_38 rfl rfl ?_
      refine bz_rw_rR (pc := 39) dX10_engagedOf_39 fl_X10_45 hP (fun r_12 hP => ?_)
      refine bz_iload_n (pc := 42) dX10_engagedOf_42 rfl rfl ?_
      refine bz_iconst (v := 1) (pc := 43) dX10_engagedOf_43 (by decide) ?_
      obtain ⟨a_15, rfl, hP⟩ := hP
      refine bz_kIV (as := [.inl x3, .inl 1]) (st := [.inl x_9, .inl x2]) (ci := 4) (pc := 44) dX10_engagedOf_44 sc_X4_cell ml_X10_89 im_X4_cell se_X4_cell rfl rfl rfl (by decide) hP (fun x_13 h_14 hP => ?_)
      refine bz_isub (pc := 47) dX10_engagedOf_47 ?_
      refine bz_iadd (pc := 48) dX10_engagedOf_48 ?_
      refine bz_s_istore_n (pc := 49) dX10_engagedOf_49 rfl (by decide) [some (.inr (some a0)), some (.inl x1), some (.inl (x2 + (x_9 - x_13))), some (.inl x3)] rfl ?_
      refine bz_s_iinc (pc := 50) dX10_engagedOf_50 (by decide) rfl rfl [some (.inr (some a0)), some (.inl x1), some (.inl (x2 + (x_9 - x_13))), some (.inl (x3 + 1))] rfl ?_
      refine bz_goto (tgt := 4) (pc := 53) dX10_engagedOf_53 (by decide) ?_
      exact hP
theorem m_X10_engagedOf {G : bz_G} {l : Launch} {d mc ms : Nat} {F : Option bz_V → bz_H → Prop} (a0 : Nat) (x1 : Int32) (h : bz_H) (hP : ∀ (κ : bz_K) (bc bs : Nat), κ.2.1 = l → bz_J G κ kX10_engagedOf (d + 1) F bc bs 4 [some (.inr (some a0)), some (.inl x1), some (.inl 0), some (.inl 0)] [] h) : bz_Call G l (d + 1) kX10_engagedOf [.inr (some a0), .inl x1] h mc ms F :=
  bz_body (by decide) (by decide) (fun κ hl => g_X10_engagedOf_0 hl a0 x1 h (hP κ mc ms hl))
set_option maxRecDepth 20000 in
set_option maxHeartbeats 4000000 in
theorem g_X10_isDouble_0 {G : bz_G} {κ : bz_K} {l : Launch} {d : Nat} {F : Option bz_V → bz_H → Prop} {bc bs : Nat} (hl : κ.2.1 = l) (a0 : Nat) (x1 : Int32) (x2 : Int32) (x3 : Int32) (h : bz_H) (hP : bz_rR h a0 10 7 (fun r_1 => bz_nn r_1 (fun a_4 => bz_rc h a_4 4 (bz_cI G l d kX4_cell [.inr (some a_4), .inl x2, .inl 0] h 0 0 (fun x_2 h_3 => (¬ x_2 = x1 → F (some (.inl 0)) h_3) ∧ (x_2 = x1 → bz_rR h_3 a0 10 7 (fun r_5 => bz_nn r_5 (fun a_8 => bz_rc h_3 a_8 4 (bz_cI G l d kX4_cell [.inr (some a_8), .inl x3, .inl 0] h_3 0 0 (fun x_6 h_7 => (x_6 = x1 → bz_rR h_7 a0 10 7 (fun r_9 => bz_nn r_9 (fun a_12 => bz_rc h_7 a_12 4 (bz_cI G l d kX4_cell [.inr (some a_12), .inl x3, .inl 2] h_7 0 0 (fun x_10 h_11 => bz_rR h_11 a0 10 7 (fun r_13 => bz_nn r_13 (fun a_16 => bz_rc h_11 a_16 4 (bz_cI G l d kX4_cell [.inr (some a_16), .inl x2, .inl 2] h_11 0 0 (fun x_14 h_15 => bz_J G κ kX10_isDouble (d + 1) F bc bs 59 [some (.inr (some a0)), some (.inl x1), some (.inl x2), some (.inl x3), some (.inl (x_10 - x_14)), none, none, none] [.inl (if 0 ≤ (x_10 - x_14) then x2 else x3)] h_15))))))))) ∧ (¬ (x_6 = x1) → F (some (.inl 0)) h_7))))))))))) : bz_J G κ kX10_isDouble (d + 1) F bc bs 0 [some (.inr (some a0)), some (.inl x1), some (.inl x2), some (.inl x3), none, none, none, none] [] h := by
  subst hl
  refine bz_aload_n (pc := 0) dX10_isDouble_0 rfl rfl ?_
  refine bz_rw_rR (pc := 1) dX10_isDouble_1 fl_X10_51 hP (fun r_1 hP => ?_)
  refine bz_iload_n (pc := 4) dX10_isDouble_4 rfl rfl ?_
  refine bz_iconst (v := 0) (pc := 5) dX10_isDouble_5 (by decide) ?_
  obtain ⟨a_4, rfl, hP⟩ := hP
  refine bz_kIV (as := [.inl x2, .inl 0]) (st := []) (ci := 4) (pc := 6) dX10_isDouble_6 sc_X4_cell ml_X10_89 im_X4_cell se_X4_cell rfl rfl rfl (by decide) hP (fun x_2 h_3 hP => ?_)
  refine bz_iload_n (pc := 9) dX10_isDouble_9 rfl rfl ?_
  refine bz_icmp_ne (tgt := 26) (pc := 10) dX10_isDouble_10 (by decide) (fun c => ?_) (fun c => ?_)
  · have hP := hP.1 c
    refine bz_iconst (v := 0) (pc := 26) dX10_isDouble_26 (by decide) ?_
    exact bz_retI (pc := 27) dX10_isDouble_27 rfl rfl hP
  · have hP := hP.2 c
    refine bz_aload_n (pc := 13) dX10_isDouble_13 rfl rfl ?_
    refine bz_rw_rR (pc := 14) dX10_isDouble_14 fl_X10_51 hP (fun r_5 hP => ?_)
    refine bz_iload_n (pc := 17) dX10_isDouble_17 rfl rfl ?_
    refine bz_iconst (v := 0) (pc := 18) dX10_isDouble_18 (by decide) ?_
    obtain ⟨a_8, rfl, hP⟩ := hP
    refine bz_kIV (as := [.inl x3, .inl 0]) (st := []) (ci := 4) (pc := 19) dX10_isDouble_19 sc_X4_cell ml_X10_89 im_X4_cell se_X4_cell rfl rfl rfl (by decide) hP (fun x_6 h_7 hP => ?_)
    refine bz_iload_n (pc := 22) dX10_isDouble_22 rfl rfl ?_
    refine bz_icmp_eq (tgt := 28) (pc := 23) dX10_isDouble_23 (by decide) (fun c => ?_) (fun c => ?_)
    · have hP := hP.1 c
      refine bz_aload_n (pc := 28) dX10_isDouble_28 rfl rfl ?_
      refine bz_rw_rR (pc := 29) dX10_isDouble_29 fl_X10_51 hP (fun r_9 hP => ?_)
      refine bz_iload_n (pc := 32) dX10_isDouble_32 rfl rfl ?_
      refine bz_iconst (v := 2) (pc := 33) dX10_isDouble_33 (by decide) ?_
      obtain ⟨a_12, rfl, hP⟩ := hP
      refine bz_kIV (as := [.inl x3, .inl 2]) (st := []) (ci := 4) (pc := 34) dX10_isDouble_34 sc_X4_cell ml_X10_89 im_X4_cell se_X4_cell rfl rfl rfl (by decide) hP (fun x_10 h_11 hP => ?_)
      refine bz_aload_n (pc := 37) dX10_isDouble_37 rfl rfl ?_
      refine bz_rw_rR (pc := 38) dX10_isDouble_38 fl_X10_51 hP (fun r_13 hP => ?_)
      refine bz_iload_n (pc := 41) dX10_isDouble_41 rfl rfl ?_
      refine bz_iconst (v := 2) (pc := 42) dX10_isDouble_42 (by decide) ?_
      obtain ⟨a_16, rfl, hP⟩ := hP
      refine bz_kIV (as := [.inl x2, .inl 2]) (st := [.inl x_10]) (ci := 4) (pc := 43) dX10_isDouble_43 sc_X4_cell ml_X10_89 im_X4_cell se_X4_cell rfl rfl rfl (by decide) hP (fun x_14 h_15 hP => ?_)
      refine bz_isub (pc := 46) dX10_isDouble_46 ?_
      refine bz_s_istore (pc := 47) dX10_isDouble_47 (by decide) [some (.inr (some a0)), some (.inl x1), some (.inl x2), some (.inl x3), some (.inl (x_10 - x_14)), none, none, none] rfl ?_
      refine bz_iload (pc := 49) dX10_isDouble_49 rfl ?_
      have hJ : bz_J G κ kX10_isDouble (d + 1) F bc bs 59 [some (.inr (some a0)), some (.inl x1), some (.inl x2), some (.inl x3), some (.inl (x_10 - x_14)), none, none, none] [.inl (if 0 ≤ (x_10 - x_14) then x2 else x3)] h_15 := by
        exact hP
      refine bz_if_ge (tgt := 58) (pc := 51) dX10_isDouble_51 (by decide) (fun c => ?_) (fun c => ?_)
      · have e9 : ((if 0 ≤ (x_10 - x_14) then x2 else x3) : Int32) = (x2) := if_pos c
        rw [e9] at hJ
        refine bz_iload_n (pc := 58) dX10_isDouble_58 rfl rfl ?_
        exact hJ
      · have e9 : ((if 0 ≤ (x_10 - x_14) then x2 else x3) : Int32) = (x3) := if_neg c
        rw [e9] at hJ
        refine bz_iload_n (pc := 54) dX10_isDouble_54 rfl rfl ?_
        refine bz_goto (tgt := 59) (pc := 55) dX10_isDouble_55 (by decide) ?_
        exact hJ
    · have hP := hP.2 c
      refine bz_iconst (v := 0) (pc := 26) dX10_isDouble_26 (by decide) ?_
      exact bz_retI (pc := 27) dX10_isDouble_27 rfl rfl hP
set_option maxRecDepth 20000 in
set_option maxHeartbeats 4000000 in
theorem g_X10_isDouble_59 {G : bz_G} {κ : bz_K} {l : Launch} {d : Nat} {F : Option bz_V → bz_H → Prop} {bc bs : Nat} (hl : κ.2.1 = l) (a0 : Nat) (x1 : Int32) (x2 : Int32) (x3 : Int32) (x4 : Int32) (u5 : Option bz_V) (u6 : Option bz_V) (u7 : Option bz_V) (y0 : Int32) (h : bz_H) (hP : bz_rR h a0 10 0 (fun r_17 => bz_rR h a0 10 7 (fun r_18 => bz_nn r_18 (fun a_21 => bz_rc h a_21 4 (bz_cI G l d kX4_cell [.inr (some a_21), .inl y0, .inl 1] h 0 0 (fun x_19 h_20 => bz_rR h_20 a0 10 7 (fun r_22 => bz_nn r_22 (fun a_25 => bz_rc h_20 a_25 4 (bz_cI G l d kX4_cell [.inr (some a_25), .inl (if 0 ≤ x4 then x3 else x2), .inl 1] h_20 0 0 (fun x_23 h_24 => bz_nn r_17 (fun a_28 => bz_rc h_24 a_28 8 (bz_cI G l d kX8_wayBetween [.inr (some a_28), .inl x_19, .inl x_23] h_24 0 0 (fun x_26 h_27 => (x_26 = (-1) → F (some (.inl 1)) h_27) ∧ (¬ (x_26 = (-1)) → F (some (.inl (if x_26 ≤ (if 0 ≤ x4 then x4 else 0 - x4) then 0 else 1))) h_27)))))))))))))) : bz_J G κ kX10_isDouble (d + 1) F bc bs 59 [some (.inr (some a0)), some (.inl x1), some (.inl x2), some (.inl x3), some (.inl x4), u5, u6, u7] [.inl y0] h := by
  subst hl
  refine bz_s_istore (pc := 59) dX10_isDouble_59 (by decide) [some (.inr (some a0)), some (.inl x1), some (.inl x2), some (.inl x3), some (.inl x4), some (.inl y0), u6, u7] rfl ?_
  refine bz_iload (pc := 61) dX10_isDouble_61 rfl ?_
  have hJ : bz_J G κ kX10_isDouble (d + 1) F bc bs 71 [some (.inr (some a0)), some (.inl x1), some (.inl x2), some (.inl x3), some (.inl x4), some (.inl y0), u6, u7] [.inl (if 0 ≤ x4 then x3 else x2)] h := by
    refine bz_s_istore (pc := 71) dX10_isDouble_71 (by decide) [some (.inr (some a0)), some (.inl x1), some (.inl x2), some (.inl x3), some (.inl x4), some (.inl y0), some (.inl (if 0 ≤ x4 then x3 else x2)), u7] rfl ?_
    refine bz_aload_n (pc := 73) dX10_isDouble_73 rfl rfl ?_
    refine bz_rw_rR (pc := 74) dX10_isDouble_74 fl_X10_12 hP (fun r_17 hP => ?_)
    refine bz_aload_n (pc := 77) dX10_isDouble_77 rfl rfl ?_
    refine bz_rw_rR (pc := 78) dX10_isDouble_78 fl_X10_51 hP (fun r_18 hP => ?_)
    refine bz_iload (pc := 81) dX10_isDouble_81 rfl ?_
    refine bz_iconst (v := 1) (pc := 83) dX10_isDouble_83 (by decide) ?_
    obtain ⟨a_21, rfl, hP⟩ := hP
    refine bz_kIV (as := [.inl y0, .inl 1]) (st := [.inr r_17]) (ci := 4) (pc := 84) dX10_isDouble_84 sc_X4_cell ml_X10_89 im_X4_cell se_X4_cell rfl rfl rfl (by decide) hP (fun x_19 h_20 hP => ?_)
    refine bz_aload_n (pc := 87) dX10_isDouble_87 rfl rfl ?_
    refine bz_rw_rR (pc := 88) dX10_isDouble_88 fl_X10_51 hP (fun r_22 hP => ?_)
    refine bz_iload (pc := 91) dX10_isDouble_91 rfl ?_
    refine bz_iconst (v := 1) (pc := 93) dX10_isDouble_93 (by decide) ?_
    obtain ⟨a_25, rfl, hP⟩ := hP
    refine bz_kIV (as := [.inl (if 0 ≤ x4 then x3 else x2), .inl 1]) (st := [.inl x_19, .inr r_17]) (ci := 4) (pc := 94) dX10_isDouble_94 sc_X4_cell ml_X10_89 im_X4_cell se_X4_cell rfl rfl rfl (by decide) hP (fun x_23 h_24 hP => ?_)
    obtain ⟨a_28, rfl, hP⟩ := hP
    refine bz_kIV (as := [.inl x_19, .inl x_23]) (st := []) (ci := 8) (pc := 97) dX10_isDouble_97 sc_X8_wayBetween ml_X10_201 im_X8_wayBetween se_X8_wayBetween rfl rfl rfl (by decide) hP (fun x_26 h_27 hP => ?_)
    refine bz_s_istore (pc := 100) dX10_isDouble_100 (by decide) [some (.inr (some a0)), some (.inl x1), some (.inl x2), some (.inl x3), some (.inl x4), some (.inl y0), some (.inl (if 0 ≤ x4 then x3 else x2)), some (.inl x_26)] rfl ?_
    refine bz_iload (pc := 102) dX10_isDouble_102 rfl ?_
    refine bz_iconst (v := (-1)) (pc := 104) dX10_isDouble_104 (by decide) ?_
    refine bz_icmp_eq (tgt := 118) (pc := 105) dX10_isDouble_105 (by decide) (fun c => ?_) (fun c => ?_)
    · have hP := hP.1 c
      refine bz_iconst (v := 1) (pc := 118) dX10_isDouble_118 (by decide) ?_
      refine bz_goto (tgt := 123) (pc := 119) dX10_isDouble_119 (by decide) ?_
      exact bz_retI (pc := 123) dX10_isDouble_123 rfl rfl hP
    · have hP := hP.2 c
      refine bz_iload (pc := 108) dX10_isDouble_108 rfl ?_
      refine bz_iload (pc := 110) dX10_isDouble_110 rfl ?_
      refine bz_mabs (pc := 112) dX10_isDouble_112 ml_X10_204 mt_abs mt_init mt_code_abs (Nat.succ_pos d) (by decide) ?_
      have hJ : bz_J G κ kX10_isDouble (d + 1) F bc bs 123 [some (.inr (some a0)), some (.inl x1), some (.inl x2), some (.inl x3), some (.inl x4), some (.inl y0), some (.inl (if 0 ≤ x4 then x3 else x2)), some (.inl x_26)] [.inl (if x_26 ≤ (if 0 ≤ x4 then x4 else 0 - x4) then 0 else 1)] h_27 := by
        exact bz_retI (pc := 123) dX10_isDouble_123 rfl (by (repeat' split) <;> rfl) hP
      refine bz_icmp_le (tgt := 122) (pc := 115) dX10_isDouble_115 (by decide) (fun c => ?_) (fun c => ?_)
      · have e9 : ((if x_26 ≤ (if 0 ≤ x4 then x4 else 0 - x4) then 0 else 1) : Int32) = (0) := if_pos c
        rw [e9] at hJ
        refine bz_iconst (v := 0) (pc := 122) dX10_isDouble_122 (by decide) ?_
        exact hJ
      · have e9 : ((if x_26 ≤ (if 0 ≤ x4 then x4 else 0 - x4) then 0 else 1) : Int32) = (1) := if_neg c
        rw [e9] at hJ
        refine bz_iconst (v := 1) (pc := 118) dX10_isDouble_118 (by decide) ?_
        refine bz_goto (tgt := 123) (pc := 119) dX10_isDouble_119 (by decide) ?_
        exact hJ
  refine bz_if_ge (tgt := 70) (pc := 63) dX10_isDouble_63 (by decide) (fun c => ?_) (fun c => ?_)
  · have e9 : ((if 0 ≤ x4 then x3 else x2) : Int32) = (x3) := if_pos c
    rw [e9] at hJ
    refine bz_iload_n (pc := 70) dX10_isDouble_70 rfl rfl ?_
    exact hJ
  · have e9 : ((if 0 ≤ x4 then x3 else x2) : Int32) = (x2) := if_neg c
    rw [e9] at hJ
    refine bz_iload_n (pc := 66) dX10_isDouble_66 rfl rfl ?_
    refine bz_goto (tgt := 71) (pc := 67) dX10_isDouble_67 (by decide) ?_
    exact hJ
theorem m_X10_isDouble {G : bz_G} {l : Launch} {d mc ms : Nat} {F : Option bz_V → bz_H → Prop} (a0 : Nat) (x1 : Int32) (x2 : Int32) (x3 : Int32) (h : bz_H) (hP : ∀ (κ : bz_K) (bc bs : Nat), κ.2.1 = l → bz_rR h a0 10 7 (fun r_1 => bz_nn r_1 (fun a_4 => bz_rc h a_4 4 (bz_cI G l d kX4_cell [.inr (some a_4), .inl x2, .inl 0] h 0 0 (fun x_2 h_3 => (¬ x_2 = x1 → F (some (.inl 0)) h_3) ∧ (x_2 = x1 → bz_rR h_3 a0 10 7 (fun r_5 => bz_nn r_5 (fun a_8 => bz_rc h_3 a_8 4 (bz_cI G l d kX4_cell [.inr (some a_8), .inl x3, .inl 0] h_3 0 0 (fun x_6 h_7 => (x_6 = x1 → bz_rR h_7 a0 10 7 (fun r_9 => bz_nn r_9 (fun a_12 => bz_rc h_7 a_12 4 (bz_cI G l d kX4_cell [.inr (some a_12), .inl x3, .inl 2] h_7 0 0 (fun x_10 h_11 => bz_rR h_11 a0 10 7 (fun r_13 => bz_nn r_13 (fun a_16 => bz_rc h_11 a_16 4 (bz_cI G l d kX4_cell [.inr (some a_16), .inl x2, .inl 2] h_11 0 0 (fun x_14 h_15 => bz_J G κ kX10_isDouble (d + 1) F bc bs 59 [some (.inr (some a0)), some (.inl x1), some (.inl x2), some (.inl x3), some (.inl (x_10 - x_14)), none, none, none] [.inl (if 0 ≤ (x_10 - x_14) then x2 else x3)] h_15))))))))) ∧ (¬ (x_6 = x1) → F (some (.inl 0)) h_7))))))))))) : bz_Call G l (d + 1) kX10_isDouble [.inr (some a0), .inl x1, .inl x2, .inl x3] h mc ms F :=
  bz_body (by decide) (by decide) (fun κ hl => g_X10_isDouble_0 hl a0 x1 x2 x3 h (hP κ mc ms hl))
set_option maxRecDepth 20000 in
set_option maxHeartbeats 4000000 in
theorem g_X10_nameRider_0 {G : bz_G} {κ : bz_K} {l : Launch} {d : Nat} {F : Option bz_V → bz_H → Prop} {bc bs : Nat} (hl : κ.2.1 = l) (a0 : Nat) (r1 : Option Nat) (x2 : Int32) (r3 : Option Nat) (h : bz_H) (hP : bz_rR h a0 10 3 (fun r_1 => bz_nn r_1 (fun a_2 => bz_rQ h a_2 x2 (fun r_3 => bz_rR h a0 10 0 (fun r_4 => bz_nn r_3 (fun a_5 => bz_rI h a_5 3 1 (fun x_6 => bz_rI h a_5 3 4 (fun x_7 => bz_nn r1 (fun a_10 => bz_rc h a_10 0 (bz_cV G l d kX0_putWays [.inr (some a_10), .inr r_4, .inl x_6, .inl x_7, .inr r3] h 0 0 (fun h_9 => bz_rI h_9 a_5 3 6 (fun x_11 => bz_rc h_9 a0 10 (bz_cI G l d kX10_ratingOfRider [.inr (some a0), .inl x2] h_9 0 0 (fun x_12 h_13 => bz_rc h_13 a_10 0 (bz_cV G l d kX0_putRider [.inr (some a_10), .inl x2, .inl x_11, .inl x_12] h_13 0 0 (fun h_15 => F none h_15)))))))))))))))) : bz_J G κ kX10_nameRider (d + 1) F bc bs 0 [some (.inr (some a0)), some (.inr r1), some (.inl x2), some (.inr r3), none] [] h := by
  subst hl
  refine bz_aload_n (pc := 0) dX10_nameRider_0 rfl rfl ?_
  refine bz_rw_rR (pc := 1) dX10_nameRider_1 fl_X10_35 hP (fun r_1 hP => ?_)
  refine bz_iload_n (pc := 4) dX10_nameRider_4 rfl rfl ?_
  obtain ⟨a_2, rfl, hP⟩ := hP
  refine bz_rw_ldq (pc := 5) dX10_nameRider_5 hP (fun r_3 hP => ?_)
  refine bz_s_astore (pc := 6) dX10_nameRider_6 (by decide) [some (.inr (some a0)), some (.inr r1), some (.inl x2), some (.inr r3), some (.inr r_3)] rfl ?_
  refine bz_aload_n (pc := 8) dX10_nameRider_8 rfl rfl ?_
  refine bz_aload_n (pc := 9) dX10_nameRider_9 rfl rfl ?_
  refine bz_rw_rR (pc := 10) dX10_nameRider_10 fl_X10_12 hP (fun r_4 hP => ?_)
  refine bz_aload (pc := 13) dX10_nameRider_13 rfl ?_
  obtain ⟨a_5, rfl, hP⟩ := hP
  refine bz_rw_rI (pc := 15) dX10_nameRider_15 fl_X10_124 hP (fun x_6 hP => ?_)
  refine bz_aload (pc := 18) dX10_nameRider_18 rfl ?_
  refine bz_rw_rI (pc := 20) dX10_nameRider_20 fl_X10_127 hP (fun x_7 hP => ?_)
  refine bz_aload_n (pc := 23) dX10_nameRider_23 rfl rfl ?_
  obtain ⟨a_10, rfl, hP⟩ := hP
  refine bz_kVV (as := [.inr r_4, .inl x_6, .inl x_7, .inr r3]) (st := []) (ci := 0) (pc := 24) dX10_nameRider_24 sc_X0_putWays ml_X10_130 im_X0_putWays se_X0_putWays rfl rfl rfl (by decide) hP (fun h_9 hP => ?_)
  refine bz_aload_n (pc := 27) dX10_nameRider_27 rfl rfl ?_
  refine bz_iload_n (pc := 28) dX10_nameRider_28 rfl rfl ?_
  refine bz_aload (pc := 29) dX10_nameRider_29 rfl ?_
  refine bz_rw_rI (pc := 31) dX10_nameRider_31 fl_X10_136 hP (fun x_11 hP => ?_)
  refine bz_aload_n (pc := 34) dX10_nameRider_34 rfl rfl ?_
  refine bz_iload_n (pc := 35) dX10_nameRider_35 rfl rfl ?_
  refine bz_kIV (as := [.inl x2]) (st := [.inl x_11, .inl x2, .inr (some a_10)]) (ci := 10) (pc := 36) dX10_nameRider_36 sc_X10_ratingOfRider ml_X10_139 im_X10_ratingOfRider se_X10_ratingOfRider rfl rfl rfl (by decide) hP (fun x_12 h_13 hP => ?_)
  refine bz_kVV (as := [.inl x2, .inl x_11, .inl x_12]) (st := []) (ci := 0) (pc := 39) dX10_nameRider_39 sc_X0_putRider ml_X10_143 im_X0_putRider se_X0_putRider rfl rfl rfl (by decide) hP (fun h_15 hP => ?_)
  exact bz_retV (pc := 42) dX10_nameRider_42 rfl hP
theorem m_X10_nameRider {G : bz_G} {l : Launch} {d mc ms : Nat} {F : Option bz_V → bz_H → Prop} (a0 : Nat) (r1 : Option Nat) (x2 : Int32) (r3 : Option Nat) (h : bz_H) (hP : bz_rR h a0 10 3 (fun r_1 => bz_nn r_1 (fun a_2 => bz_rQ h a_2 x2 (fun r_3 => bz_rR h a0 10 0 (fun r_4 => bz_nn r_3 (fun a_5 => bz_rI h a_5 3 1 (fun x_6 => bz_rI h a_5 3 4 (fun x_7 => bz_nn r1 (fun a_10 => bz_rc h a_10 0 (bz_cV G l d kX0_putWays [.inr (some a_10), .inr r_4, .inl x_6, .inl x_7, .inr r3] h 0 0 (fun h_9 => bz_rI h_9 a_5 3 6 (fun x_11 => bz_rc h_9 a0 10 (bz_cI G l d kX10_ratingOfRider [.inr (some a0), .inl x2] h_9 0 0 (fun x_12 h_13 => bz_rc h_13 a_10 0 (bz_cV G l d kX0_putRider [.inr (some a_10), .inl x2, .inl x_11, .inl x_12] h_13 0 0 (fun h_15 => F none h_15)))))))))))))))) : bz_Call G l (d + 1) kX10_nameRider [.inr (some a0), .inr r1, .inl x2, .inr r3] h mc ms F :=
  bz_body (by decide) (by decide) (fun κ hl => g_X10_nameRider_0 hl a0 r1 x2 r3 h hP)
set_option maxRecDepth 20000 in
set_option maxHeartbeats 4000000 in
theorem g_X10_orderAt_0 {G : bz_G} {κ : bz_K} {l : Launch} {d : Nat} {F : Option bz_V → bz_H → Prop} {bc bs : Nat} (hl : κ.2.1 = l) (a0 : Nat) (x1 : Int32) (h : bz_H) (hP : bz_rI h a0 10 9 (fun x_1 => bz_cI G l d kX11_isWithin [.inl x1, .inl 0, .inl (x_1 - 1)] h 0 0 (fun x_2 h_3 => (x_2 = 0 → F (some (.inr none)) h_3) ∧ (¬ (x_2 = 0) → bz_rR h_3 a0 10 2 (fun r_4 => bz_nn r_4 (fun a_5 => bz_rQ h_3 a_5 x1 (fun r_6 => F (some (.inr r_6)) h_3))))))) : bz_J G κ kX10_orderAt (d + 1) F bc bs 0 [some (.inr (some a0)), some (.inl x1)] [] h := by
  subst hl
  refine bz_iload_n (pc := 0) dX10_orderAt_0 rfl rfl ?_
  refine bz_iconst (v := 0) (pc := 1) dX10_orderAt_1 (by decide) ?_
  refine bz_aload_n (pc := 2) dX10_orderAt_2 rfl rfl ?_
  refine bz_rw_rI (pc := 3) dX10_orderAt_3 fl_X10_73 hP (fun x_1 hP => ?_)
  refine bz_iconst (v := 1) (pc := 6) dX10_orderAt_6 (by decide) ?_
  refine bz_isub (pc := 7) dX10_orderAt_7 ?_
  refine bz_kISN (as := [.inl x1, .inl 0, .inl (x_1 - 1)]) (st := []) (pc := 8) dX10_orderAt_8 sc_X11_isWithin ml_X10_76 ss_X11_isWithin rfl (by decide) hP (fun x_2 h_3 hP => ?_)
  refine bz_if_eq (tgt := 23) (pc := 11) dX10_orderAt_11 (by decide) (fun c => ?_) (fun c => ?_)
  · have hP := hP.1 c
    refine bz_null (pc := 23) dX10_orderAt_23 ?_
    exact bz_retR (pc := 24) dX10_orderAt_24 rfl (by first | exact Or.inl ⟨_, rfl⟩ | exact Or.inr ⟨_, rfl⟩) hP
  · have hP := hP.2 c
    refine bz_aload_n (pc := 14) dX10_orderAt_14 rfl rfl ?_
    refine bz_rw_rR (pc := 15) dX10_orderAt_15 fl_X10_29 hP (fun r_4 hP => ?_)
    refine bz_iload_n (pc := 18) dX10_orderAt_18 rfl rfl ?_
    obtain ⟨a_5, rfl, hP⟩ := hP
    refine bz_rw_ldq (pc := 19) dX10_orderAt_19 hP (fun r_6 hP => ?_)
    refine bz_goto (tgt := 24) (pc := 20) dX10_orderAt_20 (by decide) ?_
    exact bz_retR (pc := 24) dX10_orderAt_24 rfl (by first | exact Or.inl ⟨_, rfl⟩ | exact Or.inr ⟨_, rfl⟩) hP
theorem m_X10_orderAt {G : bz_G} {l : Launch} {d mc ms : Nat} {F : Option bz_V → bz_H → Prop} (a0 : Nat) (x1 : Int32) (h : bz_H) (hP : bz_rI h a0 10 9 (fun x_1 => bz_cI G l d kX11_isWithin [.inl x1, .inl 0, .inl (x_1 - 1)] h 0 0 (fun x_2 h_3 => (x_2 = 0 → F (some (.inr none)) h_3) ∧ (¬ (x_2 = 0) → bz_rR h_3 a0 10 2 (fun r_4 => bz_nn r_4 (fun a_5 => bz_rQ h_3 a_5 x1 (fun r_6 => F (some (.inr r_6)) h_3))))))) : bz_Call G l (d + 1) kX10_orderAt [.inr (some a0), .inl x1] h mc ms F :=
  bz_body (by decide) (by decide) (fun κ hl => g_X10_orderAt_0 hl a0 x1 h hP)
set_option maxRecDepth 20000 in
set_option maxHeartbeats 4000000 in
theorem g_X10_ownRatingOf_0 {G : bz_G} {κ : bz_K} {l : Launch} {d : Nat} {F : Option bz_V → bz_H → Prop} {bc bs : Nat} (hl : κ.2.1 = l) (a0 : Nat) (x1 : Int32) (h : bz_H) (hP : bz_J G κ kX10_ownRatingOf (d + 1) F bc bs 7 [some (.inr (some a0)), some (.inl x1), some (.inl 0), some (.inl 0), some (.inl 0)] [] h) : bz_J G κ kX10_ownRatingOf (d + 1) F bc bs 0 [some (.inr (some a0)), some (.inl x1), none, none, none] [] h := by
  subst hl
  refine bz_iconst (v := 0) (pc := 0) dX10_ownRatingOf_0 (by decide) ?_
  refine bz_s_istore_n (pc := 1) dX10_ownRatingOf_1 rfl (by decide) [some (.inr (some a0)), some (.inl x1), some (.inl 0), none, none] rfl ?_
  refine bz_iconst (v := 0) (pc := 2) dX10_ownRatingOf_2 (by decide) ?_
  refine bz_s_istore_n (pc := 3) dX10_ownRatingOf_3 rfl (by decide) [some (.inr (some a0)), some (.inl x1), some (.inl 0), some (.inl 0), none] rfl ?_
  refine bz_iconst (v := 0) (pc := 4) dX10_ownRatingOf_4 (by decide) ?_
  refine bz_s_istore (pc := 5) dX10_ownRatingOf_5 (by decide) [some (.inr (some a0)), some (.inl x1), some (.inl 0), some (.inl 0), some (.inl 0)] rfl ?_
  exact hP
set_option maxRecDepth 20000 in
set_option maxHeartbeats 4000000 in
theorem g_X10_ownRatingOf_7 {G : bz_G} {κ : bz_K} {l : Launch} {d : Nat} {F : Option bz_V → bz_H → Prop} {bc bs : Nat} (hl : κ.2.1 = l) (a0 : Nat) (x1 : Int32) (x2 : Int32) (x3 : Int32) (x4 : Int32) (h : bz_H) (hP : bz_rI h a0 10 9 (fun x_1 => (x_1 ≤ x4 → (¬ x3 = 0 → (¬ x3 = 0) ∧ (F (some (.inl (x2 / x3))) h)) ∧ (x3 = 0 → F (some (.inl 50)) h)) ∧ (¬ (x_1 ≤ x4) → bz_rR h a0 10 2 (fun r_2 => bz_nn r_2 (fun a_3 => bz_rQ h a_3 x4 (fun r_4 => bz_nn r_4 (fun a_7 => bz_rc h a_7 2 (bz_cI G l d kX2_isGivenTo [.inr (some a_7), .inl x1] h 0 0 (fun x_5 h_6 => (x_5 = 0 → bz_J G κ kX10_ownRatingOf (d + 1) F bc bs 7 [some (.inr (some a0)), some (.inl x1), some (.inl x2), some (.inl x3), some (.inl (x4 + 1))] [] h_6) ∧ (¬ (x_5 = 0) → bz_rR h_6 a0 10 2 (fun r_8 => bz_nn r_8 (fun a_9 => bz_rQ h_6 a_9 x4 (fun r_10 => bz_nn r_10 (fun a_13 => bz_rc h_6 a_13 2 (bz_cI G l d kX2_ownRating [.inr (some a_13)] h_6 0 0 (fun x_11 h_12 => bz_J G κ kX10_ownRatingOf (d + 1) F bc bs 7 [some (.inr (some a0)), some (.inl x1), some (.inl (x2 + x_11)), some (.inl (x3 + 1)), some (.inl (x4 + 1))] [] h_12)))))))))))))))) : bz_J G κ kX10_ownRatingOf (d + 1) F bc bs 7 [some (.inr (some a0)), some (.inl x1), some (.inl x2), some (.inl x3), some (.inl x4)] [] h := by
  subst hl
  refine bz_iload (pc := 7) dX10_ownRatingOf_7 rfl ?_
  refine bz_aload_n (pc := 9) dX10_ownRatingOf_9 rfl rfl ?_
  refine bz_rw_rI (pc := 10) dX10_ownRatingOf_10 fl_X10_73 hP (fun x_1 hP => ?_)
  refine bz_icmp_ge (tgt := 52) (pc := 13) dX10_ownRatingOf_13 (by decide) (fun c => ?_) (fun c => ?_)
  · have hP := hP.1 c
    refine bz_iload_n (pc := 52) dX10_ownRatingOf_52 rfl rfl ?_
    refine bz_if_ne (tgt := 61) (pc := 53) dX10_ownRatingOf_53 (by decide) (fun c => ?_) (fun c => ?_)
    · have hP := hP.1 c
      refine bz_iload_n (pc := 61) dX10_ownRatingOf_61 rfl rfl ?_
      refine bz_iload_n (pc := 62) dX10_ownRatingOf_62 rfl rfl ?_
      obtain ⟨hz, hP⟩ := hP
      refine bz_idiv (pc := 63) dX10_ownRatingOf_63 hz ?_
      exact bz_retI (pc := 64) dX10_ownRatingOf_64 rfl rfl hP
    · have hP := hP.2 c
      refine bz_bipush (v := 50) (pc := 56) dX10_ownRatingOf_56 (by decide) ?_
      refine bz_goto (tgt := 64) (pc := 58) dX10_ownRatingOf_58 (by decide) ?_
      exact bz_retI (pc := 64) dX10_ownRatingOf_64 rfl rfl hP
  · have hP := hP.2 c
    refine bz_aload_n (pc := 16) dX10_ownRatingOf_16 rfl rfl ?_
    refine bz_rw_rR (pc := 17) dX10_ownRatingOf_17 fl_X10_29 hP (fun r_2 hP => ?_)
    refine bz_iload (pc := 20) dX10_ownRatingOf_20 rfl ?_
    obtain ⟨a_3, rfl, hP⟩ := hP
    refine bz_rw_ldq (pc := 22) dX10_ownRatingOf_22 hP (fun r_4 hP => ?_)
    refine bz_iload_n (pc := 23) dX10_ownRatingOf_23 rfl rfl ?_
    obtain ⟨a_7, rfl, hP⟩ := hP
    refine bz_kIV (as := [.inl x1]) (st := []) (ci := 2) (pc := 24) dX10_ownRatingOf_24 sc_X2_isGivenTo ml_X10_177 im_X2_isGivenTo se_X2_isGivenTo rfl rfl rfl (by decide) hP (fun x_5 h_6 hP => ?_)
    refine bz_if_eq (tgt := 46) (pc := 27) dX10_ownRatingOf_27 (by decide) (fun c => ?_) (fun c => ?_)
    · have hP := hP.1 c
      refine bz_s_iinc (pc := 46) dX10_ownRatingOf_46 (by decide) rfl rfl [some (.inr (some a0)), some (.inl x1), some (.inl x2), some (.inl x3), some (.inl (x4 + 1))] rfl ?_
      refine bz_goto (tgt := 7) (pc := 49) dX10_ownRatingOf_49 (by decide) ?_
      exact hP
    · have hP := hP.2 c
      refine bz_iload_n (pc := 30) dX10_ownRatingOf_30 rfl rfl ?_
      refine bz_aload_n (pc := 31) dX10_ownRatingOf_31 rfl rfl ?_
      refine bz_rw_rR (pc := 32) dX10_ownRatingOf_32 fl_X10_29 hP (fun r_8 hP => ?_)
      refine bz_iload (pc := 35) dX10_ownRatingOf_35 rfl ?_
      obtain ⟨a_9, rfl, hP⟩ := hP
      refine bz_rw_ldq (pc := 37) dX10_ownRatingOf_37 hP (fun r_10 hP => ?_)
      obtain ⟨a_13, rfl, hP⟩ := hP
      refine bz_kIV (as := []) (st := [.inl x2]) (ci := 2) (pc := 38) dX10_ownRatingOf_38 sc_X2_ownRating ml_X10_188 im_X2_ownRating se_X2_ownRating rfl rfl rfl (by decide) hP (fun x_11 h_12 hP => ?_)
      refine bz_iadd (pc := 41) dX10_ownRatingOf_41 ?_
      refine bz_s_istore_n (pc := 42) dX10_ownRatingOf_42 rfl (by decide) [some (.inr (some a0)), some (.inl x1), some (.inl (x2 + x_11)), some (.inl x3), some (.inl x4)] rfl ?_
      refine bz_s_iinc (pc := 43) dX10_ownRatingOf_43 (by decide) rfl rfl [some (.inr (some a0)), some (.inl x1), some (.inl (x2 + x_11)), some (.inl (x3 + 1)), some (.inl x4)] rfl ?_
      refine bz_s_iinc (pc := 46) dX10_ownRatingOf_46 (by decide) rfl rfl [some (.inr (some a0)), some (.inl x1), some (.inl (x2 + x_11)), some (.inl (x3 + 1)), some (.inl (x4 + 1))] rfl ?_
      refine bz_goto (tgt := 7) (pc := 49) dX10_ownRatingOf_49 (by decide) ?_
      exact hP
theorem m_X10_ownRatingOf {G : bz_G} {l : Launch} {d mc ms : Nat} {F : Option bz_V → bz_H → Prop} (a0 : Nat) (x1 : Int32) (h : bz_H) (hP : ∀ (κ : bz_K) (bc bs : Nat), κ.2.1 = l → bz_J G κ kX10_ownRatingOf (d + 1) F bc bs 7 [some (.inr (some a0)), some (.inl x1), some (.inl 0), some (.inl 0), some (.inl 0)] [] h) : bz_Call G l (d + 1) kX10_ownRatingOf [.inr (some a0), .inl x1] h mc ms F :=
  bz_body (by decide) (by decide) (fun κ hl => g_X10_ownRatingOf_0 hl a0 x1 h (hP κ mc ms hl))
set_option maxRecDepth 20000 in
set_option maxHeartbeats 4000000 in
theorem g_X10_payFor_0 {G : bz_G} {κ : bz_K} {l : Launch} {d : Nat} {F : Option bz_V → bz_H → Prop} {bc bs : Nat} (hl : κ.2.1 = l) (a0 : Nat) (r1 : Option Nat) (h : bz_H) (hP : bz_J G κ kX10_payFor (d + 1) F bc bs 4 [some (.inr (some a0)), some (.inr r1), some (.inl 0), some (.inl 0)] [] h) : bz_J G κ kX10_payFor (d + 1) F bc bs 0 [some (.inr (some a0)), some (.inr r1), none, none] [] h := by
  subst hl
  refine bz_iconst (v := 0) (pc := 0) dX10_payFor_0 (by decide) ?_
  refine bz_s_istore_n (pc := 1) dX10_payFor_1 rfl (by decide) [some (.inr (some a0)), some (.inr r1), some (.inl 0), none] rfl ?_
  refine bz_iconst (v := 0) (pc := 2) dX10_payFor_2 (by decide) ?_
  refine bz_s_istore_n (pc := 3) dX10_payFor_3 rfl (by decide) [some (.inr (some a0)), some (.inr r1), some (.inl 0), some (.inl 0)] rfl ?_
  exact hP
set_option maxRecDepth 20000 in
set_option maxHeartbeats 4000000 in
theorem g_X10_payFor_4 {G : bz_G} {κ : bz_K} {l : Launch} {d : Nat} {F : Option bz_V → bz_H → Prop} {bc bs : Nat} (hl : κ.2.1 = l) (a0 : Nat) (r1 : Option Nat) (x2 : Int32) (x3 : Int32) (h : bz_H) (hP : bz_rR h a0 10 6 (fun r_1 => bz_nn r_1 (fun a_2 => bz_rI h a_2 4 1 (fun x_3 => (x_3 ≤ x3 → bz_nn r1 (fun a_4 => bz_rI h a_4 2 13 (fun x_5 => bz_rI h a_4 2 13 (fun x_6 => F (some (.inl (x_5 + ((x_6 * x2) / 100)))) h)))) ∧ (¬ (x_3 ≤ x3) → bz_rR h a0 10 6 (fun r_7 => bz_nn r1 (fun a_8 => bz_rI h a_8 2 9 (fun x_9 => bz_nn r_7 (fun a_12 => bz_rc h a_12 4 (bz_cI G l d kX4_spans [.inr (some a_12), .inl x3, .inl x_9] h 0 0 (fun x_10 h_11 => (x_10 = 0 → bz_J G κ kX10_payFor (d + 1) F bc bs 4 [some (.inr (some a0)), some (.inr (some a_8)), some (.inl x2), some (.inl (x3 + 1))] [] h_11) ∧ (¬ (x_10 = 0) → bz_rR h_11 a0 10 6 (fun r_13 => bz_nn r_13 (fun a_16 => bz_rc h_11 a_16 4 (bz_cI G l d kX4_cell [.inr (some a_16), .inl x3, .inl 2] h_11 0 0 (fun x_14 h_15 => bz_J G κ kX10_payFor (d + 1) F bc bs 4 [some (.inr (some a0)), some (.inr (some a_8)), some (.inl (x2 + x_14)), some (.inl (x3 + 1))] [] h_15)))))))))))))))) : bz_J G κ kX10_payFor (d + 1) F bc bs 4 [some (.inr (some a0)), some (.inr r1), some (.inl x2), some (.inl x3)] [] h := by
  subst hl
  refine bz_iload_n (pc := 4) dX10_payFor_4 rfl rfl ?_
  refine bz_aload_n (pc := 5) dX10_payFor_5 rfl rfl ?_
  refine bz_rw_rR (pc := 6) dX10_payFor_6 fl_X10_48 hP (fun r_1 hP => ?_)
  obtain ⟨a_2, rfl, hP⟩ := hP
  refine bz_rw_rI (pc := 9) dX10_payFor_9 fl_X10_164 hP (fun x_3 hP => ?_)
  refine bz_icmp_ge (tgt := 48) (pc := 12) dX10_payFor_12 (by decide) (fun c => ?_) (fun c => ?_)
  · have hP := hP.1 c
    refine bz_aload_n (pc := 48) dX10_payFor_48 rfl rfl ?_
    obtain ⟨a_4, rfl, hP⟩ := hP
    refine bz_rw_rI (pc := 49) dX10_payFor_49 fl_X10_174 hP (fun x_5 hP => ?_)
    refine bz_aload_n (pc := 52) dX10_payFor_52 rfl rfl ?_
    refine bz_rw_rI (pc := 53) dX10_payFor_53 fl_X10_174 hP (fun x_6 hP => ?_)
    refine bz_iload_n (pc := 56) dX10_payFor_56 rfl rfl ?_
    refine bz_imul (pc := 57) dX10_payFor_57 ?_
    refine bz_bipush (v := 100) (pc := 58) dX10_payFor_58 (by decide) ?_
    refine bz_idiv (pc := 60) dX10_payFor_60 (by decide) ?_
    refine bz_iadd (pc := 61) dX10_payFor_61 ?_
    exact bz_retI (pc := 62) dX10_payFor_62 rfl rfl hP
  · have hP := hP.2 c
    refine bz_aload_n (pc := 15) dX10_payFor_15 rfl rfl ?_
    refine bz_rw_rR (pc := 16) dX10_payFor_16 fl_X10_48 hP (fun r_7 hP => ?_)
    refine bz_iload_n (pc := 19) dX10_payFor_19 rfl rfl ?_
    refine bz_aload_n (pc := 20) dX10_payFor_20 rfl rfl ?_
    obtain ⟨a_8, rfl, hP⟩ := hP
    refine bz_rw_rI (pc := 21) dX10_payFor_21 fl_X10_167 hP (fun x_9 hP => ?_)
    obtain ⟨a_12, rfl, hP⟩ := hP
    refine bz_kIV (as := [.inl x3, .inl x_9]) (st := []) (ci := 4) (pc := 24) dX10_payFor_24 sc_X4_spans ml_X10_170 im_X4_spans se_X4_spans rfl rfl rfl (by decide) hP (fun x_10 h_11 hP => ?_)
    refine bz_if_eq (tgt := 42) (pc := 27) dX10_payFor_27 (by decide) (fun c => ?_) (fun c => ?_)
    · have hP := hP.1 c
      refine bz_s_iinc (pc := 42) dX10_payFor_42 (by decide) rfl rfl [some (.inr (some a0)), some (.inr (some a_8)), some (.inl x2), some (.inl (x3 + 1))] rfl ?_
      refine bz_goto (tgt := 4) (pc := 45) dX10_payFor_45 (by decide) ?_
      exact hP
    · have hP := hP.2 c
      refine bz_iload_n (pc := 30) dX10_payFor_30 rfl rfl ?_
      refine bz_aload_n (pc := 31) dX10_payFor_31 rfl rfl ?_
      refine bz_rw_rR (pc := 32) dX10_payFor_32 fl_X10_48 hP (fun r_13 hP => ?_)
      refine bz_iload_n (pc := 35) dX10_payFor_35 rfl rfl ?_
      refine bz_iconst (v := 2) (pc := 36) dX10_payFor_36 (by decide) ?_
      obtain ⟨a_16, rfl, hP⟩ := hP
      refine bz_kIV (as := [.inl x3, .inl 2]) (st := [.inl x2]) (ci := 4) (pc := 37) dX10_payFor_37 sc_X4_cell ml_X10_89 im_X4_cell se_X4_cell rfl rfl rfl (by decide) hP (fun x_14 h_15 hP => ?_)
      refine bz_iadd (pc := 40) dX10_payFor_40 ?_
      refine bz_s_istore_n (pc := 41) dX10_payFor_41 rfl (by decide) [some (.inr (some a0)), some (.inr (some a_8)), some (.inl (x2 + x_14)), some (.inl x3)] rfl ?_
      refine bz_s_iinc (pc := 42) dX10_payFor_42 (by decide) rfl rfl [some (.inr (some a0)), some (.inr (some a_8)), some (.inl (x2 + x_14)), some (.inl (x3 + 1))] rfl ?_
      refine bz_goto (tgt := 4) (pc := 45) dX10_payFor_45 (by decide) ?_
      exact hP
theorem m_X10_payFor {G : bz_G} {l : Launch} {d mc ms : Nat} {F : Option bz_V → bz_H → Prop} (a0 : Nat) (r1 : Option Nat) (h : bz_H) (hP : ∀ (κ : bz_K) (bc bs : Nat), κ.2.1 = l → bz_J G κ kX10_payFor (d + 1) F bc bs 4 [some (.inr (some a0)), some (.inr r1), some (.inl 0), some (.inl 0)] [] h) : bz_Call G l (d + 1) kX10_payFor [.inr (some a0), .inr r1] h mc ms F :=
  bz_body (by decide) (by decide) (fun κ hl => g_X10_payFor_0 hl a0 r1 h (hP κ mc ms hl))
