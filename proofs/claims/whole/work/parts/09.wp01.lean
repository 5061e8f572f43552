def w_X6_addByte_0 (G : bz_G) (l : Launch) (d : Nat) (F : Option bz_V → bz_H → Prop) (a0 : Nat) (x1 : Int32) (h : bz_H) : Prop := bz_rI h a0 6 1 (fun x_1 => (80 ≤ x_1 → F none h) ∧ (¬ (80 ≤ x_1) → bz_rR h a0 6 0 (fun r_2 => bz_rI h a0 6 1 (fun x_3 => bz_nn r_2 (fun a_4 => bz_wA h a_4 x_3 x1 (fun h_5 => bz_rI h_5 a0 6 1 (fun x_6 => bz_wI h_5 a0 6 1 (x_6 + 1) (fun h_7 => F none h_7))))))))
set_option maxRecDepth 20000 in
set_option maxHeartbeats 4000000 in
theorem g_X6_addByte_0 {G : bz_G} {κ : bz_K} {l : Launch} {d : Nat} {F : Option bz_V → bz_H → Prop} {bc bs : Nat} (hl : κ.2.1 = l) (a0 : Nat) (x1 : Int32) (h : bz_H) (hP0 : w_X6_addByte_0 G l d F a0 x1 h) : bz_J G κ kX6_addByte (d + 1) F bc bs 0 [some (.inr (some a0)), some (.inl x1)] [] h := by
  subst hl
  unfold w_X6_addByte_0 at hP0
  refine bz_aload_n (pc := 0) dX6_addByte_0 rfl rfl ?_
  refine bz_rw_rI (pc := 1) dX6_addByte_1 fl_X6_18 hP0 (fun x_1 hP1 => ?_)
  clear hP0
  refine bz_bipush (pc := 4) dX6_addByte_4 cb_80 ?_
  refine bz_icmp_ge (tgt := 29) (pc := 6) dX6_addByte_6 rfl (fun c => ?_) (fun c => ?_)
  · have hP2 := hP1.1 c
    clear hP1
    exact bz_retV (pc := 29) dX6_addByte_29 rfl hP2
  · have hP3 := hP1.2 c
    clear hP1
    refine bz_aload_n (pc := 9) dX6_addByte_9 rfl rfl ?_
    refine bz_rw_rR (pc := 10) dX6_addByte_10 fl_X6_9 hP3 (fun r_2 hP4 => ?_)
    clear hP3
    refine bz_aload_n (pc := 13) dX6_addByte_13 rfl rfl ?_
    refine bz_rw_rI (pc := 14) dX6_addByte_14 fl_X6_18 hP4 (fun x_3 hP5 => ?_)
    clear hP4
    refine bz_iload_n (pc := 17) dX6_addByte_17 rfl rfl ?_
    obtain ⟨a_4, rfl, hP6⟩ := hP5
    refine bz_rw_wA (pc := 18) dX6_addByte_18 hP6 (fun h_5 hP7 => ?_)
    clear hP6
    refine bz_aload_n (pc := 19) dX6_addByte_19 rfl rfl ?_
    refine bz_dup (pc := 20) dX6_addByte_20 ?_
    refine bz_rw_rI (pc := 21) dX6_addByte_21 fl_X6_18 hP7 (fun x_6 hP8 => ?_)
    clear hP7
    refine bz_iconst (pc := 24) dX6_addByte_24 ci_1 ?_
    refine bz_iadd (pc := 25) dX6_addByte_25 ?_
    refine bz_rw_wI (pc := 26) dX6_addByte_26 fl_X6_18 (fun q h9 => by cases h9; rfl) rfl hP8 (fun h_7 hP9 => ?_)
    clear hP8
    exact bz_retV (pc := 29) dX6_addByte_29 rfl hP9
theorem m_X6_addByte {G : bz_G} {l : Launch} {d mc ms : Nat} {F : Option bz_V → bz_H → Prop} (a0 : Nat) (x1 : Int32) (h : bz_H) (hP : w_X6_addByte_0 G l d F a0 x1 h) : bz_Call G l (d + 1) kX6_addByte [.inr (some a0), .inl x1] h mc ms F :=
  bz_body (by decide) (Nat.le_of_ble_eq_true rfl) (fun κ hl => g_X6_addByte_0 hl a0 x1 h hP)
def w_X6_isSign_0 (G : bz_G) (l : Launch) (d : Nat) (F : Option bz_V → bz_H → Prop) (x0 : Int32) (h : bz_H) : Prop := (x0 = 43 → F (some (.inl 1)) h) ∧ (¬ (x0 = 43) → F (some (.inl (if x0 = 45 then 1 else if x0 = 42 then 1 else if x0 = 47 then 1 else if x0 = 40 then 1 else if x0 = 41 then 1 else if x0 = 60 then 1 else if x0 = 61 then 1 else 0))) h)
set_option maxRecDepth 20000 in
set_option maxHeartbeats 4000000 in
theorem g_X6_isSign_0 {G : bz_G} {κ : bz_K} {l : Launch} {d : Nat} {F : Option bz_V → bz_H → Prop} {bc bs : Nat} (hl : κ.2.1 = l) (x0 : Int32) (h : bz_H) (hP0 : w_X6_isSign_0 G l d F x0 h) : bz_J G κ kX6_isSign (d + 1) F bc bs 0 [some (.inl x0)] [] h := by
  subst hl
  unfold w_X6_isSign_0 at hP0
  refine bz_iload_n (pc := 0) dX6_isSign_0 rfl rfl ?_
  refine bz_bipush (pc := 1) dX6_isSign_1 cb_43 ?_
  refine bz_icmp_eq (tgt := 48) (pc := 3) dX6_isSign_3 rfl (fun c => ?_) (fun c => ?_)
  · have hP1 := hP0.1 c
    clear hP0
    refine bz_iconst (pc := 48) dX6_isSign_48 ci_1 ?_
    refine bz_goto (tgt := 53) (pc := 49) dX6_isSign_49 rfl ?_
    exact bz_retI (pc := 53) dX6_isSign_53 rfl rfl hP1
  · have hP2 := hP0.2 c
    clear hP0
    refine bz_iload_n (pc := 6) dX6_isSign_6 rfl rfl ?_
    refine bz_bipush (pc := 7) dX6_isSign_7 cb_45 ?_
    have hJ : bz_J G κ kX6_isSign (d + 1) F bc bs 53 [some (.inl x0)] [.inl (if x0 = 45 then 1 else if x0 = 42 then 1 else if x0 = 47 then 1 else if x0 = 40 then 1 else if x0 = 41 then 1 else if x0 = 60 then 1 else if x0 = 61 then 1 else 0)] h := by
      exact bz_retI (pc := 53) dX6_isSign_53 rfl (by (repeat' split) <;> rfl) hP2
    refine bz_icmp_eq (tgt := 48) (pc := 9) dX6_isSign_9 rfl (fun c => ?_) (fun c => ?_)
    · have e9 : ((if x0 = 45 then 1 else if x0 = 42 then 1 else if x0 = 47 then 1 else if x0 = 40 then 1 else if x0 = 41 then 1 else if x0 = 60 then 1 else if x0 = 61 then 1 else 0) : Int32) = (1) := if_pos c
      rw [e9] at hJ
      refine bz_iconst (pc := 48) dX6_isSign_48 ci_1 ?_
      refine bz_goto (tgt := 53) (pc := 49) dX6_isSign_49 rfl ?_
      exact hJ
    · have e9 : ((if x0 = 45 then 1 else if x0 = 42 then 1 else if x0 = 47 then 1 else if x0 = 40 then 1 else if x0 = 41 then 1 else if x0 = 60 then 1 else if x0 = 61 then 1 else 0) : Int32) = (if x0 = 42 then 1 else if x0 = 47 then 1 else if x0 = 40 then 1 else if x0 = 41 then 1 else if x0 = 60 then 1 else if x0 = 61 then 1 else 0) := if_neg c
      rw [e9] at hJ
      refine bz_iload_n (pc := 12) dX6_isSign_12 rfl rfl ?_
      refine bz_bipush (pc := 13) dX6_isSign_13 cb_42 ?_
      refine bz_icmp_eq (tgt := 48) (pc := 15) dX6_isSign_15 rfl (fun c => ?_) (fun c => ?_)
      · have e9 : ((if x0 = 42 then 1 else if x0 = 47 then 1 else if x0 = 40 then 1 else if x0 = 41 then 1 else if x0 = 60 then 1 else if x0 = 61 then 1 else 0) : Int32) = (1) := if_pos c
        rw [e9] at hJ
        refine bz_iconst (pc := 48) dX6_isSign_48 ci_1 ?_
        refine bz_goto (tgt := 53) (pc := 49) dX6_isSign_49 rfl ?_
        exact hJ
      · have e9 : ((if x0 = 42 then 1 else if x0 = 47 then 1 else if x0 = 40 then 1 else if x0 = 41 then 1 else if x0 = 60 then 1 else if x0 = 61 then 1 else 0) : Int32) = (if x0 = 47 then 1 else if x0 = 40 then 1 else if x0 = 41 then 1 else if x0 = 60 then 1 else if x0 = 61 then 1 else 0) := if_neg c
        rw [e9] at hJ
        refine bz_iload_n (pc := 18) dX6_isSign_18 rfl rfl ?_
        refine bz_bipush (pc := 19) dX6_isSign_19 cb_47 ?_
        refine bz_icmp_eq (tgt := 48) (pc := 21) dX6_isSign_21 rfl (fun c => ?_) (fun c => ?_)
        · have e9 : ((if x0 = 47 then 1 else if x0 = 40 then 1 else if x0 = 41 then 1 else if x0 = 60 then 1 else if x0 = 61 then 1 else 0) : Int32) = (1) := if_pos c
          rw [e9] at hJ
          refine bz_iconst (pc := 48) dX6_isSign_48 ci_1 ?_
          refine bz_goto (tgt := 53) (pc := 49) dX6_isSign_49 rfl ?_
          exact hJ
        · have e9 : ((if x0 = 47 then 1 else if x0 = 40 then 1 else if x0 = 41 then 1 else if x0 = 60 then 1 else if x0 = 61 then 1 else 0) : Int32) = (if x0 = 40 then 1 else if x0 = 41 then 1 else if x0 = 60 then 1 else if x0 = 61 then 1 else 0) := if_neg c
          rw [e9] at hJ
          refine bz_iload_n (pc := 24) dX6_isSign_24 rfl rfl ?_
          refine bz_bipush (pc := 25) dX6_isSign_25 cb_40 ?_
          refine bz_icmp_eq (tgt := 48) (pc := 27) dX6_isSign_27 rfl (fun c => ?_) (fun c => ?_)
          · have e9 : ((if x0 = 40 then 1 else if x0 = 41 then 1 else if x0 = 60 then 1 else if x0 = 61 then 1 else 0) : Int32) = (1) := if_pos c
            rw [e9] at hJ
            refine bz_iconst (pc := 48) dX6_isSign_48 ci_1 ?_
            refine bz_goto (tgt := 53) (pc := 49) dX6_isSign_49 rfl ?_
            exact hJ
          · have e9 : ((if x0 = 40 then 1 else if x0 = 41 then 1 else if x0 = 60 then 1 else if x0 = 61 then 1 else 0) : Int32) = (if x0 = 41 then 1 else if x0 = 60 then 1 else if x0 = 61 then 1 else 0) := if_neg c
            rw [e9] at hJ
            refine bz_iload_n (pc := 30) dX6_isSign_30 rfl rfl ?_
            refine bz_bipush (pc := 31) dX6_isSign_31 cb_41 ?_
            refine bz_icmp_eq (tgt := 48) (pc := 33) dX6_isSign_33 rfl (fun c => ?_) (fun c => ?_)
            · have e9 : ((if x0 = 41 then 1 else if x0 = 60 then 1 else if x0 = 61 then 1 else 0) : Int32) = (1) := if_pos c
              rw [e9] at hJ
              refine bz_iconst (pc := 48) dX6_isSign_48 ci_1 ?_
              refine bz_goto (tgt := 53) (pc := 49) dX6_isSign_49 rfl ?_
              exact hJ
            · have e9 : ((if x0 = 41 then 1 else if x0 = 60 then 1 else if x0 = 61 then 1 else 0) : Int32) = (if x0 = 60 then 1 else if x0 = 61 then 1 else 0) := if_neg c
              rw [e9] at hJ
              refine bz_iload_n (pc := 36) dX6_isSign_36 rfl rfl ?_
              refine bz_bipush (pc := 37) dX6_isSign_37 cb_60 ?_
              refine bz_icmp_eq (tgt := 48) (pc := 39) dX6_isSign_39 rfl (fun c => ?_) (fun c => ?_)
              · have e9 : ((if x0 = 60 then 1 else if x0 = 61 then 1 else 0) : Int32) = (1) := if_pos c
                rw [e9] at hJ
                refine bz_iconst (pc := 48) dX6_isSign_48 ci_1 ?_
                refine bz_goto (tgt := 53) (pc := 49) dX6_isSign_49 rfl ?_
                exact hJ
              · have e9 : ((if x0 = 60 then 1 else if x0 = 61 then 1 else 0) : Int32) = (if x0 = 61 then 1 else 0) := if_neg c
                rw [e9] at hJ
                refine bz_iload_n (pc := 42) dX6_isSign_42 rfl rfl ?_
                refine bz_bipush (pc := 43) dX6_isSign_43 cb_61 ?_
                refine bz_icmp_ne (tgt := 52) (pc := 45) dX6_isSign_45 rfl (fun c => ?_) (fun c => ?_)
                · have e9 : ((if x0 = 61 then 1 else 0) : Int32) = (0) := if_neg c
                  rw [e9] at hJ
                  refine bz_iconst (pc := 52) dX6_isSign_52 ci_0 ?_
                  exact hJ
                · have e9 : ((if x0 = 61 then 1 else 0) : Int32) = (1) := if_pos c
                  rw [e9] at hJ
                  refine bz_iconst (pc := 48) dX6_isSign_48 ci_1 ?_
                  refine bz_goto (tgt := 53) (pc := 49) dX6_isSign_49 rfl ?_
                  exact hJ
theorem m_X6_isSign {G : bz_G} {l : Launch} {d mc ms : Nat} {F : Option bz_V → bz_H → Prop} (x0 : Int32) (h : bz_H) (hP : w_X6_isSign_0 G l d F x0 h) : bz_Call G l (d + 1) kX6_isSign [.inl x0] h mc ms F :=
  bz_body (by decide) (Nat.le_of_ble_eq_true rfl) (fun κ hl => g_X6_isSign_0 hl x0 h hP)
def w_X6_putStep_0 (G : bz_G) (l : Launch) (d : Nat) (F : Option bz_V → bz_H → Prop) (a0 : Nat) (x1 : Int32) (h : bz_H) : Prop := bz_rI h a0 6 3 (fun x_1 => (x_1 < 80 → bz_rR h a0 6 2 (fun r_2 => bz_rI h a0 6 3 (fun x_3 => bz_nn r_2 (fun a_4 => bz_wA h a_4 x_3 x1 (fun h_5 => bz_rI h_5 a0 6 3 (fun x_6 => bz_wI h_5 a0 6 3 (x_6 + 1) (fun h_7 => F (some (.inl 1)) h_7))))))) ∧ (¬ (x_1 < 80) → F (some (.inl 0)) h))
set_option maxRecDepth 20000 in
set_option maxHeartbeats 4000000 in
theorem g_X6_putStep_0 {G : bz_G} {κ : bz_K} {l : Launch} {d : Nat} {F : Option bz_V → bz_H → Prop} {bc bs : Nat} (hl : κ.2.1 = l) (a0 : Nat) (x1 : Int32) (h : bz_H) (hP0 : w_X6_putStep_0 G l d F a0 x1 h) : bz_J G κ kX6_putStep (d + 1) F bc bs 0 [some (.inr (some a0)), some (.inl x1)] [] h := by
  subst hl
  unfold w_X6_putStep_0 at hP0
  refine bz_aload_n (pc := 0) dX6_putStep_0 rfl rfl ?_
  refine bz_rw_rI (pc := 1) dX6_putStep_1 fl_X6_22 hP0 (fun x_1 hP1 => ?_)
  clear hP0
  refine bz_bipush (pc := 4) dX6_putStep_4 cb_80 ?_
  refine bz_icmp_lt (tgt := 11) (pc := 6) dX6_putStep_6 rfl (fun c => ?_) (fun c => ?_)
  · have hP2 := hP1.1 c
    clear hP1
    refine bz_aload_n (pc := 11) dX6_putStep_11 rfl rfl ?_
    refine bz_rw_rR (pc := 12) dX6_putStep_12 fl_X6_15 hP2 (fun r_2 hP3 => ?_)
    clear hP2
    refine bz_aload_n (pc := 15) dX6_putStep_15 rfl rfl ?_
    refine bz_rw_rI (pc := 16) dX6_putStep_16 fl_X6_22 hP3 (fun x_3 hP4 => ?_)
    clear hP3
    refine bz_iload_n (pc := 19) dX6_putStep_19 rfl rfl ?_
    obtain ⟨a_4, rfl, hP5⟩ := hP4
    refine bz_rw_wA (pc := 20) dX6_putStep_20 hP5 (fun h_5 hP6 => ?_)
    clear hP5
    refine bz_aload_n (pc := 21) dX6_putStep_21 rfl rfl ?_
    refine bz_dup (pc := 22) dX6_putStep_22 ?_
    refine bz_rw_rI (pc := 23) dX6_putStep_23 fl_X6_22 hP6 (fun x_6 hP7 => ?_)
    clear hP6
    refine bz_iconst (pc := 26) dX6_putStep_26 ci_1 ?_
    refine bz_iadd (pc := 27) dX6_putStep_27 ?_
    refine bz_rw_wI (pc := 28) dX6_putStep_28 fl_X6_22 (fun q h9 => by cases h9; rfl) rfl hP7 (fun h_7 hP8 => ?_)
    clear hP7
    refine bz_iconst (pc := 31) dX6_putStep_31 ci_1 ?_
    exact bz_retI (pc := 32) dX6_putStep_32 rfl rfl hP8
  · have hP9 := hP1.2 c
    clear hP1
    refine bz_iconst (pc := 9) dX6_putStep_9 ci_0 ?_
    exact bz_retI (pc := 10) dX6_putStep_10 rfl rfl hP9
theorem m_X6_putStep {G : bz_G} {l : Launch} {d mc ms : Nat} {F : Option bz_V → bz_H → Prop} (a0 : Nat) (x1 : Int32) (h : bz_H) (hP : w_X6_putStep_0 G l d F a0 x1 h) : bz_Call G l (d + 1) kX6_putStep [.inr (some a0), .inl x1] h mc ms F :=
  bz_body (by decide) (Nat.le_of_ble_eq_true rfl) (fun κ hl => g_X6_putStep_0 hl a0 x1 h hP)
def w_X6_readAll_0 (G : bz_G) (l : Launch) (d : Nat) (F : Option bz_V → bz_H → Prop) (a0 : Nat) (h : bz_H) : Prop := bz_wI h a0 6 3 0 (fun h_1 => bz_wI h_1 a0 6 6 0 (fun h_2 => bz_rc h_2 a0 6 (bz_cV G l d kX6_advance [.inr (some a0)] h_2 0 0 (fun h_4 => bz_rc h_4 a0 6 (bz_cI G l d kX6_readText [.inr (some a0), .inl 0] h_4 0 0 (fun x_5 h_6 => (x_5 = 0 → ((0 : Int32) = 0 → bz_rI h_6 a0 6 5 (fun x_7 => F (some (.inl x_7)) h_6)) ∧ (¬ ((0 : Int32) = 0) → F (some (.inl (-1))) h_6)) ∧ (¬ (x_5 = 0) → bz_rI h_6 a0 6 4 (fun x_8 => ((if x_8 = 0 then 1 else 0 : Int32) = 0 → bz_rI h_6 a0 6 5 (fun x_9 => F (some (.inl x_9)) h_6)) ∧ (¬ ((if x_8 = 0 then 1 else 0 : Int32) = 0) → F (some (.inl (-1))) h_6)))))))))
set_option maxRecDepth 20000 in
set_option maxHeartbeats 4000000 in
theorem g_X6_readAll_0 {G : bz_G} {κ : bz_K} {l : Launch} {d : Nat} {F : Option bz_V → bz_H → Prop} {bc bs : Nat} (hl : κ.2.1 = l) (a0 : Nat) (h : bz_H) (hP0 : w_X6_readAll_0 G l d F a0 h) : bz_J G κ kX6_readAll (d + 1) F bc bs 0 [some (.inr (some a0)), none] [] h := by
  subst hl
  unfold w_X6_readAll_0 at hP0
  refine bz_aload_n (pc := 0) dX6_readAll_0 rfl rfl ?_
  refine bz_iconst (pc := 1) dX6_readAll_1 ci_0 ?_
  refine bz_rw_wI (pc := 2) dX6_readAll_2 fl_X6_22 (fun q h9 => by cases h9; rfl) rfl hP0 (fun h_1 hP1 => ?_)
  clear hP0
  refine bz_aload_n (pc := 5) dX6_readAll_5 rfl rfl ?_
  refine bz_iconst (pc := 6) dX6_readAll_6 ci_0 ?_
  refine bz_rw_wI (pc := 7) dX6_readAll_7 fl_X6_25 (fun q h9 => by cases h9; rfl) rfl hP1 (fun h_2 hP2 => ?_)
  clear hP1
  refine bz_aload_n (pc := 10) dX6_readAll_10 rfl rfl ?_
  refine bz_kVV (as := []) (st := []) (ci := 6) (n := 0) (mc := 0) (ms := 0) (bc := bc) (bs := bs) (yc := kX6_advance) (q := (RX6, TX6, 8)) (b := a0) (pc := 11) dX6_readAll_11 sc_X6_advance ml_X6_28 im_X6_advance se_X6_advance rfl rfl rfl (Nat.le_of_ble_eq_true rfl) hP2 (fun h_4 hP3 => ?_)
  clear hP2
  refine bz_aload_n (pc := 14) dX6_readAll_14 rfl rfl ?_
  refine bz_iconst (pc := 15) dX6_readAll_15 ci_0 ?_
  refine bz_kIV (as := [.inl 0]) (st := []) (ci := 6) (n := 1) (mc := 0) (ms := 0) (bc := bc) (bs := bs) (yc := kX6_readText) (q := (RX6, TX6, 8)) (b := a0) (pc := 16) dX6_readAll_16 sc_X6_readText ml_X6_31 im_X6_readText se_X6_readText rfl rfl rfl (Nat.le_of_ble_eq_true rfl) hP3 (fun x_5 h_6 hP4 => ?_)
  clear hP3
  refine bz_if_eq (tgt := 33) (pc := 19) dX6_readAll_19 rfl (fun c => ?_) (fun c => ?_)
  · have hP5 := hP4.1 c
    clear hP4
    refine bz_iconst (pc := 33) dX6_readAll_33 ci_0 ?_
    refine bz_s_istore_n (pc := 34) dX6_readAll_34 rfl (Nat.le_of_ble_eq_true rfl) [some (.inr (some a0)), some (.inl 0)] rfl ?_
    refine bz_iload_n (pc := 35) dX6_readAll_35 rfl rfl ?_
    refine bz_if_eq (tgt := 43) (pc := 36) dX6_readAll_36 rfl (fun c => ?_) (fun c => ?_)
    · have hP6 := hP5.1 c
      clear hP5
      refine bz_aload_n (pc := 43) dX6_readAll_43 rfl rfl ?_
      refine bz_rw_rI (pc := 44) dX6_readAll_44 fl_X6_38 hP6 (fun x_7 hP7 => ?_)
      clear hP6
      exact bz_retI (pc := 47) dX6_readAll_47 rfl rfl hP7
    · have hP8 := hP5.2 c
      clear hP5
      refine bz_iconst (pc := 39) dX6_readAll_39 ci_m1 ?_
      refine bz_goto (tgt := 47) (pc := 40) dX6_readAll_40 rfl ?_
      exact bz_retI (pc := 47) dX6_readAll_47 rfl rfl hP8
  · have hP9 := hP4.2 c
    clear hP4
    refine bz_aload_n (pc := 22) dX6_readAll_22 rfl rfl ?_
    refine bz_rw_rI (pc := 23) dX6_readAll_23 fl_X6_35 hP9 (fun x_8 hP10 => ?_)
    clear hP9
    have hJ : bz_J G κ kX6_readAll (d + 1) F bc bs 34 [some (.inr (some a0)), none] [.inl (if x_8 = 0 then 1 else 0)] h_6 := by
      refine bz_s_istore_n (pc := 34) dX6_readAll_34 rfl (Nat.le_of_ble_eq_true rfl) [some (.inr (some a0)), some (.inl (if x_8 = 0 then 1 else 0))] rfl ?_
      refine bz_iload_n (pc := 35) dX6_readAll_35 rfl rfl ?_
      refine bz_if_eq (tgt := 43) (pc := 36) dX6_readAll_36 rfl (fun c => ?_) (fun c => ?_)
      · have hP11 := hP10.1 c
        clear hP10
        refine bz_aload_n (pc := 43) dX6_readAll_43 rfl rfl ?_
        refine bz_rw_rI (pc := 44) dX6_readAll_44 fl_X6_38 hP11 (fun x_9 hP12 => ?_)
        clear hP11
        exact bz_retI (pc := 47) dX6_readAll_47 rfl rfl hP12
      · have hP13 := hP10.2 c
        clear hP10
        refine bz_iconst (pc := 39) dX6_readAll_39 ci_m1 ?_
        refine bz_goto (tgt := 47) (pc := 40) dX6_readAll_40 rfl ?_
        exact bz_retI (pc := 47) dX6_readAll_47 rfl rfl hP13
    refine bz_if_ne (tgt := 33) (pc := 26) dX6_readAll_26 rfl (fun c => ?_) (fun c => ?_)
    · have e9 : ((if x_8 = 0 then 1 else 0) : Int32) = (0) := if_neg c
      rw [e9] at hJ
      refine bz_iconst (pc := 33) dX6_readAll_33 ci_0 ?_
      exact hJ
    · have e9 : ((if x_8 = 0 then 1 else 0) : Int32) = (1) := if_pos c
      rw [e9] at hJ
      refine bz_iconst (pc := 29) dX6_readAll_29 ci_1 ?_
      refine bz_goto (tgt := 34) (pc := 30) dX6_readAll_30 rfl ?_
      exact hJ
theorem m_X6_readAll {G : bz_G} {l : Launch} {d mc ms : Nat} {F : Option bz_V → bz_H → Prop} (a0 : Nat) (h : bz_H) (hP : w_X6_readAll_0 G l d F a0 h) : bz_Call G l (d + 1) kX6_readAll [.inr (some a0)] h mc ms F :=
  bz_body (by decide) (Nat.le_of_ble_eq_true rfl) (fun κ hl => g_X6_readAll_0 hl a0 h hP)
def w_X6_readOne_0 (G : bz_G) (κ : bz_K) (l : Launch) (d : Nat) (F : Option bz_V → bz_H → Prop) (bc bs : Nat) (a0 : Nat) (x1 : Int32) (h : bz_H) : Prop := bz_rI h a0 6 4 (fun x_1 => (x_1 = 2 → bz_rI h a0 6 7 (fun x_2 => bz_rc h a0 6 (bz_cI G l d kX6_putStep [.inr (some a0), .inl x_2] h 0 0 (fun x_3 h_4 => bz_rc h_4 a0 6 (bz_cV G l d kX6_advance [.inr (some a0)] h_4 0 0 (fun h_6 => F (some (.inl 1)) h_6)))))) ∧ (¬ (x_1 = 2) → (¬ x_1 = 3 → (x_1 = 45 → bz_J G κ kX6_readOne (d + 1) F bc bs 42 [some (.inr (some a0)), some (.inl x1), some (.inl x_1)] [] h) ∧ (¬ (x_1 = 45) → (¬ x_1 = 40 → F (some (.inl 0)) h) ∧ (x_1 = 40 → bz_J G κ kX6_readOne (d + 1) F bc bs 42 [some (.inr (some a0)), some (.inl x1), some (.inl x_1)] [] h))) ∧ (x_1 = 3 → bz_rI h a0 6 7 (fun x_7 => bz_rc h a0 6 (bz_cI G l d kX6_putStep [.inr (some a0), .inl x_7] h 0 0 (fun x_8 h_9 => bz_rc h_9 a0 6 (bz_cV G l d kX6_advance [.inr (some a0)] h_9 0 0 (fun h_11 => F (some (.inl 1)) h_11))))))))
set_option maxRecDepth 20000 in
set_option maxHeartbeats 4000000 in
theorem g_X6_readOne_0 {G : bz_G} {κ : bz_K} {l : Launch} {d : Nat} {F : Option bz_V → bz_H → Prop} {bc bs : Nat} (hl : κ.2.1 = l) (a0 : Nat) (x1 : Int32) (h : bz_H) (hP0 : w_X6_readOne_0 G κ l d F bc bs a0 x1 h) : bz_J G κ kX6_readOne (d + 1) F bc bs 0 [some (.inr (some a0)), some (.inl x1), none] [] h := by
  subst hl
  unfold w_X6_readOne_0 at hP0
  refine bz_aload_n (pc := 0) dX6_readOne_0 rfl rfl ?_
  refine bz_rw_rI (pc := 1) dX6_readOne_1 fl_X6_35 hP0 (fun x_1 hP1 => ?_)
  clear hP0
  refine bz_s_istore_n (pc := 4) dX6_readOne_4 rfl (Nat.le_of_ble_eq_true rfl) [some (.inr (some a0)), some (.inl x1), some (.inl x_1)] rfl ?_
  refine bz_iload_n (pc := 5) dX6_readOne_5 rfl rfl ?_
  refine bz_iconst (pc := 6) dX6_readOne_6 ci_2 ?_
  refine bz_icmp_eq (tgt := 15) (pc := 7) dX6_readOne_7 rfl (fun c => ?_) (fun c => ?_)
  · have hP2 := hP1.1 c
    clear hP1
    refine bz_aload_n (pc := 15) dX6_readOne_15 rfl rfl ?_
    refine bz_aload_n (pc := 16) dX6_readOne_16 rfl rfl ?_
    refine bz_rw_rI (pc := 17) dX6_readOne_17 fl_X6_53 hP2 (fun x_2 hP3 => ?_)
    clear hP2
    refine bz_kIV (as := [.inl x_2]) (st := []) (ci := 6) (n := 1) (mc := 0) (ms := 0) (bc := bc) (bs := bs) (yc := kX6_putStep) (q := (RX6, TX6, 8)) (b := a0) (pc := 20) dX6_readOne_20 sc_X6_putStep ml_X6_44 im_X6_putStep se_X6_putStep rfl rfl rfl (Nat.le_of_ble_eq_true rfl) hP3 (fun x_3 h_4 hP4 => ?_)
    clear hP3
    refine bz_pop (pc := 23) dX6_readOne_23 ?_
    refine bz_aload_n (pc := 24) dX6_readOne_24 rfl rfl ?_
    refine bz_kVV (as := []) (st := []) (ci := 6) (n := 0) (mc := 0) (ms := 0) (bc := bc) (bs := bs) (yc := kX6_advance) (q := (RX6, TX6, 8)) (b := a0) (pc := 25) dX6_readOne_25 sc_X6_advance ml_X6_28 im_X6_advance se_X6_advance rfl rfl rfl (Nat.le_of_ble_eq_true rfl) hP4 (fun h_6 hP5 => ?_)
    clear hP4
    refine bz_iconst (pc := 28) dX6_readOne_28 ci_1 ?_
    exact bz_retI (pc := 29) dX6_readOne_29 rfl rfl hP5
  · have hP6 := hP1.2 c
    clear hP1
    refine bz_iload_n (pc := 10) dX6_readOne_10 rfl rfl ?_
    refine bz_iconst (pc := 11) dX6_readOne_11 ci_3 ?_
    refine bz_icmp_ne (tgt := 30) (pc := 12) dX6_readOne_12 rfl (fun c => ?_) (fun c => ?_)
    · have hP7 := hP6.1 c
      clear hP6
      refine bz_iload_n (pc := 30) dX6_readOne_30 rfl rfl ?_
      refine bz_bipush (pc := 31) dX6_readOne_31 cb_45 ?_
      refine bz_icmp_eq (tgt := 42) (pc := 33) dX6_readOne_33 rfl (fun c => ?_) (fun c => ?_)
      · have hP8 := hP7.1 c
        clear hP7
        exact hP8
      · have hP9 := hP7.2 c
        clear hP7
        refine bz_iload_n (pc := 36) dX6_readOne_36 rfl rfl ?_
        refine bz_bipush (pc := 37) dX6_readOne_37 cb_40 ?_
        refine bz_icmp_ne (tgt := 48) (pc := 39) dX6_readOne_39 rfl (fun c => ?_) (fun c => ?_)
        · have hP10 := hP9.1 c
          clear hP9
          refine bz_iconst (pc := 48) dX6_readOne_48 ci_0 ?_
          exact bz_retI (pc := 49) dX6_readOne_49 rfl rfl hP10
        · have hP11 := hP9.2 c
          clear hP9
          exact hP11
    · have hP12 := hP6.2 c
      clear hP6
      refine bz_aload_n (pc := 15) dX6_readOne_15 rfl rfl ?_
      refine bz_aload_n (pc := 16) dX6_readOne_16 rfl rfl ?_
      refine bz_rw_rI (pc := 17) dX6_readOne_17 fl_X6_53 hP12 (fun x_7 hP13 => ?_)
      clear hP12
      refine bz_kIV (as := [.inl x_7]) (st := []) (ci := 6) (n := 1) (mc := 0) (ms := 0) (bc := bc) (bs := bs) (yc := kX6_putStep) (q := (RX6, TX6, 8)) (b := a0) (pc := 20) dX6_readOne_20 sc_X6_putStep ml_X6_44 im_X6_putStep se_X6_putStep rfl rfl rfl (Nat.le_of_ble_eq_true rfl) hP13 (fun x_8 h_9 hP14 => ?_)
      clear hP13
      refine bz_pop (pc := 23) dX6_readOne_23 ?_
      refine bz_aload_n (pc := 24) dX6_readOne_24 rfl rfl ?_
      refine bz_kVV (as := []) (st := []) (ci := 6) (n := 0) (mc := 0) (ms := 0) (bc := bc) (bs := bs) (yc := kX6_advance) (q := (RX6, TX6, 8)) (b := a0) (pc := 25) dX6_readOne_25 sc_X6_advance ml_X6_28 im_X6_advance se_X6_advance rfl rfl rfl (Nat.le_of_ble_eq_true rfl) hP14 (fun h_11 hP15 => ?_)
      clear hP14
      refine bz_iconst (pc := 28) dX6_readOne_28 ci_1 ?_
      exact bz_retI (pc := 29) dX6_readOne_29 rfl rfl hP15
def w_X6_readOne_42 (G : bz_G) (l : Launch) (d : Nat) (F : Option bz_V → bz_H → Prop) (a0 : Nat) (x1 : Int32) (x2 : Int32) (h : bz_H) : Prop := (x1 < 6 → bz_rc h a0 6 (bz_cV G l d kX6_advance [.inr (some a0)] h 0 0 (fun h_13 => (¬ x2 = 45 → bz_rc h_13 a0 6 (bz_cI G l d kX6_readText [.inr (some a0), .inl (x1 + 1)] h_13 0 0 (fun x_14 h_15 => (x_14 = 0 → F (some (.inl 0)) h_15) ∧ (¬ (x_14 = 0) → bz_rI h_15 a0 6 4 (fun x_16 => (x_16 = 41 → bz_rc h_15 a0 6 (bz_cV G l d kX6_advance [.inr (some a0)] h_15 0 0 (fun h_18 => F (some (.inl 1)) h_18))) ∧ (¬ (x_16 = 41) → F (some (.inl 0)) h_15)))))) ∧ (x2 = 45 → bz_rc h_13 a0 6 (bz_cI G l d kX6_readOne [.inr (some a0), .inl (x1 + 1)] h_13 0 0 (fun x_19 h_20 => (x_19 = 0 → F (some (.inl 0)) h_20) ∧ (¬ (x_19 = 0) → bz_rc h_20 a0 6 (bz_cI G l d kX6_putStep [.inr (some a0), .inl 10263] h_20 0 0 (fun x_21 h_22 => F (some (.inl (if x_21 = 0 then 0 else 1))) h_22))))))))) ∧ (¬ (x1 < 6) → F (some (.inl 0)) h)
set_option maxRecDepth 20000 in
set_option maxHeartbeats 4000000 in
theorem g_X6_readOne_42 {G : bz_G} {κ : bz_K} {l : Launch} {d : Nat} {F : Option bz_V → bz_H → Prop} {bc bs : Nat} (hl : κ.2.1 = l) (a0 : Nat) (x1 : Int32) (x2 : Int32) (h : bz_H) (hP0 : w_X6_readOne_42 G l d F a0 x1 x2 h) : bz_J G κ kX6_readOne (d + 1) F bc bs 42 [some (.inr (some a0)), some (.inl x1), some (.inl x2)] [] h := by
  subst hl
  unfold w_X6_readOne_42 at hP0
  refine bz_iload_n (pc := 42) dX6_readOne_42 rfl rfl ?_
  refine bz_bipush (pc := 43) dX6_readOne_43 cb_6 ?_
  refine bz_icmp_lt (tgt := 50) (pc := 45) dX6_readOne_45 rfl (fun c => ?_) (fun c => ?_)
  · have hP1 := hP0.1 c
    clear hP0
    refine bz_aload_n (pc := 50) dX6_readOne_50 rfl rfl ?_
    refine bz_kVV (as := []) (st := []) (ci := 6) (n := 0) (mc := 0) (ms := 0) (bc := bc) (bs := bs) (yc := kX6_advance) (q := (RX6, TX6, 8)) (b := a0) (pc := 51) dX6_readOne_51 sc_X6_advance ml_X6_28 im_X6_advance se_X6_advance rfl rfl rfl (Nat.le_of_ble_eq_true rfl) hP1 (fun h_13 hP2 => ?_)
    clear hP1
    refine bz_iload_n (pc := 54) dX6_readOne_54 rfl rfl ?_
    refine bz_bipush (pc := 55) dX6_readOne_55 cb_45 ?_
    refine bz_icmp_ne (tgt := 86) (pc := 57) dX6_readOne_57 rfl (fun c => ?_) (fun c => ?_)
    · have hP3 := hP2.1 c
      clear hP2
      refine bz_aload_n (pc := 86) dX6_readOne_86 rfl rfl ?_
      refine bz_iload_n (pc := 87) dX6_readOne_87 rfl rfl ?_
      refine bz_iconst (pc := 88) dX6_readOne_88 ci_1 ?_
      refine bz_iadd (pc := 89) dX6_readOne_89 ?_
      refine bz_kIV (as := [.inl (x1 + 1)]) (st := []) (ci := 6) (n := 1) (mc := 0) (ms := 0) (bc := bc) (bs := bs) (yc := kX6_readText) (q := (RX6, TX6, 8)) (b := a0) (pc := 90) dX6_readOne_90 sc_X6_readText ml_X6_31 im_X6_readText se_X6_readText rfl rfl rfl (Nat.le_of_ble_eq_true rfl) hP3 (fun x_14 h_15 hP4 => ?_)
      clear hP3
      refine bz_if_eq (tgt := 105) (pc := 93) dX6_readOne_93 rfl (fun c => ?_) (fun c => ?_)
      · have hP5 := hP4.1 c
        clear hP4
        refine bz_iconst (pc := 105) dX6_readOne_105 ci_0 ?_
        exact bz_retI (pc := 106) dX6_readOne_106 rfl rfl hP5
      · have hP6 := hP4.2 c
        clear hP4
        refine bz_aload_n (pc := 96) dX6_readOne_96 rfl rfl ?_
        refine bz_rw_rI (pc := 97) dX6_readOne_97 fl_X6_35 hP6 (fun x_16 hP7 => ?_)
        clear hP6
        refine bz_bipush (pc := 100) dX6_readOne_100 cb_41 ?_
        refine bz_icmp_eq (tgt := 107) (pc := 102) dX6_readOne_102 rfl (fun c => ?_) (fun c => ?_)
        · have hP8 := hP7.1 c
          clear hP7
          refine bz_aload_n (pc := 107) dX6_readOne_107 rfl rfl ?_
          refine bz_kVV (as := []) (st := []) (ci := 6) (n := 0) (mc := 0) (ms := 0) (bc := bc) (bs := bs) (yc := kX6_advance) (q := (RX6, TX6, 8)) (b := a0) (pc := 108) dX6_readOne_108 sc_X6_advance ml_X6_28 im_X6_advance se_X6_advance rfl rfl rfl (Nat.le_of_ble_eq_true rfl) hP8 (fun h_18 hP9 => ?_)
          clear hP8
          refine bz_iconst (pc := 111) dX6_readOne_111 ci_1 ?_
          exact bz_retI (pc := 112) dX6_readOne_112 rfl rfl hP9
        · have hP10 := hP7.2 c
          clear hP7
          refine bz_iconst (pc := 105) dX6_readOne_105 ci_0 ?_
          exact bz_retI (pc := 106) dX6_readOne_106 rfl rfl hP10
    · have hP11 := hP2.2 c
      clear hP2
      refine bz_aload_n (pc := 60) dX6_readOne_60 rfl rfl ?_
      refine bz_iload_n (pc := 61) dX6_readOne_61 rfl rfl ?_
      refine bz_iconst (pc := 62) dX6_readOne_62 ci_1 ?_
      refine bz_iadd (pc := 63) dX6_readOne_63 ?_
      refine bz_kIV (as := [.inl (x1 + 1)]) (st := []) (ci := 6) (n := 1) (mc := 0) (ms := 0) (bc := bc) (bs := bs) (yc := kX6_readOne) (q := (RX6, TX6, 8)) (b := a0) (pc := 64) dX6_readOne_64 sc_X6_readOne ml_X6_50 im_X6_readOne se_X6_readOne rfl rfl rfl (Nat.le_of_ble_eq_true rfl) hP11 (fun x_19 h_20 hP12 => ?_)
      clear hP11
      refine bz_if_eq (tgt := 84) (pc := 67) dX6_readOne_67 rfl (fun c => ?_) (fun c => ?_)
      · have hP13 := hP12.1 c
        clear hP12
        refine bz_iconst (pc := 84) dX6_readOne_84 ci_0 ?_
        exact bz_retI (pc := 85) dX6_readOne_85 rfl rfl hP13
      · have hP14 := hP12.2 c
        clear hP12
        refine bz_aload_n (pc := 70) dX6_readOne_70 rfl rfl ?_
        refine bz_sipush (pc := 71) dX6_readOne_71 cs_10263 ?_
        refine bz_kIV (as := [.inl 10263]) (st := []) (ci := 6) (n := 1) (mc := 0) (ms := 0) (bc := bc) (bs := bs) (yc := kX6_putStep) (q := (RX6, TX6, 8)) (b := a0) (pc := 74) dX6_readOne_74 sc_X6_putStep ml_X6_44 im_X6_putStep se_X6_putStep rfl rfl rfl (Nat.le_of_ble_eq_true rfl) hP14 (fun x_21 h_22 hP15 => ?_)
        clear hP14
        have hJ : bz_J G κ kX6_readOne (d + 1) F bc bs 85 [some (.inr (some a0)), some (.inl x1), some (.inl x2)] [.inl (if x_21 = 0 then 0 else 1)] h_22 := by
          exact bz_retI (pc := 85) dX6_readOne_85 rfl (by (repeat' split) <;> rfl) hP15
        refine bz_if_eq (tgt := 84) (pc := 77) dX6_readOne_77 rfl (fun c => ?_) (fun c => ?_)
        · have e9 : ((if x_21 = 0 then 0 else 1) : Int32) = (0) := if_pos c
          rw [e9] at hJ
          refine bz_iconst (pc := 84) dX6_readOne_84 ci_0 ?_
          exact hJ
        · have e9 : ((if x_21 = 0 then 0 else 1) : Int32) = (1) := if_neg c
          rw [e9] at hJ
          refine bz_iconst (pc := 80) dX6_readOne_80 ci_1 ?_
          refine bz_goto (tgt := 85) (pc := 81) dX6_readOne_81 rfl ?_
          exact hJ
  · have hP16 := hP0.2 c
    clear hP0
    refine bz_iconst (pc := 48) dX6_readOne_48 ci_0 ?_
    exact bz_retI (pc := 49) dX6_readOne_49 rfl rfl hP16
theorem m_X6_readOne {G : bz_G} {l : Launch} {d mc ms : Nat} {F : Option bz_V → bz_H → Prop} (a0 : Nat) (x1 : Int32) (h : bz_H) (hP : ∀ (κ : bz_K) (bc bs : Nat), κ.2.1 = l → w_X6_readOne_0 G κ l d F bc bs a0 x1 h) : bz_Call G l (d + 1) kX6_readOne [.inr (some a0), .inl x1] h mc ms F :=
  bz_body (by decide) (Nat.le_of_ble_eq_true rfl) (fun κ hl => g_X6_readOne_0 hl a0 x1 h (hP κ mc ms hl))
def w_X6_readSum_0 (G : bz_G) (κ : bz_K) (l : Launch) (d : Nat) (F : Option bz_V → bz_H → Prop) (bc bs : Nat) (a0 : Nat) (x1 : Int32) (h : bz_H) : Prop := bz_rc h a0 6 (bz_cI G l d kX6_readTerm [.inr (some a0), .inl x1] h 0 0 (fun x_1 h_2 => bz_J G κ kX6_readSum (d + 1) F bc bs 8 [some (.inr (some a0)), some (.inl x1), some (.inl x_1), some (.inl 0), none] [] h_2))
set_option maxRecDepth 20000 in
set_option maxHeartbeats 4000000 in
theorem g_X6_readSum_0 {G : bz_G} {κ : bz_K} {l : Launch} {d : Nat} {F : Option bz_V → bz_H → Prop} {bc bs : Nat} (hl : κ.2.1 = l) (a0 : Nat) (x1 : Int32) (h : bz_H) (hP0 : w_X6_readSum_0 G κ l d F bc bs a0 x1 h) : bz_J G κ kX6_readSum (d + 1) F bc bs 0 [some (.inr (some a0)), some (.inl x1), none, none, none] [] h := by
  subst hl
  unfold w_X6_readSum_0 at hP0
  refine bz_aload_n (pc := 0) dX6_readSum_0 rfl rfl ?_
  refine bz_iload_n (pc := 1) dX6_readSum_1 rfl rfl ?_
  refine bz_kIV (as := [.inl x1]) (st := []) (ci := 6) (n := 1) (mc := 0) (ms := 0) (bc := bc) (bs := bs) (yc := kX6_readTerm) (q := (RX6, TX6, 8)) (b := a0) (pc := 2) dX6_readSum_2 sc_X6_readTerm ml_X6_47 im_X6_readTerm se_X6_readTerm rfl rfl rfl (Nat.le_of_ble_eq_true rfl) hP0 (fun x_1 h_2 hP1 => ?_)
  clear hP0
  refine bz_s_istore_n (pc := 5) dX6_readSum_5 rfl (Nat.le_of_ble_eq_true rfl) [some (.inr (some a0)), some (.inl x1), some (.inl x_1), none, none] rfl ?_
  refine bz_iconst (pc := 6) dX6_readSum_6 ci_0 ?_
  refine bz_s_istore_n (pc := 7) dX6_readSum_7 rfl (Nat.le_of_ble_eq_true rfl) [some (.inr (some a0)), some (.inl x1), some (.inl x_1), some (.inl 0), none] rfl ?_
  exact hP1
def w_X6_readSum_8 (G : bz_G) (κ : bz_K) (l : Launch) (d : Nat) (F : Option bz_V → bz_H → Prop) (bc bs : Nat) (a0 : Nat) (x1 : Int32) (x2 : Int32) (x3 : Int32) (u4 : Option bz_V) (h : bz_H) : Prop := (80 ≤ x3 → bz_b x2 (F (some (.inl x2)) h)) ∧ (¬ (80 ≤ x3) → (x2 = 0 → bz_b x2 (F (some (.inl x2)) h)) ∧ (¬ (x2 = 0) → bz_rI h a0 6 4 (fun x_3 => (x_3 = 43 → bz_rI h a0 6 4 (fun x_4 => bz_rc h a0 6 (bz_cV G l d kX6_advance [.inr (some a0)] h 0 0 (fun h_6 => bz_rc h_6 a0 6 (bz_cI G l d kX6_readTerm [.inr (some a0), .inl x1] h_6 0 0 (fun x_7 h_8 => (x_7 = 0 → bz_J G κ kX6_readSum (d + 1) F bc bs 8 [some (.inr (some a0)), some (.inl x1), some (.inl 0), some (.inl (x3 + 1)), some (.inl x_4)] [] h_8) ∧ (¬ (x_7 = 0) → bz_rc h_8 a0 6 (bz_cI G l d kX6_putStep [.inr (some a0), .inl (10007 + x_4)] h_8 0 0 (fun x_9 h_10 => bz_J G κ kX6_readSum (d + 1) F bc bs 8 [some (.inr (some a0)), some (.inl x1), some (.inl (if x_9 = 0 then 0 else 1)), some (.inl (x3 + 1)), some (.inl x_4)] [] h_10))))))))) ∧ (¬ (x_3 = 43) → bz_rI h a0 6 4 (fun x_11 => (¬ x_11 = 45 → bz_b x2 (F (some (.inl x2)) h)) ∧ (x_11 = 45 → bz_rI h a0 6 4 (fun x_12 => bz_rc h a0 6 (bz_cV G l d kX6_advance [.inr (some a0)] h 0 0 (fun h_14 => bz_rc h_14 a0 6 (bz_cI G l d kX6_readTerm [.inr (some a0), .inl x1] h_14 0 0 (fun x_15 h_16 => (x_15 = 0 → bz_J G κ kX6_readSum (d + 1) F bc bs 8 [some (.inr (some a0)), some (.inl x1), some (.inl 0), some (.inl (x3 + 1)), some (.inl x_12)] [] h_16) ∧ (¬ (x_15 = 0) → bz_rc h_16 a0 6 (bz_cI G l d kX6_putStep [.inr (some a0), .inl (10007 + x_12)] h_16 0 0 (fun x_17 h_18 => bz_J G κ kX6_readSum (d + 1) F bc bs 8 [some (.inr (some a0)), some (.inl x1), some (.inl (if x_17 = 0 then 0 else 1)), some (.inl (x3 + 1)), some (.inl x_12)] [] h_18))))))))))))))
set_option maxRecDepth 20000 in
set_option maxHeartbeats 4000000 in
theorem g_X6_readSum_8 {G : bz_G} {κ : bz_K} {l : Launch} {d : Nat} {F : Option bz_V → bz_H → Prop} {bc bs : Nat} (hl : κ.2.1 = l) (a0 : Nat) (x1 : Int32) (x2 : Int32) (x3 : Int32) (u4 : Option bz_V) (h : bz_H) (hP0 : w_X6_readSum_8 G κ l d F bc bs a0 x1 x2 x3 u4 h) : bz_J G κ kX6_readSum (d + 1) F bc bs 8 [some (.inr (some a0)), some (.inl x1), some (.inl x2), some (.inl x3), u4] [] h := by
  subst hl
  unfold w_X6_readSum_8 at hP0
  refine bz_iload_n (pc := 8) dX6_readSum_8 rfl rfl ?_
  refine bz_bipush (pc := 9) dX6_readSum_9 cb_80 ?_
  refine bz_icmp_ge (tgt := 79) (pc := 11) dX6_readSum_11 rfl (fun c => ?_) (fun c => ?_)
  · have hP1 := hP0.1 c
    clear hP0
    refine bz_iload_n (pc := 79) dX6_readSum_79 rfl rfl ?_
    obtain ⟨hb, hP2⟩ := hP1
    exact bz_retI (pc := 80) dX6_readSum_80 rfl (by rcases hb with hb | hb <;> rw [hb] <;> rfl) hP2
  · have hP3 := hP0.2 c
    clear hP0
    refine bz_iload_n (pc := 14) dX6_readSum_14 rfl rfl ?_
    refine bz_if_eq (tgt := 79) (pc := 15) dX6_readSum_15 rfl (fun c => ?_) (fun c => ?_)
    · have hP4 := hP3.1 c
      clear hP3
      refine bz_iload_n (pc := 79) dX6_readSum_79 rfl rfl ?_
      obtain ⟨hb, hP5⟩ := hP4
      exact bz_retI (pc := 80) dX6_readSum_80 rfl (by rcases hb with hb | hb <;> rw [hb] <;> rfl) hP5
    · have hP6 := hP3.2 c
      clear hP3
      refine bz_aload_n (pc := 18) dX6_readSum_18 rfl rfl ?_
      refine bz_rw_rI (pc := 19) dX6_readSum_19 fl_X6_35 hP6 (fun x_3 hP7 => ?_)
      clear hP6
      refine bz_bipush (pc := 22) dX6_readSum_22 cb_43 ?_
      refine bz_icmp_eq (tgt := 36) (pc := 24) dX6_readSum_24 rfl (fun c => ?_) (fun c => ?_)
      · have hP8 := hP7.1 c
        clear hP7
        refine bz_aload_n (pc := 36) dX6_readSum_36 rfl rfl ?_
        refine bz_rw_rI (pc := 37) dX6_readSum_37 fl_X6_35 hP8 (fun x_4 hP9 => ?_)
        clear hP8
        refine bz_s_istore (pc := 40) dX6_readSum_40 (Nat.le_of_ble_eq_true rfl) [some (.inr (some a0)), some (.inl x1), some (.inl x2), some (.inl x3), some (.inl x_4)] rfl ?_
        refine bz_aload_n (pc := 42) dX6_readSum_42 rfl rfl ?_
        refine bz_kVV (as := []) (st := []) (ci := 6) (n := 0) (mc := 0) (ms := 0) (bc := bc) (bs := bs) (yc := kX6_advance) (q := (RX6, TX6, 8)) (b := a0) (pc := 43) dX6_readSum_43 sc_X6_advance ml_X6_28 im_X6_advance se_X6_advance rfl rfl rfl (Nat.le_of_ble_eq_true rfl) hP9 (fun h_6 hP10 => ?_)
        clear hP9
        refine bz_aload_n (pc := 46) dX6_readSum_46 rfl rfl ?_
        refine bz_iload_n (pc := 47) dX6_readSum_47 rfl rfl ?_
        refine bz_kIV (as := [.inl x1]) (st := []) (ci := 6) (n := 1) (mc := 0) (ms := 0) (bc := bc) (bs := bs) (yc := kX6_readTerm) (q := (RX6, TX6, 8)) (b := a0) (pc := 48) dX6_readSum_48 sc_X6_readTerm ml_X6_47 im_X6_readTerm se_X6_readTerm rfl rfl rfl (Nat.le_of_ble_eq_true rfl) hP10 (fun x_7 h_8 hP11 => ?_)
        clear hP10
        refine bz_if_eq (tgt := 71) (pc := 51) dX6_readSum_51 rfl (fun c => ?_) (fun c => ?_)
        · have hP12 := hP11.1 c
          clear hP11
          refine bz_iconst (pc := 71) dX6_readSum_71 ci_0 ?_
          refine bz_s_istore_n (pc := 72) dX6_readSum_72 rfl (Nat.le_of_ble_eq_true rfl) [some (.inr (some a0)), some (.inl x1), some (.inl 0), some (.inl x3), some (.inl x_4)] rfl ?_
          refine bz_s_iinc (pc := 73) dX6_readSum_73 (Nat.le_of_ble_eq_true rfl) rfl rfl [some (.inr (some a0)), some (.inl x1), some (.inl 0), some (.inl (x3 + 1)), some (.inl x_4)] rfl ?_
          refine bz_goto (tgt := 8) (pc := 76) dX6_readSum_76 rfl ?_
          exact hP12
        · have hP13 := hP11.2 c
          clear hP11
          refine bz_aload_n (pc := 54) dX6_readSum_54 rfl rfl ?_
          refine bz_sipush (pc := 55) dX6_readSum_55 cs_10007 ?_
          refine bz_iload (pc := 58) dX6_readSum_58 rfl ?_
          refine bz_iadd (pc := 60) dX6_readSum_60 ?_
          refine bz_kIV (as := [.inl (10007 + x_4)]) (st := []) (ci := 6) (n := 1) (mc := 0) (ms := 0) (bc := bc) (bs := bs) (yc := kX6_putStep) (q := (RX6, TX6, 8)) (b := a0) (pc := 61) dX6_readSum_61 sc_X6_putStep ml_X6_44 im_X6_putStep se_X6_putStep rfl rfl rfl (Nat.le_of_ble_eq_true rfl) hP13 (fun x_9 h_10 hP14 => ?_)
          clear hP13
          have hJ : bz_J G κ kX6_readSum (d + 1) F bc bs 72 [some (.inr (some a0)), some (.inl x1), some (.inl x2), some (.inl x3), some (.inl x_4)] [.inl (if x_9 = 0 then 0 else 1)] h_10 := by
            refine bz_s_istore_n (pc := 72) dX6_readSum_72 rfl (Nat.le_of_ble_eq_true rfl) [some (.inr (some a0)), some (.inl x1), some (.inl (if x_9 = 0 then 0 else 1)), some (.inl x3), some (.inl x_4)] rfl ?_
            refine bz_s_iinc (pc := 73) dX6_readSum_73 (Nat.le_of_ble_eq_true rfl) rfl rfl [some (.inr (some a0)), some (.inl x1), some (.inl (if x_9 = 0 then 0 else 1)), some (.inl (x3 + 1)), some (.inl x_4)] rfl ?_
            refine bz_goto (tgt := 8) (pc := 76) dX6_readSum_76 rfl ?_
            exact hP14
          refine bz_if_eq (tgt := 71) (pc := 64) dX6_readSum_64 rfl (fun c => ?_) (fun c => ?_)
          · have e9 : ((if x_9 = 0 then 0 else 1) : Int32) = (0) := if_pos c
            rw [e9] at hJ
            refine bz_iconst (pc := 71) dX6_readSum_71 ci_0 ?_
            exact hJ
          · have e9 : ((if x_9 = 0 then 0 else 1) : Int32) = (1) := if_neg c
            rw [e9] at hJ
            refine bz_iconst (pc := 67) dX6_readSum_67 ci_1 ?_
            refine bz_goto (tgt := 72) (pc := 68) dX6_readSum_68 rfl ?_
            exact hJ
      · have hP15 := hP7.2 c
        clear hP7
        refine bz_aload_n (pc := 27) dX6_readSum_27 rfl rfl ?_
        refine bz_rw_rI (pc := 28) dX6_readSum_28 fl_X6_35 hP15 (fun x_11 hP16 => ?_)
        clear hP15
        refine bz_bipush (pc := 31) dX6_readSum_31 cb_45 ?_
        refine bz_icmp_ne (tgt := 79) (pc := 33) dX6_readSum_33 rfl (fun c => ?_) (fun c => ?_)
        · have hP17 := hP16.1 c
          clear hP16
          refine bz_iload_n (pc := 79) dX6_readSum_79 rfl rfl ?_
          obtain ⟨hb, hP18⟩ := hP17
          exact bz_retI (pc := 80) dX6_readSum_80 rfl (by rcases hb with hb | hb <;> rw [hb] <;> rfl) hP18
        · have hP19 := hP16.2 c
          clear hP16
          refine bz_aload_n (pc := 36) dX6_readSum_36 rfl rfl ?_
          refine bz_rw_rI (pc := 37) dX6_readSum_37 fl_X6_35 hP19 (fun x_12 hP20 => ?_)
          clear hP19
          refine bz_s_istore (pc := 40) dX6_readSum_40 (Nat.le_of_ble_eq_true rfl) [some (.inr (some a0)), some (.inl x1), some (.inl x2), some (.inl x3), some (.inl x_12)] rfl ?_
          refine bz_aload_n (pc := 42) dX6_readSum_42 rfl rfl ?_
          refine bz_kVV (as := []) (st := []) (ci := 6) (n := 0) (mc := 0) (ms := 0) (bc := bc) (bs := bs) (yc := kX6_advance) (q := (RX6, TX6, 8)) (b := a0) (pc := 43) dX6_readSum_43 sc_X6_advance ml_X6_28 im_X6_advance se_X6_advance rfl rfl rfl (Nat.le_of_ble_eq_true rfl) hP20 (fun h_14 hP21 => ?_)
          clear hP20
          refine bz_aload_n (pc := 46) dX6_readSum_46 rfl rfl ?_
          refine bz_iload_n (pc := 47) dX6_readSum_47 rfl rfl ?_
          refine bz_kIV (as := [.inl x1]) (st := []) (ci := 6) (n := 1) (mc := 0) (ms := 0) (bc := bc) (bs := bs) (yc := kX6_readTerm) (q := (RX6, TX6, 8)) (b := a0) (pc := 48) dX6_readSum_48 sc_X6_readTerm ml_X6_47 im_X6_readTerm se_X6_readTerm rfl rfl rfl (Nat.le_of_ble_eq_true rfl) hP21 (fun x_15 h_16 hP22 => ?_)
          clear hP21
          refine bz_if_eq (tgt := 71) (pc := 51) dX6_readSum_51 rfl (fun c => ?_) (fun c => ?_)
          · have hP23 := hP22.1 c
            clear hP22
            refine bz_iconst (pc := 71) dX6_readSum_71 ci_0 ?_
            refine bz_s_istore_n (pc := 72) dX6_readSum_72 rfl (Nat.le_of_ble_eq_true rfl) [some (.inr (some a0)), some (.inl x1), some (.inl 0), some (.inl x3), some (.inl x_12)] rfl ?_
            refine bz_s_iinc (pc := 73) dX6_readSum_73 (Nat.le_of_ble_eq_true rfl) rfl rfl [some (.inr (some a0)), some (.inl x1), some (.inl 0), some (.inl (x3 + 1)), some (.inl x_12)] rfl ?_
            refine bz_goto (tgt := 8) (pc := 76) dX6_readSum_76 rfl ?_
            exact hP23
          · have hP24 := hP22.2 c
            clear hP22
            refine bz_aload_n (pc := 54) dX6_readSum_54 rfl rfl ?_
            refine bz_sipush (pc := 55) dX6_readSum_55 cs_10007 ?_
            refine bz_iload (pc := 58) dX6_readSum_58 rfl ?_
            refine bz_iadd (pc := 60) dX6_readSum_60 ?_
            refine bz_kIV (as := [.inl (10007 + x_12)]) (st := []) (ci := 6) (n := 1) (mc := 0) (ms := 0) (bc := bc) (bs := bs) (yc := kX6_putStep) (q := (RX6, TX6, 8)) (b := a0) (pc := 61) dX6_readSum_61 sc_X6_putStep ml_X6_44 im_X6_putStep se_X6_putStep rfl rfl rfl (Nat.le_of_ble_eq_true rfl) hP24 (fun x_17 h_18 hP25 => ?_)
            clear hP24
            have hJ : bz_J G κ kX6_readSum (d + 1) F bc bs 72 [some (.inr (some a0)), some (.inl x1), some (.inl x2), some (.inl x3), some (.inl x_12)] [.inl (if x_17 = 0 then 0 else 1)] h_18 := by
              refine bz_s_istore_n (pc := 72) dX6_readSum_72 rfl (Nat.le_of_ble_eq_true rfl) [some (.inr (some a0)), some (.inl x1), some (.inl (if x_17 = 0 then 0 else 1)), some (.inl x3), some (.inl x_12)] rfl ?_
              refine bz_s_iinc (pc := 73) dX6_readSum_73 (Nat.le_of_ble_eq_true rfl) rfl rfl [some (.inr (some a0)), some (.inl x1), some (.inl (if x_17 = 0 then 0 else 1)), some (.inl (x3 + 1)), some (.inl x_12)] rfl ?_
              refine bz_goto (tgt := 8) (pc := 76) dX6_readSum_76 rfl ?_
              exact hP25
            refine bz_if_eq (tgt := 71) (pc := 64) dX6_readSum_64 rfl (fun c => ?_) (fun c => ?_)
            · have e9 : ((if x_17 = 0 then 0 else 1) : Int32) = (0) := if_pos c
              rw [e9] at hJ
              refine bz_iconst (pc := 71) dX6_readSum_71 ci_0 ?_
              exact hJ
            · have e9 : ((if x_17 = 0 then 0 else 1) : Int32) = (1) := if_neg c
              rw [e9] at hJ
              refine bz_iconst (pc := 67) dX6_readSum_67 ci_1 ?_
              refine bz_goto (tgt := 72) (pc := 68) dX6_readSum_68 rfl ?_
              exact hJ
theorem m_X6_readSum {G : bz_G} {l : Launch} {d mc ms : Nat} {F : Option bz_V → bz_H → Prop} (a0 : Nat) (x1 : Int32) (h : bz_H) (hP : ∀ (κ : bz_K) (bc bs : Nat), κ.2.1 = l → w_X6_readSum_0 G κ l d F bc bs a0 x1 h) : bz_Call G l (d + 1) kX6_readSum [.inr (some a0), .inl x1] h mc ms F :=
  bz_body (by decide) (Nat.le_of_ble_eq_true rfl) (fun κ hl => g_X6_readSum_0 hl a0 x1 h (hP κ mc ms hl))
def w_X6_readTerm_0 (G : bz_G) (κ : bz_K) (l : Launch) (d : Nat) (F : Option bz_V → bz_H → Prop) (bc bs : Nat) (a0 : Nat) (x1 : Int32) (h : bz_H) : Prop := bz_rc h a0 6 (bz_cI G l d kX6_readOne [.inr (some a0), .inl x1] h 0 0 (fun x_1 h_2 => bz_J G κ kX6_readTerm (d + 1) F bc bs 8 [some (.inr (some a0)), some (.inl x1), some (.inl x_1), some (.inl 0), none] [] h_2))
set_option maxRecDepth 20000 in
set_option maxHeartbeats 4000000 in
theorem g_X6_readTerm_0 {G : bz_G} {κ : bz_K} {l : Launch} {d : Nat} {F : Option bz_V → bz_H → Prop} {bc bs : Nat} (hl : κ.2.1 = l) (a0 : Nat) (x1 : Int32) (h : bz_H) (hP0 : w_X6_readTerm_0 G κ l d F bc bs a0 x1 h) : bz_J G κ kX6_readTerm (d + 1) F bc bs 0 [some (.inr (some a0)), some (.inl x1), none, none, none] [] h := by
  subst hl
  unfold w_X6_readTerm_0 at hP0
  refine bz_aload_n (pc := 0) dX6_readTerm_0 rfl rfl ?_
  refine bz_iload_n (pc := 1) dX6_readTerm_1 rfl rfl ?_
  refine bz_kIV (as := [.inl x1]) (st := []) (ci := 6) (n := 1) (mc := 0) (ms := 0) (bc := bc) (bs := bs) (yc := kX6_readOne) (q := (RX6, TX6, 8)) (b := a0) (pc := 2) dX6_readTerm_2 sc_X6_readOne ml_X6_50 im_X6_readOne se_X6_readOne rfl rfl rfl (Nat.le_of_ble_eq_true rfl) hP0 (fun x_1 h_2 hP1 => ?_)
  clear hP0
  refine bz_s_istore_n (pc := 5) dX6_readTerm_5 rfl (Nat.le_of_ble_eq_true rfl) [some (.inr (some a0)), some (.inl x1), some (.inl x_1), none, none] rfl ?_
  refine bz_iconst (pc := 6) dX6_readTerm_6 ci_0 ?_
  refine bz_s_istore_n (pc := 7) dX6_readTerm_7 rfl (Nat.le_of_ble_eq_true rfl) [some (.inr (some a0)), some (.inl x1), some (.inl x_1), some (.inl 0), none] rfl ?_
  exact hP1
def w_X6_readTerm_8 (G : bz_G) (κ : bz_K) (l : Launch) (d : Nat) (F : Option bz_V → bz_H → Prop) (bc bs : Nat) (a0 : Nat) (x1 : Int32) (x2 : Int32) (x3 : Int32) (u4 : Option bz_V) (h : bz_H) : Prop := (80 ≤ x3 → bz_b x2 (F (some (.inl x2)) h)) ∧ (¬ (80 ≤ x3) → (x2 = 0 → bz_b x2 (F (some (.inl x2)) h)) ∧ (¬ (x2 = 0) → bz_rI h a0 6 4 (fun x_3 => (x_3 = 42 → bz_rI h a0 6 4 (fun x_4 => bz_rc h a0 6 (bz_cV G l d kX6_advance [.inr (some a0)] h 0 0 (fun h_6 => bz_rc h_6 a0 6 (bz_cI G l d kX6_readOne [.inr (some a0), .inl x1] h_6 0 0 (fun x_7 h_8 => (x_7 = 0 → bz_J G κ kX6_readTerm (d + 1) F bc bs 8 [some (.inr (some a0)), some (.inl x1), some (.inl 0), some (.inl (x3 + 1)), some (.inl x_4)] [] h_8) ∧ (¬ (x_7 = 0) → bz_rc h_8 a0 6 (bz_cI G l d kX6_putStep [.inr (some a0), .inl (10007 + x_4)] h_8 0 0 (fun x_9 h_10 => bz_J G κ kX6_readTerm (d + 1) F bc bs 8 [some (.inr (some a0)), some (.inl x1), some (.inl (if x_9 = 0 then 0 else 1)), some (.inl (x3 + 1)), some (.inl x_4)] [] h_10))))))))) ∧ (¬ (x_3 = 42) → bz_rI h a0 6 4 (fun x_11 => (¬ x_11 = 47 → bz_b x2 (F (some (.inl x2)) h)) ∧ (x_11 = 47 → bz_rI h a0 6 4 (fun x_12 => bz_rc h a0 6 (bz_cV G l d kX6_advance [.inr (some a0)] h 0 0 (fun h_14 => bz_rc h_14 a0 6 (bz_cI G l d kX6_readOne [.inr (some a0), .inl x1] h_14 0 0 (fun x_15 h_16 => (x_15 = 0 → bz_J G κ kX6_readTerm (d + 1) F bc bs 8 [some (.inr (some a0)), some (.inl x1), some (.inl 0), some (.inl (x3 + 1)), some (.inl x_12)] [] h_16) ∧ (¬ (x_15 = 0) → bz_rc h_16 a0 6 (bz_cI G l d kX6_putStep [.inr (some a0), .inl (10007 + x_12)] h_16 0 0 (fun x_17 h_18 => bz_J G κ kX6_readTerm (d + 1) F bc bs 8 [some (.inr (some a0)), some (.inl x1), some (.inl (if x_17 = 0 then 0 else 1)), some (.inl (x3 + 1)), some (.inl x_12)] [] h_18))))))))))))))
set_option maxRecDepth 20000 in
set_option maxHeartbeats 4000000 in
theorem g_X6_readTerm_8 {G : bz_G} {κ : bz_K} {l : Launch} {d : Nat} {F : Option bz_V → bz_H → Prop} {bc bs : Nat} (hl : κ.2.1 = l) (a0 : Nat) (x1 : Int32) (x2 : Int32) (x3 : Int32) (u4 : Option bz_V) (h : bz_H) (hP0 : w_X6_readTerm_8 G κ l d F bc bs a0 x1 x2 x3 u4 h) : bz_J G κ kX6_readTerm (d + 1) F bc bs 8 [some (.inr (some a0)), some (.inl x1), some (.inl x2), some (.inl x3), u4] [] h := by
  subst hl
  unfold w_X6_readTerm_8 at hP0
  refine bz_iload_n (pc := 8) dX6_readTerm_8 rfl rfl ?_
  refine bz_bipush (pc := 9) dX6_readTerm_9 cb_80 ?_
  refine bz_icmp_ge (tgt := 79) (pc := 11) dX6_readTerm_11 rfl (fun c => ?_) (fun c => ?_)
  · have hP1 := hP0.1 c
    clear hP0
    refine bz_iload_n (pc := 79) dX6_readTerm_79 rfl rfl ?_
    obtain ⟨hb, hP2⟩ := hP1
    exact bz_retI (pc := 80) dX6_readTerm_80 rfl (by rcases hb with hb | hb <;> rw [hb] <;> rfl) hP2
  · have hP3 := hP0.2 c
    clear hP0
    refine bz_iload_n (pc := 14) dX6_readTerm_14 rfl rfl ?_
    refine bz_if_eq (tgt := 79) (pc := 15) dX6_readTerm_15 rfl (fun c => ?_) (fun c => ?_)
    · have hP4 := hP3.1 c
      clear hP3
      refine bz_iload_n (pc := 79) dX6_readTerm_79 rfl rfl ?_
      obtain ⟨hb, hP5⟩ := hP4
      exact bz_retI (pc := 80) dX6_readTerm_80 rfl (by rcases hb with hb | hb <;> rw [hb] <;> rfl) hP5
    · have hP6 := hP3.2 c
      clear hP3
      refine bz_aload_n (pc := 18) dX6_readTerm_18 rfl rfl ?_
      refine bz_rw_rI (pc := 19) dX6_readTerm_19 fl_X6_35 hP6 (fun x_3 hP7 => ?_)
      clear hP6
      refine bz_bipush (pc := 22) dX6_readTerm_22 cb_42 ?_
      refine bz_icmp_eq (tgt := 36) (pc := 24) dX6_readTerm_24 rfl (fun c => ?_) (fun c => ?_)
      · have hP8 := hP7.1 c
        clear hP7
        refine bz_aload_n (pc := 36) dX6_readTerm_36 rfl rfl ?_
        refine bz_rw_rI (pc := 37) dX6_readTerm_37 fl_X6_35 hP8 (fun x_4 hP9 => ?_)
        clear hP8
        refine bz_s_istore (pc := 40) dX6_readTerm_40 (Nat.le_of_ble_eq_true rfl) [some (.inr (some a0)), some (.inl x1), some (.inl x2), some (.inl x3), some (.inl x_4)] rfl ?_
        refine bz_aload_n (pc := 42) dX6_readTerm_42 rfl rfl ?_
        refine bz_kVV (as := []) (st := []) (ci := 6) (n := 0) (mc := 0) (ms := 0) (bc := bc) (bs := bs) (yc := kX6_advance) (q := (RX6, TX6, 8)) (b := a0) (pc := 43) dX6_readTerm_43 sc_X6_advance ml_X6_28 im_X6_advance se_X6_advance rfl rfl rfl (Nat.le_of_ble_eq_true rfl) hP9 (fun h_6 hP10 => ?_)
        clear hP9
        refine bz_aload_n (pc := 46) dX6_readTerm_46 rfl rfl ?_
        refine bz_iload_n (pc := 47) dX6_readTerm_47 rfl rfl ?_
        refine bz_kIV (as := [.inl x1]) (st := []) (ci := 6) (n := 1) (mc := 0) (ms := 0) (bc := bc) (bs := bs) (yc := kX6_readOne) (q := (RX6, TX6, 8)) (b := a0) (pc := 48) dX6_readTerm_48 sc_X6_readOne ml_X6_50 im_X6_readOne se_X6_readOne rfl rfl rfl (Nat.le_of_ble_eq_true rfl) hP10 (fun x_7 h_8 hP11 => ?_)
        clear hP10
        refine bz_if_eq (tgt := 71) (pc := 51) dX6_readTerm_51 rfl (fun c => ?_) (fun c => ?_)
        · have hP12 := hP11.1 c
          clear hP11
          refine bz_iconst (pc := 71) dX6_readTerm_71 ci_0 ?_
          refine bz_s_istore_n (pc := 72) dX6_readTerm_72 rfl (Nat.le_of_ble_eq_true rfl) [some (.inr (some a0)), some (.inl x1), some (.inl 0), some (.inl x3), some (.inl x_4)] rfl ?_
          refine bz_s_iinc (pc := 73) dX6_readTerm_73 (Nat.le_of_ble_eq_true rfl) rfl rfl [some (.inr (some a0)), some (.inl x1), some (.inl 0), some (.inl (x3 + 1)), some (.inl x_4)] rfl ?_
          refine bz_goto (tgt := 8) (pc := 76) dX6_readTerm_76 rfl ?_
          exact hP12
        · have hP13 := hP11.2 c
          clear hP11
          refine bz_aload_n (pc := 54) dX6_readTerm_54 rfl rfl ?_
          refine bz_sipush (pc := 55) dX6_readTerm_55 cs_10007 ?_
          refine bz_iload (pc := 58) dX6_readTerm_58 rfl ?_
          refine bz_iadd (pc := 60) dX6_readTerm_60 ?_
          refine bz_kIV (as := [.inl (10007 + x_4)]) (st := []) (ci := 6) (n := 1) (mc := 0) (ms := 0) (bc := bc) (bs := bs) (yc := kX6_putStep) (q := (RX6, TX6, 8)) (b := a0) (pc := 61) dX6_readTerm_61 sc_X6_putStep ml_X6_44 im_X6_putStep se_X6_putStep rfl rfl rfl (Nat.le_of_ble_eq_true rfl) hP13 (fun x_9 h_10 hP14 => ?_)
          clear hP13
          have hJ : bz_J G κ kX6_readTerm (d + 1) F bc bs 72 [some (.inr (some a0)), some (.inl x1), some (.inl x2), some (.inl x3), some (.inl x_4)] [.inl (if x_9 = 0 then 0 else 1)] h_10 := by
            refine bz_s_istore_n (pc := 72) dX6_readTerm_72 rfl (Nat.le_of_ble_eq_true rfl) [some (.inr (some a0)), some (.inl x1), some (.inl (if x_9 = 0 then 0 else 1)), some (.inl x3), some (.inl x_4)] rfl ?_
            refine bz_s_iinc (pc := 73) dX6_readTerm_73 (Nat.le_of_ble_eq_true rfl) rfl rfl [some (.inr (some a0)), some (.inl x1), some (.inl (if x_9 = 0 then 0 else 1)), some (.inl (x3 + 1)), some (.inl x_4)] rfl ?_
            refine bz_goto (tgt := 8) (pc := 76) dX6_readTerm_76 rfl ?_
            exact hP14
          refine bz_if_eq (tgt := 71) (pc := 64) dX6_readTerm_64 rfl (fun c => ?_) (fun c => ?_)
          · have e9 : ((if x_9 = 0 then 0 else 1) : Int32) = (0) := if_pos c
            rw [e9] at hJ
            refine bz_iconst (pc := 71) dX6_readTerm_71 ci_0 ?_
            exact hJ
          · have e9 : ((if x_9 = 0 then 0 else 1) : Int32) = (1) := if_neg c
            rw [e9] at hJ
            refine bz_iconst (pc := 67) dX6_readTerm_67 ci_1 ?_
            refine bz_goto (tgt := 72) (pc := 68) dX6_readTerm_68 rfl ?_
            exact hJ
      · have hP15 := hP7.2 c
        clear hP7
        refine bz_aload_n (pc := 27) dX6_readTerm_27 rfl rfl ?_
        refine bz_rw_rI (pc := 28) dX6_readTerm_28 fl_X6_35 hP15 (fun x_11 hP16 => ?_)
        clear hP15
        refine bz_bipush (pc := 31) dX6_readTerm_31 cb_47 ?_
        refine bz_icmp_ne (tgt := 79) (pc := 33) dX6_readTerm_33 rfl (fun c => ?_) (fun c => ?_)
        · have hP17 := hP16.1 c
          clear hP16
          refine bz_iload_n (pc := 79) dX6_readTerm_79 rfl rfl ?_
          obtain ⟨hb, hP18⟩ := hP17
          exact bz_retI (pc := 80) dX6_readTerm_80 rfl (by rcases hb with hb | hb <;> rw [hb] <;> rfl) hP18
        · have hP19 := hP16.2 c
          clear hP16
          refine bz_aload_n (pc := 36) dX6_readTerm_36 rfl rfl ?_
          refine bz_rw_rI (pc := 37) dX6_readTerm_37 fl_X6_35 hP19 (fun x_12 hP20 => ?_)
          clear hP19
          refine bz_s_istore (pc := 40) dX6_readTerm_40 (Nat.le_of_ble_eq_true rfl) [some (.inr (some a0)), some (.inl x1), some (.inl x2), some (.inl x3), some (.inl x_12)] rfl ?_
          refine bz_aload_n (pc := 42) dX6_readTerm_42 rfl rfl ?_
          refine bz_kVV (as := []) (st := []) (ci := 6) (n := 0) (mc := 0) (ms := 0) (bc := bc) (bs := bs) (yc := kX6_advance) (q := (RX6, TX6, 8)) (b := a0) (pc := 43) dX6_readTerm_43 sc_X6_advance ml_X6_28 im_X6_advance se_X6_advance rfl rfl rfl (Nat.le_of_ble_eq_true rfl) hP20 (fun h_14 hP21 => ?_)
          clear hP20
          refine bz_aload_n (pc := 46) dX6_readTerm_46 rfl rfl ?_
          refine bz_iload_n (pc := 47) dX6_readTerm_47 rfl rfl ?_
          refine bz_kIV (as := [.inl x1]) (st := []) (ci := 6) (n := 1) (mc := 0) (ms := 0) (bc := bc) (bs := bs) (yc := kX6_readOne) (q := (RX6, TX6, 8)) (b := a0) (pc := 48) dX6_readTerm_48 sc_X6_readOne ml_X6_50 im_X6_readOne se_X6_readOne rfl rfl rfl (Nat.le_of_ble_eq_true rfl) hP21 (fun x_15 h_16 hP22 => ?_)
          clear hP21
          refine bz_if_eq (tgt := 71) (pc := 51) dX6_readTerm_51 rfl (fun c => ?_) (fun c => ?_)
          · have hP23 := hP22.1 c
            clear hP22
            refine bz_iconst (pc := 71) dX6_readTerm_71 ci_0 ?_
            refine bz_s_istore_n (pc := 72) dX6_readTerm_72 rfl (Nat.le_of_ble_eq_true rfl) [some (.inr (some a0)), some (.inl x1), some (.inl 0), some (.inl x3), some (.inl x_12)] rfl ?_
            refine bz_s_iinc (pc := 73) dX6_readTerm_73 (Nat.le_of_ble_eq_true rfl) rfl rfl [some (.inr (some a0)), some (.inl x1), some (.inl 0), some (.inl (x3 + 1)), some (.inl x_12)] rfl ?_
            refine bz_goto (tgt := 8) (pc := 76) dX6_readTerm_76 rfl ?_
            exact hP23
          · have hP24 := hP22.2 c
            clear hP22
            refine bz_aload_n (pc := 54) dX6_readTerm_54 rfl rfl ?_
            refine bz_sipush (pc := 55) dX6_readTerm_55 cs_10007 ?_
            refine bz_iload (pc := 58) dX6_readTerm_58 rfl ?_
            refine bz_iadd (pc := 60) dX6_readTerm_60 ?_
            refine bz_kIV (as := [.inl (10007 + x_12)]) (st := []) (ci := 6) (n := 1) (mc := 0) (ms := 0) (bc := bc) (bs := bs) (yc := kX6_putStep) (q := (RX6, TX6, 8)) (b := a0) (pc := 61) dX6_readTerm_61 sc_X6_putStep ml_X6_44 im_X6_putStep se_X6_putStep rfl rfl rfl (Nat.le_of_ble_eq_true rfl) hP24 (fun x_17 h_18 hP25 => ?_)
            clear hP24
            have hJ : bz_J G κ kX6_readTerm (d + 1) F bc bs 72 [some (.inr (some a0)), some (.inl x1), some (.inl x2), some (.inl x3), some (.inl x_12)] [.inl (if x_17 = 0 then 0 else 1)] h_18 := by
              refine bz_s_istore_n (pc := 72) dX6_readTerm_72 rfl (Nat.le_of_ble_eq_true rfl) [some (.inr (some a0)), some (.inl x1), some (.inl (if x_17 = 0 then 0 else 1)), some (.inl x3), some (.inl x_12)] rfl ?_
              refine bz_s_iinc (pc := 73) dX6_readTerm_73 (Nat.le_of_ble_eq_true rfl) rfl rfl [some (.inr (some a0)), some (.inl x1), some (.inl (if x_17 = 0 then 0 else 1)), some (.inl (x3 + 1)), some (.inl x_12)] rfl ?_
              refine bz_goto (tgt := 8) (pc := 76) dX6_readTerm_76 rfl ?_
              exact hP25
            refine bz_if_eq (tgt := 71) (pc := 64) dX6_readTerm_64 rfl (fun c => ?_) (fun c => ?_)
            · have e9 : ((if x_17 = 0 then 0 else 1) : Int32) = (0) := if_pos c
              rw [e9] at hJ
              refine bz_iconst (pc := 71) dX6_readTerm_71 ci_0 ?_
              exact hJ
            · have e9 : ((if x_17 = 0 then 0 else 1) : Int32) = (1) := if_neg c
              rw [e9] at hJ
              refine bz_iconst (pc := 67) dX6_readTerm_67 ci_1 ?_
              refine bz_goto (tgt := 72) (pc := 68) dX6_readTerm_68 rfl ?_
              exact hJ
theorem m_X6_readTerm {G : bz_G} {l : Launch} {d mc ms : Nat} {F : Option bz_V → bz_H → Prop} (a0 : Nat) (x1 : Int32) (h : bz_H) (hP : ∀ (κ : bz_K) (bc bs : Nat), κ.2.1 = l → w_X6_readTerm_0 G κ l d F bc bs a0 x1 h) : bz_Call G l (d + 1) kX6_readTerm [.inr (some a0), .inl x1] h mc ms F :=
  bz_body (by decide) (Nat.le_of_ble_eq_true rfl) (fun κ hl => g_X6_readTerm_0 hl a0 x1 h (hP κ mc ms hl))
def w_X6_readText_0 (G : bz_G) (l : Launch) (d : Nat) (F : Option bz_V → bz_H → Prop) (a0 : Nat) (x1 : Int32) (h : bz_H) : Prop := bz_rc h a0 6 (bz_cI G l d kX6_readSum [.inr (some a0), .inl x1] h 0 0 (fun x_1 h_2 => (¬ x_1 = 0 → bz_rI h_2 a0 6 4 (fun x_3 => (x_3 = 60 → bz_rc h_2 a0 6 (bz_cV G l d kX6_advance [.inr (some a0)] h_2 0 0 (fun h_5 => bz_rc h_5 a0 6 (bz_cI G l d kX6_readSum [.inr (some a0), .inl x1] h_5 0 0 (fun x_6 h_7 => (x_6 = 0 → F (some (.inl 0)) h_7) ∧ (¬ (x_6 = 0) → bz_rc h_7 a0 6 (bz_cI G l d kX6_putStep [.inr (some a0), .inl (10007 + x_3)] h_7 0 0 (fun x_8 h_9 => F (some (.inl (if x_8 = 0 then 0 else 1))) h_9)))))))) ∧ (¬ (x_3 = 60) → (x_3 = 61 → bz_rc h_2 a0 6 (bz_cV G l d kX6_advance [.inr (some a0)] h_2 0 0 (fun h_11 => bz_rc h_11 a0 6 (bz_cI G l d kX6_readSum [.inr (some a0), .inl x1] h_11 0 0 (fun x_12 h_13 => (x_12 = 0 → F (some (.inl 0)) h_13) ∧ (¬ (x_12 = 0) → bz_rc h_13 a0 6 (bz_cI G l d kX6_putStep [.inr (some a0), .inl (10007 + x_3)] h_13 0 0 (fun x_14 h_15 => F (some (.inl (if x_14 = 0 then 0 else 1))) h_15)))))))) ∧ (¬ (x_3 = 61) → F (some (.inl 1)) h_2)))) ∧ (x_1 = 0 → F (some (.inl 0)) h_2)))
set_option maxRecDepth 20000 in
set_option maxHeartbeats 4000000 in
theorem g_X6_readText_0 {G : bz_G} {κ : bz_K} {l : Launch} {d : Nat} {F : Option bz_V → bz_H → Prop} {bc bs : Nat} (hl : κ.2.1 = l) (a0 : Nat) (x1 : Int32) (h : bz_H) (hP0 : w_X6_readText_0 G l d F a0 x1 h) : bz_J G κ kX6_readText (d + 1) F bc bs 0 [some (.inr (some a0)), some (.inl x1), none] [] h := by
  subst hl
  unfold w_X6_readText_0 at hP0
  refine bz_aload_n (pc := 0) dX6_readText_0 rfl rfl ?_
  refine bz_iload_n (pc := 1) dX6_readText_1 rfl rfl ?_
  refine bz_kIV (as := [.inl x1]) (st := []) (ci := 6) (n := 1) (mc := 0) (ms := 0) (bc := bc) (bs := bs) (yc := kX6_readSum) (q := (RX6, TX6, 8)) (b := a0) (pc := 2) dX6_readText_2 sc_X6_readSum ml_X6_41 im_X6_readSum se_X6_readSum rfl rfl rfl (Nat.le_of_ble_eq_true rfl) hP0 (fun x_1 h_2 hP1 => ?_)
  clear hP0
  refine bz_if_ne (tgt := 10) (pc := 5) dX6_readText_5 rfl (fun c => ?_) (fun c => ?_)
  · have hP2 := hP1.1 c
    clear hP1
    refine bz_aload_n (pc := 10) dX6_readText_10 rfl rfl ?_
    refine bz_rw_rI (pc := 11) dX6_readText_11 fl_X6_35 hP2 (fun x_3 hP3 => ?_)
    clear hP2
    refine bz_s_istore_n (pc := 14) dX6_readText_14 rfl (Nat.le_of_ble_eq_true rfl) [some (.inr (some a0)), some (.inl x1), some (.inl x_3)] rfl ?_
    refine bz_iload_n (pc := 15) dX6_readText_15 rfl rfl ?_
    refine bz_bipush (pc := 16) dX6_readText_16 cb_60 ?_
    refine bz_icmp_eq (tgt := 29) (pc := 18) dX6_readText_18 rfl (fun c => ?_) (fun c => ?_)
    · have hP4 := hP3.1 c
      clear hP3
      refine bz_aload_n (pc := 29) dX6_readText_29 rfl rfl ?_
      refine bz_kVV (as := []) (st := []) (ci := 6) (n := 0) (mc := 0) (ms := 0) (bc := bc) (bs := bs) (yc := kX6_advance) (q := (RX6, TX6, 8)) (b := a0) (pc := 30) dX6_readText_30 sc_X6_advance ml_X6_28 im_X6_advance se_X6_advance rfl rfl rfl (Nat.le_of_ble_eq_true rfl) hP4 (fun h_5 hP5 => ?_)
      clear hP4
      refine bz_aload_n (pc := 33) dX6_readText_33 rfl rfl ?_
      refine bz_iload_n (pc := 34) dX6_readText_34 rfl rfl ?_
      refine bz_kIV (as := [.inl x1]) (st := []) (ci := 6) (n := 1) (mc := 0) (ms := 0) (bc := bc) (bs := bs) (yc := kX6_readSum) (q := (RX6, TX6, 8)) (b := a0) (pc := 35) dX6_readText_35 sc_X6_readSum ml_X6_41 im_X6_readSum se_X6_readSum rfl rfl rfl (Nat.le_of_ble_eq_true rfl) hP5 (fun x_6 h_7 hP6 => ?_)
      clear hP5
      refine bz_if_eq (tgt := 57) (pc := 38) dX6_readText_38 rfl (fun c => ?_) (fun c => ?_)
      · have hP7 := hP6.1 c
        clear hP6
        refine bz_iconst (pc := 57) dX6_readText_57 ci_0 ?_
        exact bz_retI (pc := 58) dX6_readText_58 rfl rfl hP7
      · have hP8 := hP6.2 c
        clear hP6
        refine bz_aload_n (pc := 41) dX6_readText_41 rfl rfl ?_
        refine bz_sipush (pc := 42) dX6_readText_42 cs_10007 ?_
        refine bz_iload_n (pc := 45) dX6_readText_45 rfl rfl ?_
        refine bz_iadd (pc := 46) dX6_readText_46 ?_
        refine bz_kIV (as := [.inl (10007 + x_3)]) (st := []) (ci := 6) (n := 1) (mc := 0) (ms := 0) (bc := bc) (bs := bs) (yc := kX6_putStep) (q := (RX6, TX6, 8)) (b := a0) (pc := 47) dX6_readText_47 sc_X6_putStep ml_X6_44 im_X6_putStep se_X6_putStep rfl rfl rfl (Nat.le_of_ble_eq_true rfl) hP8 (fun x_8 h_9 hP9 => ?_)
        clear hP8
        have hJ : bz_J G κ kX6_readText (d + 1) F bc bs 58 [some (.inr (some a0)), some (.inl x1), some (.inl x_3)] [.inl (if x_8 = 0 then 0 else 1)] h_9 := by
          exact bz_retI (pc := 58) dX6_readText_58 rfl (by (repeat' split) <;> rfl) hP9
        refine bz_if_eq (tgt := 57) (pc := 50) dX6_readText_50 rfl (fun c => ?_) (fun c => ?_)
        · have e9 : ((if x_8 = 0 then 0 else 1) : Int32) = (0) := if_pos c
          rw [e9] at hJ
          refine bz_iconst (pc := 57) dX6_readText_57 ci_0 ?_
          exact hJ
        · have e9 : ((if x_8 = 0 then 0 else 1) : Int32) = (1) := if_neg c
          rw [e9] at hJ
          refine bz_iconst (pc := 53) dX6_readText_53 ci_1 ?_
          refine bz_goto (tgt := 58) (pc := 54) dX6_readText_54 rfl ?_
          exact hJ
    · have hP10 := hP3.2 c
      clear hP3
      refine bz_iload_n (pc := 21) dX6_readText_21 rfl rfl ?_
      refine bz_bipush (pc := 22) dX6_readText_22 cb_61 ?_
      refine bz_icmp_eq (tgt := 29) (pc := 24) dX6_readText_24 rfl (fun c => ?_) (fun c => ?_)
      · have hP11 := hP10.1 c
        clear hP10
        refine bz_aload_n (pc := 29) dX6_readText_29 rfl rfl ?_
        refine bz_kVV (as := []) (st := []) (ci := 6) (n := 0) (mc := 0) (ms := 0) (bc := bc) (bs := bs) (yc := kX6_advance) (q := (RX6, TX6, 8)) (b := a0) (pc := 30) dX6_readText_30 sc_X6_advance ml_X6_28 im_X6_advance se_X6_advance rfl rfl rfl (Nat.le_of_ble_eq_true rfl) hP11 (fun h_11 hP12 => ?_)
        clear hP11
        refine bz_aload_n (pc := 33) dX6_readText_33 rfl rfl ?_
        refine bz_iload_n (pc := 34) dX6_readText_34 rfl rfl ?_
        refine bz_kIV (as := [.inl x1]) (st := []) (ci := 6) (n := 1) (mc := 0) (ms := 0) (bc := bc) (bs := bs) (yc := kX6_readSum) (q := (RX6, TX6, 8)) (b := a0) (pc := 35) dX6_readText_35 sc_X6_readSum ml_X6_41 im_X6_readSum se_X6_readSum rfl rfl rfl (Nat.le_of_ble_eq_true rfl) hP12 (fun x_12 h_13 hP13 => ?_)
        clear hP12
        refine bz_if_eq (tgt := 57) (pc := 38) dX6_readText_38 rfl (fun c => ?_) (fun c => ?_)
        · have hP14 := hP13.1 c
          clear hP13
          refine bz_iconst (pc := 57) dX6_readText_57 ci_0 ?_
          exact bz_retI (pc := 58) dX6_readText_58 rfl rfl hP14
        · have hP15 := hP13.2 c
          clear hP13
          refine bz_aload_n (pc := 41) dX6_readText_41 rfl rfl ?_
          refine bz_sipush (pc := 42) dX6_readText_42 cs_10007 ?_
          refine bz_iload_n (pc := 45) dX6_readText_45 rfl rfl ?_
          refine bz_iadd (pc := 46) dX6_readText_46 ?_
          refine bz_kIV (as := [.inl (10007 + x_3)]) (st := []) (ci := 6) (n := 1) (mc := 0) (ms := 0) (bc := bc) (bs := bs) (yc := kX6_putStep) (q := (RX6, TX6, 8)) (b := a0) (pc := 47) dX6_readText_47 sc_X6_putStep ml_X6_44 im_X6_putStep se_X6_putStep rfl rfl rfl (Nat.le_of_ble_eq_true rfl) hP15 (fun x_14 h_15 hP16 => ?_)
          clear hP15
          have hJ : bz_J G κ kX6_readText (d + 1) F bc bs 58 [some (.inr (some a0)), some (.inl x1), some (.inl x_3)] [.inl (if x_14 = 0 then 0 else 1)] h_15 := by
            exact bz_retI (pc := 58) dX6_readText_58 rfl (by (repeat' split) <;> rfl) hP16
          refine bz_if_eq (tgt := 57) (pc := 50) dX6_readText_50 rfl (fun c => ?_) (fun c => ?_)
          · have e9 : ((if x_14 = 0 then 0 else 1) : Int32) = (0) := if_pos c
            rw [e9] at hJ
            refine bz_iconst (pc := 57) dX6_readText_57 ci_0 ?_
            exact hJ
          · have e9 : ((if x_14 = 0 then 0 else 1) : Int32) = (1) := if_neg c
            rw [e9] at hJ
            refine bz_iconst (pc := 53) dX6_readText_53 ci_1 ?_
            refine bz_goto (tgt := 58) (pc := 54) dX6_readText_54 rfl ?_
            exact hJ
      · have hP17 := hP10.2 c
        clear hP10
        refine bz_iconst (pc := 27) dX6_readText_27 ci_1 ?_
        exact bz_retI (pc := 28) dX6_readText_28 rfl rfl hP17
  · have hP18 := hP1.2 c
    clear hP1
    refine bz_iconst (pc := 8) dX6_readText_8 ci_0 ?_
    exact bz_retI (pc := 9) dX6_readText_9 rfl rfl hP18
theorem m_X6_readText {G : bz_G} {l : Launch} {d mc ms : Nat} {F : Option bz_V → bz_H → Prop} (a0 : Nat) (x1 : Int32) (h : bz_H) (hP : w_X6_readText_0 G l d F a0 x1 h) : bz_Call G l (d + 1) kX6_readText [.inr (some a0), .inl x1] h mc ms F :=
  bz_body (by decide) (Nat.le_of_ble_eq_true rfl) (fun κ hl => g_X6_readText_0 hl a0 x1 h hP)
def w_X6_takeNumber_0 (G : bz_G) (κ : bz_K) (l : Launch) (d : Nat) (F : Option bz_V → bz_H → Prop) (bc bs : Nat) (a0 : Nat) (h : bz_H) : Prop := bz_wI h a0 6 7 0 (fun h_1 => bz_J G κ kX6_takeNumber (d + 1) F bc bs 5 [some (.inr (some a0))] [] h_1)
set_option maxRecDepth 20000 in
set_option maxHeartbeats 4000000 in
theorem g_X6_takeNumber_0 {G : bz_G} {κ : bz_K} {l : Launch} {d : Nat} {F : Option bz_V → bz_H → Prop} {bc bs : Nat} (hl : κ.2.1 = l) (a0 : Nat) (h : bz_H) (hP0 : w_X6_takeNumber_0 G κ l d F bc bs a0 h) : bz_J G κ kX6_takeNumber (d + 1) F bc bs 0 [some (.inr (some a0))] [] h := by
  subst hl
  unfold w_X6_takeNumber_0 at hP0
  refine bz_aload_n (pc := 0) dX6_takeNumber_0 rfl rfl ?_
  refine bz_iconst (pc := 1) dX6_takeNumber_1 ci_0 ?_
  refine bz_rw_wI (pc := 2) dX6_takeNumber_2 fl_X6_53 (fun q h9 => by cases h9; rfl) rfl hP0 (fun h_1 hP1 => ?_)
  clear hP0
  exact hP1
def w_X6_takeNumber_5 (G : bz_G) (κ : bz_K) (l : Launch) (d : Nat) (F : Option bz_V → bz_H → Prop) (bc bs : Nat) (a0 : Nat) (h : bz_H) : Prop := bz_rI h a0 6 6 (fun x_2 => bz_rI h a0 6 1 (fun x_3 => (x_3 ≤ x_2 → bz_rI h a0 6 7 (fun x_4 => bz_wI h a0 6 4 (if x_4 ≤ 9999 then 2 else 1) (fun h_5 => F none h_5))) ∧ (¬ (x_3 ≤ x_2) → bz_rR h a0 6 0 (fun r_6 => bz_rI h a0 6 6 (fun x_7 => bz_nn r_6 (fun a_8 => bz_rA h a_8 x_7 (fun x_9 => (x_9 < 48 → bz_rI h a0 6 7 (fun x_10 => bz_wI h a0 6 4 (if x_10 ≤ 9999 then 2 else 1) (fun h_11 => F none h_11))) ∧ (¬ (x_9 < 48) → bz_rR h a0 6 0 (fun r_12 => bz_rI h a0 6 6 (fun x_13 => bz_nn r_12 (fun a_14 => bz_rA h a_14 x_13 (fun x_15 => (57 < x_15 → bz_rI h a0 6 7 (fun x_16 => bz_wI h a0 6 4 (if x_16 ≤ 9999 then 2 else 1) (fun h_17 => F none h_17))) ∧ (¬ (57 < x_15) → bz_rI h a0 6 7 (fun x_18 => (9999 < x_18 → bz_rI h a0 6 6 (fun x_19 => bz_wI h a0 6 6 (x_19 + 1) (fun h_20 => bz_J G κ kX6_takeNumber (d + 1) F bc bs 5 [some (.inr (some a0))] [] h_20))) ∧ (¬ (9999 < x_18) → bz_rI h a0 6 7 (fun x_21 => bz_rR h a0 6 0 (fun r_22 => bz_rI h a0 6 6 (fun x_23 => bz_nn r_22 (fun a_24 => bz_rA h a_24 x_23 (fun x_25 => bz_wI h a0 6 7 (((10 * x_21) + x_25) - 48) (fun h_26 => bz_rI h_26 a0 6 6 (fun x_27 => bz_wI h_26 a0 6 6 (x_27 + 1) (fun h_28 => bz_J G κ kX6_takeNumber (d + 1) F bc bs 5 [some (.inr (some a0))] [] h_28)))))))))))))))))))))))
set_option maxRecDepth 20000 in
set_option maxHeartbeats 4000000 in
theorem g_X6_takeNumber_5 {G : bz_G} {κ : bz_K} {l : Launch} {d : Nat} {F : Option bz_V → bz_H → Prop} {bc bs : Nat} (hl : κ.2.1 = l) (a0 : Nat) (h : bz_H) (hP0 : w_X6_takeNumber_5 G κ l d F bc bs a0 h) : bz_J G κ kX6_takeNumber (d + 1) F bc bs 5 [some (.inr (some a0))] [] h := by
  subst hl
  unfold w_X6_takeNumber_5 at hP0
  refine bz_aload_n (pc := 5) dX6_takeNumber_5 rfl rfl ?_
  refine bz_rw_rI (pc := 6) dX6_takeNumber_6 fl_X6_25 hP0 (fun x_2 hP1 => ?_)
  clear hP0
  refine bz_aload_n (pc := 9) dX6_takeNumber_9 rfl rfl ?_
  refine bz_rw_rI (pc := 10) dX6_takeNumber_10 fl_X6_18 hP1 (fun x_3 hP2 => ?_)
  clear hP1
  refine bz_icmp_ge (tgt := 91) (pc := 13) dX6_takeNumber_13 rfl (fun c => ?_) (fun c => ?_)
  · have hP3 := hP2.1 c
    clear hP2
    refine bz_aload_n (pc := 91) dX6_takeNumber_91 rfl rfl ?_
    refine bz_aload_n (pc := 92) dX6_takeNumber_92 rfl rfl ?_
    refine bz_rw_rI (pc := 93) dX6_takeNumber_93 fl_X6_53 hP3 (fun x_4 hP4 => ?_)
    clear hP3
    refine bz_sipush (pc := 96) dX6_takeNumber_96 cs_9999 ?_
    have hJ : bz_J G κ kX6_takeNumber (d + 1) F bc bs 107 [some (.inr (some a0))] [.inl (if x_4 ≤ 9999 then 2 else 1), .inr (some a0)] h := by
      refine bz_rw_wI (pc := 107) dX6_takeNumber_107 fl_X6_35 (fun q h9 => by cases h9; rfl) rfl hP4 (fun h_5 hP5 => ?_)
      clear hP4
      exact bz_retV (pc := 110) dX6_takeNumber_110 rfl hP5
    refine bz_icmp_le (tgt := 106) (pc := 99) dX6_takeNumber_99 rfl (fun c => ?_) (fun c => ?_)
    · have e9 : ((if x_4 ≤ 9999 then 2 else 1) : Int32) = (2) := if_pos c
      rw [e9] at hJ
      refine bz_iconst (pc := 106) dX6_takeNumber_106 ci_2 ?_
      exact hJ
    · have e9 : ((if x_4 ≤ 9999 then 2 else 1) : Int32) = (1) := if_neg c
      rw [e9] at hJ
      refine bz_iconst (pc := 102) dX6_takeNumber_102 ci_1 ?_
      refine bz_goto (tgt := 107) (pc := 103) dX6_takeNumber_103 rfl ?_
      exact hJ
  · have hP6 := hP2.2 c
    clear hP2
    refine bz_aload_n (pc := 16) dX6_takeNumber_16 rfl rfl ?_
    refine bz_rw_rR (pc := 17) dX6_takeNumber_17 fl_X6_9 hP6 (fun r_6 hP7 => ?_)
    clear hP6
    refine bz_aload_n (pc := 20) dX6_takeNumber_20 rfl rfl ?_
    refine bz_rw_rI (pc := 21) dX6_takeNumber_21 fl_X6_25 hP7 (fun x_7 hP8 => ?_)
    clear hP7
    obtain ⟨a_8, rfl, hP9⟩ := hP8
    refine bz_rw_rA (pc := 24) dX6_takeNumber_24 hP9 (fun x_9 hP10 => ?_)
    clear hP9
    refine bz_bipush (pc := 25) dX6_takeNumber_25 cb_48 ?_
    refine bz_icmp_lt (tgt := 91) (pc := 27) dX6_takeNumber_27 rfl (fun c => ?_) (fun c => ?_)
    · have hP11 := hP10.1 c
      clear hP10
      refine bz_aload_n (pc := 91) dX6_takeNumber_91 rfl rfl ?_
      refine bz_aload_n (pc := 92) dX6_takeNumber_92 rfl rfl ?_
      refine bz_rw_rI (pc := 93) dX6_takeNumber_93 fl_X6_53 hP11 (fun x_10 hP12 => ?_)
      clear hP11
      refine bz_sipush (pc := 96) dX6_takeNumber_96 cs_9999 ?_
      have hJ : bz_J G κ kX6_takeNumber (d + 1) F bc bs 107 [some (.inr (some a0))] [.inl (if x_10 ≤ 9999 then 2 else 1), .inr (some a0)] h := by
        refine bz_rw_wI (pc := 107) dX6_takeNumber_107 fl_X6_35 (fun q h9 => by cases h9; rfl) rfl hP12 (fun h_11 hP13 => ?_)
        clear hP12
        exact bz_retV (pc := 110) dX6_takeNumber_110 rfl hP13
      refine bz_icmp_le (tgt := 106) (pc := 99) dX6_takeNumber_99 rfl (fun c => ?_) (fun c => ?_)
      · have e9 : ((if x_10 ≤ 9999 then 2 else 1) : Int32) = (2) := if_pos c
        rw [e9] at hJ
        refine bz_iconst (pc := 106) dX6_takeNumber_106 ci_2 ?_
        exact hJ
      · have e9 : ((if x_10 ≤ 9999 then 2 else 1) : Int32) = (1) := if_neg c
        rw [e9] at hJ
        refine bz_iconst (pc := 102) dX6_takeNumber_102 ci_1 ?_
        refine bz_goto (tgt := 107) (pc := 103) dX6_takeNumber_103 rfl ?_
        exact hJ
    · have hP14 := hP10.2 c
      clear hP10
      refine bz_aload_n (pc := 30) dX6_takeNumber_30 rfl rfl ?_
      refine bz_rw_rR (pc := 31) dX6_takeNumber_31 fl_X6_9 hP14 (fun r_12 hP15 => ?_)
      clear hP14
      refine bz_aload_n (pc := 34) dX6_takeNumber_34 rfl rfl ?_
      refine bz_rw_rI (pc := 35) dX6_takeNumber_35 fl_X6_25 hP15 (fun x_13 hP16 => ?_)
      clear hP15
      obtain ⟨a_14, rfl, hP17⟩ := hP16
      refine bz_rw_rA (pc := 38) dX6_takeNumber_38 hP17 (fun x_15 hP18 => ?_)
      clear hP17
      refine bz_bipush (pc := 39) dX6_takeNumber_39 cb_57 ?_
      refine bz_icmp_gt (tgt := 91) (pc := 41) dX6_takeNumber_41 rfl (fun c => ?_) (fun c => ?_)
      · have hP19 := hP18.1 c
        clear hP18
        refine bz_aload_n (pc := 91) dX6_takeNumber_91 rfl rfl ?_
        refine bz_aload_n (pc := 92) dX6_takeNumber_92 rfl rfl ?_
        refine bz_rw_rI (pc := 93) dX6_takeNumber_93 fl_X6_53 hP19 (fun x_16 hP20 => ?_)
        clear hP19
        refine bz_sipush (pc := 96) dX6_takeNumber_96 cs_9999 ?_
        have hJ : bz_J G κ kX6_takeNumber (d + 1) F bc bs 107 [some (.inr (some a0))] [.inl (if x_16 ≤ 9999 then 2 else 1), .inr (some a0)] h := by
          refine bz_rw_wI (pc := 107) dX6_takeNumber_107 fl_X6_35 (fun q h9 => by cases h9; rfl) rfl hP20 (fun h_17 hP21 => ?_)
          clear hP20
          exact bz_retV (pc := 110) dX6_takeNumber_110 rfl hP21
        refine bz_icmp_le (tgt := 106) (pc := 99) dX6_takeNumber_99 rfl (fun c => ?_) (fun c => ?_)
        · have e9 : ((if x_16 ≤ 9999 then 2 else 1) : Int32) = (2) := if_pos c
          rw [e9] at hJ
          refine bz_iconst (pc := 106) dX6_takeNumber_106 ci_2 ?_
          exact hJ
        · have e9 : ((if x_16 ≤ 9999 then 2 else 1) : Int32) = (1) := if_neg c
          rw [e9] at hJ
          refine bz_iconst (pc := 102) dX6_takeNumber_102 ci_1 ?_
          refine bz_goto (tgt := 107) (pc := 103) dX6_takeNumber_103 rfl ?_
          exact hJ
      · have hP22 := hP18.2 c
        clear hP18
        refine bz_aload_n (pc := 44) dX6_takeNumber_44 rfl rfl ?_
        refine bz_rw_rI (pc := 45) dX6_takeNumber_45 fl_X6_53 hP22 (fun x_18 hP23 => ?_)
        clear hP22
        refine bz_sipush (pc := 48) dX6_takeNumber_48 cs_9999 ?_
        refine bz_icmp_gt (tgt := 78) (pc := 51) dX6_takeNumber_51 rfl (fun c => ?_) (fun c => ?_)
        · have hP24 := hP23.1 c
          clear hP23
          refine bz_aload_n (pc := 78) dX6_takeNumber_78 rfl rfl ?_
          refine bz_dup (pc := 79) dX6_takeNumber_79 ?_
          refine bz_rw_rI (pc := 80) dX6_takeNumber_80 fl_X6_25 hP24 (fun x_19 hP25 => ?_)
          clear hP24
          refine bz_iconst (pc := 83) dX6_takeNumber_83 ci_1 ?_
          refine bz_iadd (pc := 84) dX6_takeNumber_84 ?_
          refine bz_rw_wI (pc := 85) dX6_takeNumber_85 fl_X6_25 (fun q h9 => by cases h9; rfl) rfl hP25 (fun h_20 hP26 => ?_)
          clear hP25
          refine bz_goto (tgt := 5) (pc := 88) dX6_takeNumber_88 rfl ?_
          exact hP26
        · have hP27 := hP23.2 c
          clear hP23
          refine bz_aload_n (pc := 54) dX6_takeNumber_54 rfl rfl ?_
          refine bz_bipush (pc := 55) dX6_takeNumber_55 cb_10 ?_
          refine bz_aload_n (pc := 57) dX6_takeNumber_57 rfl rfl ?_
          refine bz_rw_rI (pc := 58) dX6_takeNumber_58 fl_X6_53 hP27 (fun x_21 hP28 => ?_)
          clear hP27
          refine bz_imul (pc := 61) dX6_takeNumber_61 ?_
          refine bz_aload_n (pc := 62) dX6_takeNumber_62 rfl rfl ?_
          refine bz_rw_rR (pc := 63) dX6_takeNumber_63 fl_X6_9 hP28 (fun r_22 hP29 => ?_)
          clear hP28
          refine bz_aload_n (pc := 66) dX6_takeNumber_66 rfl rfl ?_
          refine bz_rw_rI (pc := 67) dX6_takeNumber_67 fl_X6_25 hP29 (fun x_23 hP30 => ?_)
          clear hP29
          obtain ⟨a_24, rfl, hP31⟩ := hP30
          refine bz_rw_rA (pc := 70) dX6_takeNumber_70 hP31 (fun x_25 hP32 => ?_)
          clear hP31
          refine bz_iadd (pc := 71) dX6_takeNumber_71 ?_
          refine bz_bipush (pc := 72) dX6_takeNumber_72 cb_48 ?_
          refine bz_isub (pc := 74) dX6_takeNumber_74 ?_
          refine bz_rw_wI (pc := 75) dX6_takeNumber_75 fl_X6_53 (fun q h9 => by cases h9; rfl) rfl hP32 (fun h_26 hP33 => ?_)
          clear hP32
          refine bz_aload_n (pc := 78) dX6_takeNumber_78 rfl rfl ?_
          refine bz_dup (pc := 79) dX6_takeNumber_79 ?_
          refine bz_rw_rI (pc := 80) dX6_takeNumber_80 fl_X6_25 hP33 (fun x_27 hP34 => ?_)
          clear hP33
          refine bz_iconst (pc := 83) dX6_takeNumber_83 ci_1 ?_
          refine bz_iadd (pc := 84) dX6_takeNumber_84 ?_
          refine bz_rw_wI (pc := 85) dX6_takeNumber_85 fl_X6_25 (fun q h9 => by cases h9; rfl) rfl hP34 (fun h_28 hP35 => ?_)
          clear hP34
          refine bz_goto (tgt := 5) (pc := 88) dX6_takeNumber_88 rfl ?_
          exact hP35
theorem m_X6_takeNumber {G : bz_G} {l : Launch} {d mc ms : Nat} {F : Option bz_V → bz_H → Prop} (a0 : Nat) (h : bz_H) (hP : ∀ (κ : bz_K) (bc bs : Nat), κ.2.1 = l → w_X6_takeNumber_0 G κ l d F bc bs a0 h) : bz_Call G l (d + 1) kX6_takeNumber [.inr (some a0)] h mc ms F :=
  bz_body (by decide) (Nat.le_of_ble_eq_true rfl) (fun κ hl => g_X6_takeNumber_0 hl a0 h (hP κ mc ms hl))
def w_X7_init_0 (G : bz_G) (l : Launch) (d : Nat) (F : Option bz_V → bz_H → Prop) (a0 : Nat) (r1 : Option Nat) (h : bz_H) : Prop := bz_wR h a0 7 0 r1 (fun h_1 => F none h_1)
set_option maxRecDepth 20000 in
set_option maxHeartbeats 4000000 in
theorem g_X7_init_0 {G : bz_G} {κ : bz_K} {l : Launch} {d : Nat} {F : Option bz_V → bz_H → Prop} {bc bs : Nat} (hl : κ.2.1 = l) (a0 : Nat) (r1 : Option Nat) (h : bz_H) (hP0 : w_X7_init_0 G l d F a0 r1 h) : bz_J G κ kX7_init (d + 1) F bc bs 0 [some (.inr (some a0)), some (.inr r1)] [] h := by
  subst hl
  unfold w_X7_init_0 at hP0
  refine bz_aload_n (pc := 0) dX7_init_0 rfl rfl ?_
  refine bz_objInit (pc := 1) dX7_init_1 ml_X7_1 oi_i oi_c (Nat.succ_pos d) (Nat.le_of_ble_eq_true rfl) ?_
  refine bz_aload_n (pc := 4) dX7_init_4 rfl rfl ?_
  refine bz_aload_n (pc := 5) dX7_init_5 rfl rfl ?_
  refine bz_rw_wRF (pc := 6) dX7_init_6 fl_X7_7 (fun q h9 => by cases h9; exact ⟨rfl, rfl⟩) rfl (by first | exact Or.inl ⟨_, rfl⟩ | exact Or.inr ⟨_, rfl⟩) hP0 (fun h_1 hP1 => ?_)
  clear hP0
  exact bz_retV (pc := 9) dX7_init_9 rfl hP1
theorem m_X7_init {G : bz_G} {l : Launch} {d mc ms : Nat} {F : Option bz_V → bz_H → Prop} (a0 : Nat) (r1 : Option Nat) (h : bz_H) (hP : w_X7_init_0 G l d F a0 r1 h) : bz_Call G l (d + 1) kX7_init [.inr (some a0), .inr r1] h mc ms F :=
  bz_body (by decide) (Nat.le_of_ble_eq_true rfl) (fun κ hl => g_X7_init_0 hl a0 r1 h hP)
def w_X8_addRoad_0 (G : bz_G) (l : Launch) (d : Nat) (F : Option bz_V → bz_H → Prop) (a0 : Nat) (x1 : Int32) (x2 : Int32) (x3 : Int32) (h : bz_H) : Prop := bz_rR h a0 8 2 (fun r_1 => bz_nn r_1 (fun a_2 => bz_rA h a_2 ((x1 * 16) + x2) (fun x_3 => (x_3 ≤ 0 → bz_rR h a0 8 2 (fun r_4 => bz_nn r_4 (fun a_5 => bz_wA h a_5 ((x1 * 16) + x2) x3 (fun h_6 => bz_rR h_6 a0 8 2 (fun r_7 => bz_nn r_7 (fun a_8 => bz_wA h_6 a_8 ((x2 * 16) + x1) x3 (fun h_9 => bz_rc h_9 a0 8 (bz_cV G l d kX8_measureWays [.inr (some a0)] h_9 0 0 (fun h_11 => F (some (.inl x3)) h_11))))))))) ∧ (¬ (x_3 ≤ 0) → (x3 < x_3 → bz_rR h a0 8 2 (fun r_12 => bz_nn r_12 (fun a_13 => bz_wA h a_13 ((x1 * 16) + x2) x3 (fun h_14 => bz_rR h_14 a0 8 2 (fun r_15 => bz_nn r_15 (fun a_16 => bz_wA h_14 a_16 ((x2 * 16) + x1) x3 (fun h_17 => bz_rc h_17 a0 8 (bz_cV G l d kX8_measureWays [.inr (some a0)] h_17 0 0 (fun h_19 => F (some (.inl x3)) h_19))))))))) ∧ (¬ (x3 < x_3) → F (some (.inl x_3)) h)))))
set_option maxRecDepth 20000 in
set_option maxHeartbeats 4000000 in
theorem g_X8_addRoad_0 {G : bz_G} {κ : bz_K} {l : Launch} {d : Nat} {F : Option bz_V → bz_H → Prop} {bc bs : Nat} (hl : κ.2.1 = l) (a0 : Nat) (x1 : Int32) (x2 : Int32) (x3 : Int32) (h : bz_H) (hP0 : w_X8_addRoad_0 G l d F a0 x1 x2 x3 h) : bz_J G κ kX8_addRoad (d + 1) F bc bs 0 [some (.inr (some a0)), some (.inl x1), some (.inl x2), some (.inl x3), none] [] h := by
  subst hl
  unfold w_X8_addRoad_0 at hP0
  refine bz_aload_n (pc := 0) dX8_addRoad_0 rfl rfl ?_
  refine bz_rw_rR (pc := 1) dX8_addRoad_1 fl_X8_18 hP0 (fun r_1 hP1 => ?_)
  clear hP0
  refine bz_iload_n (pc := 4) dX8_addRoad_4 rfl rfl ?_
  refine bz_bipush (pc := 5) dX8_addRoad_5 cb_16 ?_
  refine bz_imul (pc := 7) dX8_addRoad_7 ?_
  refine bz_iload_n (pc := 8) dX8_addRoad_8 rfl rfl ?_
  refine bz_iadd (pc := 9) dX8_addRoad_9 ?_
  obtain ⟨a_2, rfl, hP2⟩ := hP1
  refine bz_rw_rA (pc := 10) dX8_addRoad_10 hP2 (fun x_3 hP3 => ?_)
  clear hP2
  refine bz_s_istore (pc := 11) dX8_addRoad_11 (Nat.le_of_ble_eq_true rfl) [some (.inr (some a0)), some (.inl x1), some (.inl x2), some (.inl x3), some (.inl x_3)] rfl ?_
  refine bz_iload (pc := 13) dX8_addRoad_13 rfl ?_
  refine bz_if_le (tgt := 27) (pc := 15) dX8_addRoad_15 rfl (fun c => ?_) (fun c => ?_)
  · have hP4 := hP3.1 c
    clear hP3
    refine bz_aload_n (pc := 27) dX8_addRoad_27 rfl rfl ?_
    refine bz_rw_rR (pc := 28) dX8_addRoad_28 fl_X8_18 hP4 (fun r_4 hP5 => ?_)
    clear hP4
    refine bz_iload_n (pc := 31) dX8_addRoad_31 rfl rfl ?_
    refine bz_bipush (pc := 32) dX8_addRoad_32 cb_16 ?_
    refine bz_imul (pc := 34) dX8_addRoad_34 ?_
    refine bz_iload_n (pc := 35) dX8_addRoad_35 rfl rfl ?_
    refine bz_iadd (pc := 36) dX8_addRoad_36 ?_
    refine bz_iload_n (pc := 37) dX8_addRoad_37 rfl rfl ?_
    obtain ⟨a_5, rfl, hP6⟩ := hP5
    refine bz_rw_wA (pc := 38) dX8_addRoad_38 hP6 (fun h_6 hP7 => ?_)
    clear hP6
    refine bz_aload_n (pc := 39) dX8_addRoad_39 rfl rfl ?_
    refine bz_rw_rR (pc := 40) dX8_addRoad_40 fl_X8_18 hP7 (fun r_7 hP8 => ?_)
    clear hP7
    refine bz_iload_n (pc := 43) dX8_addRoad_43 rfl rfl ?_
    refine bz_bipush (pc := 44) dX8_addRoad_44 cb_16 ?_
    refine bz_imul (pc := 46) dX8_addRoad_46 ?_
    refine bz_iload_n (pc := 47) dX8_addRoad_47 rfl rfl ?_
    refine bz_iadd (pc := 48) dX8_addRoad_48 ?_
    refine bz_iload_n (pc := 49) dX8_addRoad_49 rfl rfl ?_
    obtain ⟨a_8, rfl, hP9⟩ := hP8
    refine bz_rw_wA (pc := 50) dX8_addRoad_50 hP9 (fun h_9 hP10 => ?_)
    clear hP9
    refine bz_aload_n (pc := 51) dX8_addRoad_51 rfl rfl ?_
    refine bz_kVV (as := []) (st := []) (ci := 8) (n := 0) (mc := 0) (ms := 0) (bc := bc) (bs := bs) (yc := kX8_measureWays) (q := (RX8, TX8, 4)) (b := a0) (pc := 52) dX8_addRoad_52 sc_X8_measureWays ml_X8_30 im_X8_measureWays se_X8_measureWays rfl rfl rfl (Nat.le_of_ble_eq_true rfl) hP10 (fun h_11 hP11 => ?_)
    clear hP10
    refine bz_iload_n (pc := 55) dX8_addRoad_55 rfl rfl ?_
    exact bz_retI (pc := 56) dX8_addRoad_56 rfl rfl hP11
  · have hP12 := hP3.2 c
    clear hP3
    refine bz_iload (pc := 18) dX8_addRoad_18 rfl ?_
    refine bz_iload_n (pc := 20) dX8_addRoad_20 rfl rfl ?_
    refine bz_icmp_gt (tgt := 27) (pc := 21) dX8_addRoad_21 rfl (fun c => ?_) (fun c => ?_)
    · have hP13 := hP12.1 c
      clear hP12
      refine bz_aload_n (pc := 27) dX8_addRoad_27 rfl rfl ?_
      refine bz_rw_rR (pc := 28) dX8_addRoad_28 fl_X8_18 hP13 (fun r_12 hP14 => ?_)
      clear hP13
      refine bz_iload_n (pc := 31) dX8_addRoad_31 rfl rfl ?_
      refine bz_bipush (pc := 32) dX8_addRoad_32 cb_16 ?_
      refine bz_imul (pc := 34) dX8_addRoad_34 ?_
      refine bz_iload_n (pc := 35) dX8_addRoad_35 rfl rfl ?_
      refine bz_iadd (pc := 36) dX8_addRoad_36 ?_
      refine bz_iload_n (pc := 37) dX8_addRoad_37 rfl rfl ?_
      obtain ⟨a_13, rfl, hP15⟩ := hP14
      refine bz_rw_wA (pc := 38) dX8_addRoad_38 hP15 (fun h_14 hP16 => ?_)
      clear hP15
      refine bz_aload_n (pc := 39) dX8_addRoad_39 rfl rfl ?_
      refine bz_rw_rR (pc := 40) dX8_addRoad_40 fl_X8_18 hP16 (fun r_15 hP17 => ?_)
      clear hP16
      refine bz_iload_n (pc := 43) dX8_addRoad_43 rfl rfl ?_
      refine bz_bipush (pc := 44) dX8_addRoad_44 cb_16 ?_
      refine bz_imul (pc := 46) dX8_addRoad_46 ?_
      refine bz_iload_n (pc := 47) dX8_addRoad_47 rfl rfl ?_
      refine bz_iadd (pc := 48) dX8_addRoad_48 ?_
      refine bz_iload_n (pc := 49) dX8_addRoad_49 rfl rfl ?_
      obtain ⟨a_16, rfl, hP18⟩ := hP17
      refine bz_rw_wA (pc := 50) dX8_addRoad_50 hP18 (fun h_17 hP19 => ?_)
      clear hP18
      refine bz_aload_n (pc := 51) dX8_addRoad_51 rfl rfl ?_
      refine bz_kVV (as := []) (st := []) (ci := 8) (n := 0) (mc := 0) (ms := 0) (bc := bc) (bs := bs) (yc := kX8_measureWays) (q := (RX8, TX8, 4)) (b := a0) (pc := 52) dX8_addRoad_52 sc_X8_measureWays ml_X8_30 im_X8_measureWays se_X8_measureWays rfl rfl rfl (Nat.le_of_ble_eq_true rfl) hP19 (fun h_19 hP20 => ?_)
      clear hP19
      refine bz_iload_n (pc := 55) dX8_addRoad_55 rfl rfl ?_
      exact bz_retI (pc := 56) dX8_addRoad_56 rfl rfl hP20
    · have hP21 := hP12.2 c
      clear hP12
      refine bz_iload (pc := 24) dX8_addRoad_24 rfl ?_
      exact bz_retI (pc := 26) dX8_addRoad_26 rfl rfl hP21
theorem m_X8_addRoad {G : bz_G} {l : Launch} {d mc ms : Nat} {F : Option bz_V → bz_H → Prop} (a0 : Nat) (x1 : Int32) (x2 : Int32) (x3 : Int32) (h : bz_H) (hP : w_X8_addRoad_0 G l d F a0 x1 x2 x3 h) : bz_Call G l (d + 1) kX8_addRoad [.inr (some a0), .inl x1, .inl x2, .inl x3] h mc ms F :=
  bz_body (by decide) (Nat.le_of_ble_eq_true rfl) (fun κ hl => g_X8_addRoad_0 hl a0 x1 x2 x3 h hP)
def w_X8_becomeLike_0 (G : bz_G) (l : Launch) (d : Nat) (F : Option bz_V → bz_H → Prop) (a0 : Nat) (r1 : Option Nat) (h : bz_H) : Prop := bz_nn r1 (fun a_1 => bz_rR h a_1 8 0 (fun r_2 => bz_rR h a0 8 0 (fun r_3 => bz_nn r_3 (fun a_4 => bz_nn r_2 (fun a_5 => bz_cp h a_5 0 a_4 0 16 (fun h_6 => bz_rR h_6 a_1 8 1 (fun r_7 => bz_rR h_6 a0 8 1 (fun r_8 => bz_nn r_8 (fun a_9 => bz_nn r_7 (fun a_10 => bz_cp h_6 a_10 0 a_9 0 16 (fun h_11 => bz_rR h_11 a_1 8 2 (fun r_12 => bz_rR h_11 a0 8 2 (fun r_13 => bz_nn r_13 (fun a_14 => bz_nn r_12 (fun a_15 => bz_cp h_11 a_15 0 a_14 0 256 (fun h_16 => bz_rR h_16 a_1 8 3 (fun r_17 => bz_rR h_16 a0 8 3 (fun r_18 => bz_nn r_18 (fun a_19 => bz_nn r_17 (fun a_20 => bz_cp h_16 a_20 0 a_19 0 256 (fun h_21 => F none h_21)))))))))))))))))))))
set_option maxRecDepth 20000 in
set_option maxHeartbeats 4000000 in
theorem g_X8_becomeLike_0 {G : bz_G} {κ : bz_K} {l : Launch} {d : Nat} {F : Option bz_V → bz_H → Prop} {bc bs : Nat} (hl : κ.2.1 = l) (a0 : Nat) (r1 : Option Nat) (h : bz_H) (hP0 : w_X8_becomeLike_0 G l d F a0 r1 h) : bz_J G κ kX8_becomeLike (d + 1) F bc bs 0 [some (.inr (some a0)), some (.inr r1)] [] h := by
  subst hl
  unfold w_X8_becomeLike_0 at hP0
  refine bz_aload_n (pc := 0) dX8_becomeLike_0 rfl rfl ?_
  obtain ⟨a_1, rfl, hP1⟩ := hP0
  refine bz_rw_rR (pc := 1) dX8_becomeLike_1 fl_X8_9 hP1 (fun r_2 hP2 => ?_)
  clear hP1
  refine bz_iconst (pc := 4) dX8_becomeLike_4 ci_0 ?_
  refine bz_aload_n (pc := 5) dX8_becomeLike_5 rfl rfl ?_
  refine bz_rw_rR (pc := 6) dX8_becomeLike_6 fl_X8_9 hP2 (fun r_3 hP3 => ?_)
  clear hP2
  refine bz_iconst (pc := 9) dX8_becomeLike_9 ci_0 ?_
  refine bz_bipush (pc := 10) dX8_becomeLike_10 cb_16 ?_
  obtain ⟨a_4, rfl, hP4⟩ := hP3
  obtain ⟨a_5, rfl, hP5⟩ := hP4
  refine bz_rw_cp (pc := 12) dX8_becomeLike_12 ml_X8_49 ac_n ac_s ac_i (Nat.le_of_ble_eq_true rfl) hP5 (fun h_6 hP6 => ?_)
  clear hP5
  refine bz_aload_n (pc := 15) dX8_becomeLike_15 rfl rfl ?_
  refine bz_rw_rR (pc := 16) dX8_becomeLike_16 fl_X8_15 hP6 (fun r_7 hP7 => ?_)
  clear hP6
  refine bz_iconst (pc := 19) dX8_becomeLike_19 ci_0 ?_
  refine bz_aload_n (pc := 20) dX8_becomeLike_20 rfl rfl ?_
  refine bz_rw_rR (pc := 21) dX8_becomeLike_21 fl_X8_15 hP7 (fun r_8 hP8 => ?_)
  clear hP7
  refine bz_iconst (pc := 24) dX8_becomeLike_24 ci_0 ?_
  refine bz_bipush (pc := 25) dX8_becomeLike_25 cb_16 ?_
  obtain ⟨a_9, rfl, hP9⟩ := hP8
  obtain ⟨a_10, rfl, hP10⟩ := hP9
  refine bz_rw_cp (pc := 27) dX8_becomeLike_27 ml_X8_49 ac_n ac_s ac_i (Nat.le_of_ble_eq_true rfl) hP10 (fun h_11 hP11 => ?_)
  clear hP10
  refine bz_aload_n (pc := 30) dX8_becomeLike_30 rfl rfl ?_
  refine bz_rw_rR (pc := 31) dX8_becomeLike_31 fl_X8_18 hP11 (fun r_12 hP12 => ?_)
  clear hP11
  refine bz_iconst (pc := 34) dX8_becomeLike_34 ci_0 ?_
  refine bz_aload_n (pc := 35) dX8_becomeLike_35 rfl rfl ?_
  refine bz_rw_rR (pc := 36) dX8_becomeLike_36 fl_X8_18 hP12 (fun r_13 hP13 => ?_)
  clear hP12
  refine bz_iconst (pc := 39) dX8_becomeLike_39 ci_0 ?_
  refine bz_sipush (pc := 40) dX8_becomeLike_40 cs_256 ?_
  obtain ⟨a_14, rfl, hP14⟩ := hP13
  obtain ⟨a_15, rfl, hP15⟩ := hP14
  refine bz_rw_cp (pc := 43) dX8_becomeLike_43 ml_X8_49 ac_n ac_s ac_i (Nat.le_of_ble_eq_true rfl) hP15 (fun h_16 hP16 => ?_)
  clear hP15
  refine bz_aload_n (pc := 46) dX8_becomeLike_46 rfl rfl ?_
  refine bz_rw_rR (pc := 47) dX8_becomeLike_47 fl_X8_21 hP16 (fun r_17 hP17 => ?_)
  clear hP16
  refine bz_iconst (pc := 50) dX8_becomeLike_50 ci_0 ?_
  refine bz_aload_n (pc := 51) dX8_becomeLike_51 rfl rfl ?_
  refine bz_rw_rR (pc := 52) dX8_becomeLike_52 fl_X8_21 hP17 (fun r_18 hP18 => ?_)
  clear hP17
  refine bz_iconst (pc := 55) dX8_becomeLike_55 ci_0 ?_
  refine bz_sipush (pc := 56) dX8_becomeLike_56 cs_256 ?_
  obtain ⟨a_19, rfl, hP19⟩ := hP18
  obtain ⟨a_20, rfl, hP20⟩ := hP19
  refine bz_rw_cp (pc := 59) dX8_becomeLike_59 ml_X8_49 ac_n ac_s ac_i (Nat.le_of_ble_eq_true rfl) hP20 (fun h_21 hP21 => ?_)
  clear hP20
  exact bz_retV (pc := 62) dX8_becomeLike_62 rfl hP21
theorem m_X8_becomeLike {G : bz_G} {l : Launch} {d mc ms : Nat} {F : Option bz_V → bz_H → Prop} (a0 : Nat) (r1 : Option Nat) (h : bz_H) (hP : w_X8_becomeLike_0 G l d F a0 r1 h) : bz_Call G l (d + 1) kX8_becomeLike [.inr (some a0), .inr r1] h mc ms F :=
  bz_body (by decide) (Nat.le_of_ble_eq_true rfl) (fun κ hl => g_X8_becomeLike_0 hl a0 r1 h hP)
def w_X8_directWay_0 (G : bz_G) (l : Launch) (d : Nat) (F : Option bz_V → bz_H → Prop) (a0 : Nat) (x1 : Int32) (x2 : Int32) (h : bz_H) : Prop := (¬ x1 = x2 → bz_rR h a0 8 2 (fun r_1 => bz_nn r_1 (fun a_2 => bz_rA h a_2 ((x1 * 16) + x2) (fun x_3 => (¬ x_3 = 0 → bz_rR h a0 8 0 (fun r_4 => bz_nn r_4 (fun a_5 => bz_rA h a_5 x2 (fun x_6 => bz_rR h a0 8 0 (fun r_7 => bz_nn r_7 (fun a_8 => bz_rA h a_8 x1 (fun x_9 => F (some (.inl (x_3 + (if 0 < (x_6 - x_9) then x_6 - x_9 else 0)))) h))))))) ∧ (x_3 = 0 → F (some (.inl (-1))) h))))) ∧ (x1 = x2 → F (some (.inl 0)) h)
set_option maxRecDepth 20000 in
set_option maxHeartbeats 4000000 in
theorem g_X8_directWay_0 {G : bz_G} {κ : bz_K} {l : Launch} {d : Nat} {F : Option bz_V → bz_H → Prop} {bc bs : Nat} (hl : κ.2.1 = l) (a0 : Nat) (x1 : Int32) (x2 : Int32) (h : bz_H) (hP0 : w_X8_directWay_0 G l d F a0 x1 x2 h) : bz_J G κ kX8_directWay (d + 1) F bc bs 0 [some (.inr (some a0)), some (.inl x1), some (.inl x2), none] [] h := by
  subst hl
  unfold w_X8_directWay_0 at hP0
  refine bz_iload_n (pc := 0) dX8_directWay_0 rfl rfl ?_
  refine bz_iload_n (pc := 1) dX8_directWay_1 rfl rfl ?_
  refine bz_icmp_ne (tgt := 7) (pc := 2) dX8_directWay_2 rfl (fun c => ?_) (fun c => ?_)
  · have hP1 := hP0.1 c
    clear hP0
    refine bz_aload_n (pc := 7) dX8_directWay_7 rfl rfl ?_
    refine bz_rw_rR (pc := 8) dX8_directWay_8 fl_X8_18 hP1 (fun r_1 hP2 => ?_)
    clear hP1
    refine bz_iload_n (pc := 11) dX8_directWay_11 rfl rfl ?_
    refine bz_bipush (pc := 12) dX8_directWay_12 cb_16 ?_
    refine bz_imul (pc := 14) dX8_directWay_14 ?_
    refine bz_iload_n (pc := 15) dX8_directWay_15 rfl rfl ?_
    refine bz_iadd (pc := 16) dX8_directWay_16 ?_
    obtain ⟨a_2, rfl, hP3⟩ := hP2
    refine bz_rw_rA (pc := 17) dX8_directWay_17 hP3 (fun x_3 hP4 => ?_)
    clear hP3
    refine bz_s_istore_n (pc := 18) dX8_directWay_18 rfl (Nat.le_of_ble_eq_true rfl) [some (.inr (some a0)), some (.inl x1), some (.inl x2), some (.inl x_3)] rfl ?_
    refine bz_iload_n (pc := 19) dX8_directWay_19 rfl rfl ?_
    refine bz_if_ne (tgt := 27) (pc := 20) dX8_directWay_20 rfl (fun c => ?_) (fun c => ?_)
    · have hP5 := hP4.1 c
      clear hP4
      refine bz_iload_n (pc := 27) dX8_directWay_27 rfl rfl ?_
      refine bz_iconst (pc := 28) dX8_directWay_28 ci_0 ?_
      refine bz_aload_n (pc := 29) dX8_directWay_29 rfl rfl ?_
      refine bz_rw_rR (pc := 30) dX8_directWay_30 fl_X8_9 hP5 (fun r_4 hP6 => ?_)
      clear hP5
      refine bz_iload_n (pc := 33) dX8_directWay_33 rfl rfl ?_
      obtain ⟨a_5, rfl, hP7⟩ := hP6
      refine bz_rw_rA (pc := 34) dX8_directWay_34 hP7 (fun x_6 hP8 => ?_)
      clear hP7
      refine bz_aload_n (pc := 35) dX8_directWay_35 rfl rfl ?_
      refine bz_rw_rR (pc := 36) dX8_directWay_36 fl_X8_9 hP8 (fun r_7 hP9 => ?_)
      clear hP8
      refine bz_iload_n (pc := 39) dX8_directWay_39 rfl rfl ?_
      obtain ⟨a_8, rfl, hP10⟩ := hP9
      refine bz_rw_rA (pc := 40) dX8_directWay_40 hP10 (fun x_9 hP11 => ?_)
      clear hP10
      refine bz_isub (pc := 41) dX8_directWay_41 ?_
      refine bz_mmax (pc := 42) dX8_directWay_42 ml_X8_44 mt_max mt_init mt_code_max (Nat.succ_pos d) (Nat.le_of_ble_eq_true rfl) ?_
      refine bz_iadd (pc := 45) dX8_directWay_45 ?_
      exact bz_retI (pc := 46) dX8_directWay_46 rfl rfl hP11
    · have hP12 := hP4.2 c
      clear hP4
      refine bz_iconst (pc := 23) dX8_directWay_23 ci_m1 ?_
      refine bz_goto (tgt := 46) (pc := 24) dX8_directWay_24 rfl ?_
      exact bz_retI (pc := 46) dX8_directWay_46 rfl rfl hP12
  · have hP13 := hP0.2 c
    clear hP0
    refine bz_iconst (pc := 5) dX8_directWay_5 ci_0 ?_
    exact bz_retI (pc := 6) dX8_directWay_6 rfl rfl hP13
theorem m_X8_directWay {G : bz_G} {l : Launch} {d mc ms : Nat} {F : Option bz_V → bz_H → Prop} (a0 : Nat) (x1 : Int32) (x2 : Int32) (h : bz_H) (hP : w_X8_directWay_0 G l d F a0 x1 x2 h) : bz_Call G l (d + 1) kX8_directWay [.inr (some a0), .inl x1, .inl x2] h mc ms F :=
  bz_body (by decide) (Nat.le_of_ble_eq_true rfl) (fun κ hl => g_X8_directWay_0 hl a0 x1 x2 h hP)
def w_X8_measureWays_0 (G : bz_G) (κ : bz_K) (l : Launch) (d : Nat) (F : Option bz_V → bz_H → Prop) (bc bs : Nat) (a0 : Nat) (h : bz_H) : Prop := bz_J G κ kX8_measureWays (d + 1) F bc bs 2 [some (.inr (some a0)), some (.inl 0), none] [] h
set_option maxRecDepth 20000 in
set_option maxHeartbeats 4000000 in
theorem g_X8_measureWays_0 {G : bz_G} {κ : bz_K} {l : Launch} {d : Nat} {F : Option bz_V → bz_H → Prop} {bc bs : Nat} (hl : κ.2.1 = l) (a0 : Nat) (h : bz_H) (hP0 : w_X8_measureWays_0 G κ l d F bc bs a0 h) : bz_J G κ kX8_measureWays (d + 1) F bc bs 0 [some (.inr (some a0)), none, none] [] h := by
  subst hl
  unfold w_X8_measureWays_0 at hP0
  refine bz_iconst (pc := 0) dX8_measureWays_0 ci_0 ?_
  refine bz_s_istore_n (pc := 1) dX8_measureWays_1 rfl (Nat.le_of_ble_eq_true rfl) [some (.inr (some a0)), some (.inl 0), none] rfl ?_
  exact hP0
def w_X8_measureWays_2 (G : bz_G) (κ : bz_K) (l : Launch) (d : Nat) (F : Option bz_V → bz_H → Prop) (bc bs : Nat) (a0 : Nat) (x1 : Int32) (u2 : Option bz_V) (h : bz_H) : Prop := (16 ≤ x1 → bz_J G κ kX8_measureWays (d + 1) F bc bs 47 [some (.inr (some a0)), some (.inl 0), u2] [] h) ∧ (¬ (16 ≤ x1) → bz_J G κ kX8_measureWays (d + 1) F bc bs 10 [some (.inr (some a0)), some (.inl x1), some (.inl 0)] [] h)
set_option maxRecDepth 20000 in
set_option maxHeartbeats 4000000 in
theorem g_X8_measureWays_2 {G : bz_G} {κ : bz_K} {l : Launch} {d : Nat} {F : Option bz_V → bz_H → Prop} {bc bs : Nat} (hl : κ.2.1 = l) (a0 : Nat) (x1 : Int32) (u2 : Option bz_V) (h : bz_H) (hP0 : w_X8_measureWays_2 G κ l d F bc bs a0 x1 u2 h) : bz_J G κ kX8_measureWays (d + 1) F bc bs 2 [some (.inr (some a0)), some (.inl x1), u2] [] h := by
  subst hl
  unfold w_X8_measureWays_2 at hP0
  refine bz_iload_n (pc := 2) dX8_measureWays_2 rfl rfl ?_
  refine bz_bipush (pc := 3) dX8_measureWays_3 cb_16 ?_
  refine bz_icmp_ge (tgt := 45) (pc := 5) dX8_measureWays_5 rfl (fun c => ?_) (fun c => ?_)
  · have hP1 := hP0.1 c
    clear hP0
    refine bz_iconst (pc := 45) dX8_measureWays_45 ci_0 ?_
    refine bz_s_istore_n (pc := 46) dX8_measureWays_46 rfl (Nat.le_of_ble_eq_true rfl) [some (.inr (some a0)), some (.inl 0), u2] rfl ?_
    exact hP1
  · have hP2 := hP0.2 c
    clear hP0
    refine bz_iconst (pc := 8) dX8_measureWays_8 ci_0 ?_
    refine bz_s_istore_n (pc := 9) dX8_measureWays_9 rfl (Nat.le_of_ble_eq_true rfl) [some (.inr (some a0)), some (.inl x1), some (.inl 0)] rfl ?_
    exact hP2
def w_X8_measureWays_10 (G : bz_G) (κ : bz_K) (l : Launch) (d : Nat) (F : Option bz_V → bz_H → Prop) (bc bs : Nat) (a0 : Nat) (x1 : Int32) (x2 : Int32) (h : bz_H) : Prop := (16 ≤ x2 → bz_J G κ kX8_measureWays (d + 1) F bc bs 2 [some (.inr (some a0)), some (.inl (x1 + 1)), some (.inl x2)] [] h) ∧ (¬ (16 ≤ x2) → bz_rR h a0 8 3 (fun r_1 => bz_rc h a0 8 (bz_cI G l d kX8_directWay [.inr (some a0), .inl x1, .inl x2] h 0 0 (fun x_2 h_3 => bz_nn r_1 (fun a_4 => bz_wA h_3 a_4 ((x1 * 16) + x2) x_2 (fun h_5 => bz_J G κ kX8_measureWays (d + 1) F bc bs 10 [some (.inr (some a0)), some (.inl x1), some (.inl (x2 + 1))] [] h_5))))))
set_option maxRecDepth 20000 in
set_option maxHeartbeats 4000000 in
theorem g_X8_measureWays_10 {G : bz_G} {κ : bz_K} {l : Launch} {d : Nat} {F : Option bz_V → bz_H → Prop} {bc bs : Nat} (hl : κ.2.1 = l) (a0 : Nat) (x1 : Int32) (x2 : Int32) (h : bz_H) (hP0 : w_X8_measureWays_10 G κ l d F bc bs a0 x1 x2 h) : bz_J G κ kX8_measureWays (d + 1) F bc bs 10 [some (.inr (some a0)), some (.inl x1), some (.inl x2)] [] h := by
  subst hl
  unfold w_X8_measureWays_10 at hP0
  refine bz_iload_n (pc := 10) dX8_measureWays_10 rfl rfl ?_
  refine bz_bipush (pc := 11) dX8_measureWays_11 cb_16 ?_
  refine bz_icmp_ge (tgt := 39) (pc := 13) dX8_measureWays_13 rfl (fun c => ?_) (fun c => ?_)
  · have hP1 := hP0.1 c
    clear hP0
    refine bz_s_iinc (pc := 39) dX8_measureWays_39 (Nat.le_of_ble_eq_true rfl) rfl rfl [some (.inr (some a0)), some (.inl (x1 + 1)), some (.inl x2)] rfl ?_
    refine bz_goto (tgt := 2) (pc := 42) dX8_measureWays_42 rfl ?_
    exact hP1
  · have hP2 := hP0.2 c
    clear hP0
    refine bz_aload_n (pc := 16) dX8_measureWays_16 rfl rfl ?_
    refine bz_rw_rR (pc := 17) dX8_measureWays_17 fl_X8_21 hP2 (fun r_1 hP3 => ?_)
    clear hP2
    refine bz_iload_n (pc := 20) dX8_measureWays_20 rfl rfl ?_
    refine bz_bipush (pc := 21) dX8_measureWays_21 cb_16 ?_
    refine bz_imul (pc := 23) dX8_measureWays_23 ?_
    refine bz_iload_n (pc := 24) dX8_measureWays_24 rfl rfl ?_
    refine bz_iadd (pc := 25) dX8_measureWays_25 ?_
    refine bz_aload_n (pc := 26) dX8_measureWays_26 rfl rfl ?_
    refine bz_iload_n (pc := 27) dX8_measureWays_27 rfl rfl ?_
    refine bz_iload_n (pc := 28) dX8_measureWays_28 rfl rfl ?_
    refine bz_kIV (as := [.inl x1, .inl x2]) (st := [.inl ((x1 * 16) + x2), .inr r_1]) (ci := 8) (n := 2) (mc := 0) (ms := 0) (bc := bc) (bs := bs) (yc := kX8_directWay) (q := (RX8, TX8, 4)) (b := a0) (pc := 29) dX8_measureWays_29 sc_X8_directWay ml_X8_33 im_X8_directWay se_X8_directWay rfl rfl rfl (Nat.le_of_ble_eq_true rfl) hP3 (fun x_2 h_3 hP4 => ?_)
    clear hP3
    obtain ⟨a_4, rfl, hP5⟩ := hP4
    refine bz_rw_wA (pc := 32) dX8_measureWays_32 hP5 (fun h_5 hP6 => ?_)
    clear hP5
    refine bz_s_iinc (pc := 33) dX8_measureWays_33 (Nat.le_of_ble_eq_true rfl) rfl rfl [some (.inr (some a0)), some (.inl x1), some (.inl (x2 + 1))] rfl ?_
    refine bz_goto (tgt := 10) (pc := 36) dX8_measureWays_36 rfl ?_
    exact hP6
def w_X8_measureWays_47 (G : bz_G) (κ : bz_K) (l : Launch) (d : Nat) (F : Option bz_V → bz_H → Prop) (bc bs : Nat) (a0 : Nat) (x1 : Int32) (u2 : Option bz_V) (h : bz_H) : Prop := (16 ≤ x1 → F none h) ∧ (¬ (16 ≤ x1) → bz_J G κ kX8_measureWays (d + 1) F bc bs 55 [some (.inr (some a0)), some (.inl x1), some (.inl 0)] [] h)
set_option maxRecDepth 20000 in
set_option maxHeartbeats 4000000 in
theorem g_X8_measureWays_47 {G : bz_G} {κ : bz_K} {l : Launch} {d : Nat} {F : Option bz_V → bz_H → Prop} {bc bs : Nat} (hl : κ.2.1 = l) (a0 : Nat) (x1 : Int32) (u2 : Option bz_V) (h : bz_H) (hP0 : w_X8_measureWays_47 G κ l d F bc bs a0 x1 u2 h) : bz_J G κ kX8_measureWays (d + 1) F bc bs 47 [some (.inr (some a0)), some (.inl x1), u2] [] h := by
  subst hl
  unfold w_X8_measureWays_47 at hP0
  refine bz_iload_n (pc := 47) dX8_measureWays_47 rfl rfl ?_
  refine bz_bipush (pc := 48) dX8_measureWays_48 cb_16 ?_
  refine bz_icmp_ge (tgt := 89) (pc := 50) dX8_measureWays_50 rfl (fun c => ?_) (fun c => ?_)
  · have hP1 := hP0.1 c
    clear hP0
    exact bz_retV (pc := 89) dX8_measureWays_89 rfl hP1
  · have hP2 := hP0.2 c
    clear hP0
    refine bz_iconst (pc := 53) dX8_measureWays_53 ci_0 ?_
    refine bz_s_istore_n (pc := 54) dX8_measureWays_54 rfl (Nat.le_of_ble_eq_true rfl) [some (.inr (some a0)), some (.inl x1), some (.inl 0)] rfl ?_
    exact hP2
def w_X8_measureWays_55 (G : bz_G) (κ : bz_K) (l : Launch) (d : Nat) (F : Option bz_V → bz_H → Prop) (bc bs : Nat) (a0 : Nat) (x1 : Int32) (x2 : Int32) (h : bz_H) : Prop := (16 ≤ x2 → bz_J G κ kX8_measureWays (d + 1) F bc bs 47 [some (.inr (some a0)), some (.inl (x1 + 1)), some (.inl x2)] [] h) ∧ (¬ (16 ≤ x2) → bz_rc h a0 8 (bz_cI G l d kX8_wayBetween [.inr (some a0), .inl x2, .inl x1] h 0 0 (fun x_6 h_7 => (x_6 = (-1) → bz_J G κ kX8_measureWays (d + 1) F bc bs 55 [some (.inr (some a0)), some (.inl x1), some (.inl (x2 + 1))] [] h_7) ∧ (¬ (x_6 = (-1)) → bz_rc h_7 a0 8 (bz_cV G l d kX8_shortenThrough [.inr (some a0), .inl x2, .inl x1] h_7 0 0 (fun h_9 => bz_J G κ kX8_measureWays (d + 1) F bc bs 55 [some (.inr (some a0)), some (.inl x1), some (.inl (x2 + 1))] [] h_9))))))
set_option maxRecDepth 20000 in
set_option maxHeartbeats 4000000 in
theorem g_X8_measureWays_55 {G : bz_G} {κ : bz_K} {l : Launch} {d : Nat} {F : Option bz_V → bz_H → Prop} {bc bs : Nat} (hl : κ.2.1 = l) (a0 : Nat) (x1 : Int32) (x2 : Int32) (h : bz_H) (hP0 : w_X8_measureWays_55 G κ l d F bc bs a0 x1 x2 h) : bz_J G κ kX8_measureWays (d + 1) F bc bs 55 [some (.inr (some a0)), some (.inl x1), some (.inl x2)] [] h := by
  subst hl
  unfold w_X8_measureWays_55 at hP0
  refine bz_iload_n (pc := 55) dX8_measureWays_55 rfl rfl ?_
  refine bz_bipush (pc := 56) dX8_measureWays_56 cb_16 ?_
  refine bz_icmp_ge (tgt := 83) (pc := 58) dX8_measureWays_58 rfl (fun c => ?_) (fun c => ?_)
  · have hP1 := hP0.1 c
    clear hP0
    refine bz_s_iinc (pc := 83) dX8_measureWays_83 (Nat.le_of_ble_eq_true rfl) rfl rfl [some (.inr (some a0)), some (.inl (x1 + 1)), some (.inl x2)] rfl ?_
    refine bz_goto (tgt := 47) (pc := 86) dX8_measureWays_86 rfl ?_
    exact hP1
  · have hP2 := hP0.2 c
    clear hP0
    refine bz_aload_n (pc := 61) dX8_measureWays_61 rfl rfl ?_
    refine bz_iload_n (pc := 62) dX8_measureWays_62 rfl rfl ?_
    refine bz_iload_n (pc := 63) dX8_measureWays_63 rfl rfl ?_
    refine bz_kIV (as := [.inl x2, .inl x1]) (st := []) (ci := 8) (n := 2) (mc := 0) (ms := 0) (bc := bc) (bs := bs) (yc := kX8_wayBetween) (q := (RX8, TX8, 4)) (b := a0) (pc := 64) dX8_measureWays_64 sc_X8_wayBetween ml_X8_37 im_X8_wayBetween se_X8_wayBetween rfl rfl rfl (Nat.le_of_ble_eq_true rfl) hP2 (fun x_6 h_7 hP3 => ?_)
    clear hP2
    refine bz_iconst (pc := 67) dX8_measureWays_67 ci_m1 ?_
    refine bz_icmp_eq (tgt := 77) (pc := 68) dX8_measureWays_68 rfl (fun c => ?_) (fun c => ?_)
    · have hP4 := hP3.1 c
      clear hP3
      refine bz_s_iinc (pc := 77) dX8_measureWays_77 (Nat.le_of_ble_eq_true rfl) rfl rfl [some (.inr (some a0)), some (.inl x1), some (.inl (x2 + 1))] rfl ?_
      refine bz_goto (tgt := 55) (pc := 80) dX8_measureWays_80 rfl ?_
      exact hP4
    · have hP5 := hP3.2 c
      clear hP3
      refine bz_aload_n (pc := 71) dX8_measureWays_71 rfl rfl ?_
      refine bz_iload_n (pc := 72) dX8_measureWays_72 rfl rfl ?_
      refine bz_iload_n (pc := 73) dX8_measureWays_73 rfl rfl ?_
      refine bz_kVV (as := [.inl x2, .inl x1]) (st := []) (ci := 8) (n := 2) (mc := 0) (ms := 0) (bc := bc) (bs := bs) (yc := kX8_shortenThrough) (q := (RX8, TX8, 4)) (b := a0) (pc := 74) dX8_measureWays_74 sc_X8_shortenThrough ml_X8_40 im_X8_shortenThrough se_X8_shortenThrough rfl rfl rfl (Nat.le_of_ble_eq_true rfl) hP5 (fun h_9 hP6 => ?_)
      clear hP5
      refine bz_s_iinc (pc := 77) dX8_measureWays_77 (Nat.le_of_ble_eq_true rfl) rfl rfl [some (.inr (some a0)), some (.inl x1), some (.inl (x2 + 1))] rfl ?_
      refine bz_goto (tgt := 55) (pc := 80) dX8_measureWays_80 rfl ?_
      exact hP6
theorem m_X8_measureWays {G : bz_G} {l : Launch} {d mc ms : Nat} {F : Option bz_V → bz_H → Prop} (a0 : Nat) (h : bz_H) (hP : ∀ (κ : bz_K) (bc bs : Nat), κ.2.1 = l → w_X8_measureWays_0 G κ l d F bc bs a0 h) : bz_Call G l (d + 1) kX8_measureWays [.inr (some a0)] h mc ms F :=
  bz_body (by decide) (Nat.le_of_ble_eq_true rfl) (fun κ hl => g_X8_measureWays_0 hl a0 h (hP κ mc ms hl))
def w_X8_putHeight_0 (G : bz_G) (l : Launch) (d : Nat) (F : Option bz_V → bz_H → Prop) (a0 : Nat) (x1 : Int32) (x2 : Int32) (h : bz_H) : Prop := bz_rR h a0 8 0 (fun r_1 => bz_nn r_1 (fun a_2 => bz_rA h a_2 x1 (fun x_3 => bz_rR h a0 8 0 (fun r_4 => bz_nn r_4 (fun a_5 => bz_wA h a_5 x1 x2 (fun h_6 => (x_3 = x2 → F (some (.inl x_3)) h_6) ∧ (¬ (x_3 = x2) → bz_rc h_6 a0 8 (bz_cV G l d kX8_measureWays [.inr (some a0)] h_6 0 0 (fun h_8 => F (some (.inl x_3)) h_8)))))))))
set_option maxRecDepth 20000 in
set_option maxHeartbeats 4000000 in
theorem g_X8_putHeight_0 {G : bz_G} {κ : bz_K} {l : Launch} {d : Nat} {F : Option bz_V → bz_H → Prop} {bc bs : Nat} (hl : κ.2.1 = l) (a0 : Nat) (x1 : Int32) (x2 : Int32) (h : bz_H) (hP0 : w_X8_putHeight_0 G l d F a0 x1 x2 h) : bz_J G κ kX8_putHeight (d + 1) F bc bs 0 [some (.inr (some a0)), some (.inl x1), some (.inl x2), none] [] h := by
  subst hl
  unfold w_X8_putHeight_0 at hP0
  refine bz_aload_n (pc := 0) dX8_putHeight_0 rfl rfl ?_
  refine bz_rw_rR (pc := 1) dX8_putHeight_1 fl_X8_9 hP0 (fun r_1 hP1 => ?_)
  clear hP0
  refine bz_iload_n (pc := 4) dX8_putHeight_4 rfl rfl ?_
  obtain ⟨a_2, rfl, hP2⟩ := hP1
  refine bz_rw_rA (pc := 5) dX8_putHeight_5 hP2 (fun x_3 hP3 => ?_)
  clear hP2
  refine bz_s_istore_n (pc := 6) dX8_putHeight_6 rfl (Nat.le_of_ble_eq_true rfl) [some (.inr (some a0)), some (.inl x1), some (.inl x2), some (.inl x_3)] rfl ?_
  refine bz_aload_n (pc := 7) dX8_putHeight_7 rfl rfl ?_
  refine bz_rw_rR (pc := 8) dX8_putHeight_8 fl_X8_9 hP3 (fun r_4 hP4 => ?_)
  clear hP3
  refine bz_iload_n (pc := 11) dX8_putHeight_11 rfl rfl ?_
  refine bz_iload_n (pc := 12) dX8_putHeight_12 rfl rfl ?_
  obtain ⟨a_5, rfl, hP5⟩ := hP4
  refine bz_rw_wA (pc := 13) dX8_putHeight_13 hP5 (fun h_6 hP6 => ?_)
  clear hP5
  refine bz_iload_n (pc := 14) dX8_putHeight_14 rfl rfl ?_
  refine bz_iload_n (pc := 15) dX8_putHeight_15 rfl rfl ?_
  refine bz_icmp_eq (tgt := 23) (pc := 16) dX8_putHeight_16 rfl (fun c => ?_) (fun c => ?_)
  · have hP7 := hP6.1 c
    clear hP6
    refine bz_iload_n (pc := 23) dX8_putHeight_23 rfl rfl ?_
    exact bz_retI (pc := 24) dX8_putHeight_24 rfl rfl hP7
  · have hP8 := hP6.2 c
    clear hP6
    refine bz_aload_n (pc := 19) dX8_putHeight_19 rfl rfl ?_
    refine bz_kVV (as := []) (st := []) (ci := 8) (n := 0) (mc := 0) (ms := 0) (bc := bc) (bs := bs) (yc := kX8_measureWays) (q := (RX8, TX8, 4)) (b := a0) (pc := 20) dX8_putHeight_20 sc_X8_measureWays ml_X8_30 im_X8_measureWays se_X8_measureWays rfl rfl rfl (Nat.le_of_ble_eq_true rfl) hP8 (fun h_8 hP9 => ?_)
    clear hP8
    refine bz_iload_n (pc := 23) dX8_putHeight_23 rfl rfl ?_
    exact bz_retI (pc := 24) dX8_putHeight_24 rfl rfl hP9
theorem m_X8_putHeight {G : bz_G} {l : Launch} {d mc ms : Nat} {F : Option bz_V → bz_H → Prop} (a0 : Nat) (x1 : Int32) (x2 : Int32) (h : bz_H) (hP : w_X8_putHeight_0 G l d F a0 x1 x2 h) : bz_Call G l (d + 1) kX8_putHeight [.inr (some a0), .inl x1, .inl x2] h mc ms F :=
  bz_body (by decide) (Nat.le_of_ble_eq_true rfl) (fun κ hl => g_X8_putHeight_0 hl a0 x1 x2 h hP)
def w_X8_putZone_0 (G : bz_G) (l : Launch) (d : Nat) (F : Option bz_V → bz_H → Prop) (a0 : Nat) (x1 : Int32) (x2 : Int32) (h : bz_H) : Prop := bz_rR h a0 8 1 (fun r_1 => bz_nn r_1 (fun a_2 => bz_rA h a_2 x1 (fun x_3 => bz_rR h a0 8 1 (fun r_4 => bz_nn r_4 (fun a_5 => bz_wA h a_5 x1 x2 (fun h_6 => F (some (.inl x_3)) h_6))))))
set_option maxRecDepth 20000 in
set_option maxHeartbeats 4000000 in
theorem g_X8_putZone_0 {G : bz_G} {κ : bz_K} {l : Launch} {d : Nat} {F : Option bz_V → bz_H → Prop} {bc bs : Nat} (hl : κ.2.1 = l) (a0 : Nat) (x1 : Int32) (x2 : Int32) (h : bz_H) (hP0 : w_X8_putZone_0 G l d F a0 x1 x2 h) : bz_J G κ kX8_putZone (d + 1) F bc bs 0 [some (.inr (some a0)), some (.inl x1), some (.inl x2), none] [] h := by
  subst hl
  unfold w_X8_putZone_0 at hP0
  refine bz_aload_n (pc := 0) dX8_putZone_0 rfl rfl ?_
  refine bz_rw_rR (pc := 1) dX8_putZone_1 fl_X8_15 hP0 (fun r_1 hP1 => ?_)
  clear hP0
  refine bz_iload_n (pc := 4) dX8_putZone_4 rfl rfl ?_
  obtain ⟨a_2, rfl, hP2⟩ := hP1
  refine bz_rw_rA (pc := 5) dX8_putZone_5 hP2 (fun x_3 hP3 => ?_)
  clear hP2
  refine bz_s_istore_n (pc := 6) dX8_putZone_6 rfl (Nat.le_of_ble_eq_true rfl) [some (.inr (some a0)), some (.inl x1), some (.inl x2), some (.inl x_3)] rfl ?_
  refine bz_aload_n (pc := 7) dX8_putZone_7 rfl rfl ?_
  refine bz_rw_rR (pc := 8) dX8_putZone_8 fl_X8_15 hP3 (fun r_4 hP4 => ?_)
  clear hP3
  refine bz_iload_n (pc := 11) dX8_putZone_11 rfl rfl ?_
  refine bz_iload_n (pc := 12) dX8_putZone_12 rfl rfl ?_
  obtain ⟨a_5, rfl, hP5⟩ := hP4
  refine bz_rw_wA (pc := 13) dX8_putZone_13 hP5 (fun h_6 hP6 => ?_)
  clear hP5
  refine bz_iload_n (pc := 14) dX8_putZone_14 rfl rfl ?_
  exact bz_retI (pc := 15) dX8_putZone_15 rfl rfl hP6
theorem m_X8_putZone {G : bz_G} {l : Launch} {d mc ms : Nat} {F : Option bz_V → bz_H → Prop} (a0 : Nat) (x1 : Int32) (x2 : Int32) (h : bz_H) (hP : w_X8_putZone_0 G l d F a0 x1 x2 h) : bz_Call G l (d + 1) kX8_putZone [.inr (some a0), .inl x1, .inl x2] h mc ms F :=
  bz_body (by decide) (Nat.le_of_ble_eq_true rfl) (fun κ hl => g_X8_putZone_0 hl a0 x1 x2 h hP)
def w_X8_shortenThrough_0 (G : bz_G) (κ : bz_K) (l : Launch) (d : Nat) (F : Option bz_V → bz_H → Prop) (bc bs : Nat) (a0 : Nat) (x1 : Int32) (x2 : Int32) (h : bz_H) : Prop := bz_rc h a0 8 (bz_cI G l d kX8_wayBetween [.inr (some a0), .inl x1, .inl x2] h 0 0 (fun x_1 h_2 => bz_J G κ kX8_shortenThrough (d + 1) F bc bs 10 [some (.inr (some a0)), some (.inl x1), some (.inl x2), some (.inl x_1), some (.inl 0), none, none] [] h_2))
set_option maxRecDepth 20000 in
set_option maxHeartbeats 4000000 in
theorem g_X8_shortenThrough_0 {G : bz_G} {κ : bz_K} {l : Launch} {d : Nat} {F : Option bz_V → bz_H → Prop} {bc bs : Nat} (hl : κ.2.1 = l) (a0 : Nat) (x1 : Int32) (x2 : Int32) (h : bz_H) (hP0 : w_X8_shortenThrough_0 G κ l d F bc bs a0 x1 x2 h) : bz_J G κ kX8_shortenThrough (d + 1) F bc bs 0 [some (.inr (some a0)), some (.inl x1), some (.inl x2), none, none, none, none] [] h := by
  subst hl
  unfold w_X8_shortenThrough_0 at hP0
  refine bz_aload_n (pc := 0) dX8_shortenThrough_0 rfl rfl ?_
  refine bz_iload_n (pc := 1) dX8_shortenThrough_1 rfl rfl ?_
  refine bz_iload_n (pc := 2) dX8_shortenThrough_2 rfl rfl ?_
  refine bz_kIV (as := [.inl x1, .inl x2]) (st := []) (ci := 8) (n := 2) (mc := 0) (ms := 0) (bc := bc) (bs := bs) (yc := kX8_wayBetween) (q := (RX8, TX8, 4)) (b := a0) (pc := 3) dX8_shortenThrough_3 sc_X8_wayBetween ml_X8_37 im_X8_wayBetween se_X8_wayBetween rfl rfl rfl (Nat.le_of_ble_eq_true rfl) hP0 (fun x_1 h_2 hP1 => ?_)
  clear hP0
  refine bz_s_istore_n (pc := 6) dX8_shortenThrough_6 rfl (Nat.le_of_ble_eq_true rfl) [some (.inr (some a0)), some (.inl x1), some (.inl x2), some (.inl x_1), none, none, none] rfl ?_
  refine bz_iconst (pc := 7) dX8_shortenThrough_7 ci_0 ?_
  refine bz_s_istore (pc := 8) dX8_shortenThrough_8 (Nat.le_of_ble_eq_true rfl) [some (.inr (some a0)), some (.inl x1), some (.inl x2), some (.inl x_1), some (.inl 0), none, none] rfl ?_
  exact hP1
def w_X8_shortenThrough_10 (G : bz_G) (κ : bz_K) (l : Launch) (d : Nat) (F : Option bz_V → bz_H → Prop) (bc bs : Nat) (a0 : Nat) (x1 : Int32) (x2 : Int32) (x3 : Int32) (x4 : Int32) (u5 : Option bz_V) (u6 : Option bz_V) (h : bz_H) : Prop := (16 ≤ x4 → F none h) ∧ (¬ (16 ≤ x4) → bz_rc h a0 8 (bz_cI G l d kX8_wayBetween [.inr (some a0), .inl x2, .inl x4] h 0 0 (fun x_3 h_4 => bz_rc h_4 a0 8 (bz_cI G l d kX8_wayBetween [.inr (some a0), .inl x1, .inl x4] h_4 0 0 (fun x_5 h_6 => (x_3 = (-1) → bz_J G κ kX8_shortenThrough (d + 1) F bc bs 10 [some (.inr (some a0)), some (.inl x1), some (.inl x2), some (.inl x3), some (.inl (x4 + 1)), some (.inl x_3), some (.inl x_5)] [] h_6) ∧ (¬ (x_3 = (-1)) → (x_5 = (-1) → bz_rR h_6 a0 8 3 (fun r_7 => bz_nn r_7 (fun a_8 => bz_wA h_6 a_8 ((x1 * 16) + x4) (x3 + x_3) (fun h_9 => bz_J G κ kX8_shortenThrough (d + 1) F bc bs 10 [some (.inr (some a0)), some (.inl x1), some (.inl x2), some (.inl x3), some (.inl (x4 + 1)), some (.inl x_3), some (.inl x_5)] [] h_9)))) ∧ (¬ (x_5 = (-1)) → (x_5 ≤ (x3 + x_3) → bz_J G κ kX8_shortenThrough (d + 1) F bc bs 10 [some (.inr (some a0)), some (.inl x1), some (.inl x2), some (.inl x3), some (.inl (x4 + 1)), some (.inl x_3), some (.inl x_5)] [] h_6) ∧ (¬ (x_5 ≤ (x3 + x_3)) → bz_rR h_6 a0 8 3 (fun r_10 => bz_nn r_10 (fun a_11 => bz_wA h_6 a_11 ((x1 * 16) + x4) (x3 + x_3) (fun h_12 => bz_J G κ kX8_shortenThrough (d + 1) F bc bs 10 [some (.inr (some a0)), some (.inl x1), some (.inl x2), some (.inl x3), some (.inl (x4 + 1)), some (.inl x_3), some (.inl x_5)] [] h_12)))))))))))
set_option maxRecDepth 20000 in
set_option maxHeartbeats 4000000 in
theorem g_X8_shortenThrough_10 {G : bz_G} {κ : bz_K} {l : Launch} {d : Nat} {F : Option bz_V → bz_H → Prop} {bc bs : Nat} (hl : κ.2.1 = l) (a0 : Nat) (x1 : Int32) (x2 : Int32) (x3 : Int32) (x4 : Int32) (u5 : Option bz_V) (u6 : Option bz_V) (h : bz_H) (hP0 : w_X8_shortenThrough_10 G κ l d F bc bs a0 x1 x2 x3 x4 u5 u6 h) : bz_J G κ kX8_shortenThrough (d + 1) F bc bs 10 [some (.inr (some a0)), some (.inl x1), some (.inl x2), some (.inl x3), some (.inl x4), u5, u6] [] h := by
  subst hl
  unfold w_X8_shortenThrough_10 at hP0
  refine bz_iload (pc := 10) dX8_shortenThrough_10 rfl ?_
  refine bz_bipush (pc := 12) dX8_shortenThrough_12 cb_16 ?_
  refine bz_icmp_ge (tgt := 78) (pc := 14) dX8_shortenThrough_14 rfl (fun c => ?_) (fun c => ?_)
  · have hP1 := hP0.1 c
    clear hP0
    exact bz_retV (pc := 78) dX8_shortenThrough_78 rfl hP1
  · have hP2 := hP0.2 c
    clear hP0
    refine bz_aload_n (pc := 17) dX8_shortenThrough_17 rfl rfl ?_
    refine bz_iload_n (pc := 18) dX8_shortenThrough_18 rfl rfl ?_
    refine bz_iload (pc := 19) dX8_shortenThrough_19 rfl ?_
    refine bz_kIV (as := [.inl x2, .inl x4]) (st := []) (ci := 8) (n := 2) (mc := 0) (ms := 0) (bc := bc) (bs := bs) (yc := kX8_wayBetween) (q := (RX8, TX8, 4)) (b := a0) (pc := 21) dX8_shortenThrough_21 sc_X8_wayBetween ml_X8_37 im_X8_wayBetween se_X8_wayBetween rfl rfl rfl (Nat.le_of_ble_eq_true rfl) hP2 (fun x_3 h_4 hP3 => ?_)
    clear hP2
    refine bz_s_istore (pc := 24) dX8_shortenThrough_24 (Nat.le_of_ble_eq_true rfl) [some (.inr (some a0)), some (.inl x1), some (.inl x2), some (.inl x3), some (.inl x4), some (.inl x_3), u6] rfl ?_
    refine bz_aload_n (pc := 26) dX8_shortenThrough_26 rfl rfl ?_
    refine bz_iload_n (pc := 27) dX8_shortenThrough_27 rfl rfl ?_
    refine bz_iload (pc := 28) dX8_shortenThrough_28 rfl ?_
    refine bz_kIV (as := [.inl x1, .inl x4]) (st := []) (ci := 8) (n := 2) (mc := 0) (ms := 0) (bc := bc) (bs := bs) (yc := kX8_wayBetween) (q := (RX8, TX8, 4)) (b := a0) (pc := 30) dX8_shortenThrough_30 sc_X8_wayBetween ml_X8_37 im_X8_wayBetween se_X8_wayBetween rfl rfl rfl (Nat.le_of_ble_eq_true rfl) hP3 (fun x_5 h_6 hP4 => ?_)
    clear hP3
    refine bz_s_istore (pc := 33) dX8_shortenThrough_33 (Nat.le_of_ble_eq_true rfl) [some (.inr (some a0)), some (.inl x1), some (.inl x2), some (.inl x3), some (.inl x4), some (.inl x_3), some (.inl x_5)] rfl ?_
    refine bz_iload (pc := 35) dX8_shortenThrough_35 rfl ?_
    refine bz_iconst (pc := 37) dX8_shortenThrough_37 ci_m1 ?_
    refine bz_icmp_eq (tgt := 72) (pc := 38) dX8_shortenThrough_38 rfl (fun c => ?_) (fun c => ?_)
    · have hP5 := hP4.1 c
      clear hP4
      refine bz_s_iinc (pc := 72) dX8_shortenThrough_72 (Nat.le_of_ble_eq_true rfl) rfl rfl [some (.inr (some a0)), some (.inl x1), some (.inl x2), some (.inl x3), some (.inl (x4 + 1)), some (.inl x_3), some (.inl x_5)] rfl ?_
      refine bz_goto (tgt := 10) (pc := 75) dX8_shortenThrough_75 rfl ?_
      exact hP5
    · have hP6 := hP4.2 c
      clear hP4
      refine bz_iload (pc := 41) dX8_shortenThrough_41 rfl ?_
      refine bz_iconst (pc := 43) dX8_shortenThrough_43 ci_m1 ?_
      refine bz_icmp_eq (tgt := 56) (pc := 44) dX8_shortenThrough_44 rfl (fun c => ?_) (fun c => ?_)
      · have hP7 := hP6.1 c
        clear hP6
        refine bz_aload_n (pc := 56) dX8_shortenThrough_56 rfl rfl ?_
        refine bz_rw_rR (pc := 57) dX8_shortenThrough_57 fl_X8_21 hP7 (fun r_7 hP8 => ?_)
        clear hP7
        refine bz_iload_n (pc := 60) dX8_shortenThrough_60 rfl rfl ?_
        refine bz_bipush (pc := 61) dX8_shortenThrough_61 cb_16 ?_
        refine bz_imul (pc := 63) dX8_shortenThrough_63 ?_
        refine bz_iload (pc := 64) dX8_shortenThrough_64 rfl ?_
        refine bz_iadd (pc := 66) dX8_shortenThrough_66 ?_
        refine bz_iload_n (pc := 67) dX8_shortenThrough_67 rfl rfl ?_
        refine bz_iload (pc := 68) dX8_shortenThrough_68 rfl ?_
        refine bz_iadd (pc := 70) dX8_shortenThrough_70 ?_
        obtain ⟨a_8, rfl, hP9⟩ := hP8
        refine bz_rw_wA (pc := 71) dX8_shortenThrough_71 hP9 (fun h_9 hP10 => ?_)
        clear hP9
        refine bz_s_iinc (pc := 72) dX8_shortenThrough_72 (Nat.le_of_ble_eq_true rfl) rfl rfl [some (.inr (some a0)), some (.inl x1), some (.inl x2), some (.inl x3), some (.inl (x4 + 1)), some (.inl x_3), some (.inl x_5)] rfl ?_
        refine bz_goto (tgt := 10) (pc := 75) dX8_shortenThrough_75 rfl ?_
        exact hP10
      · have hP11 := hP6.2 c
        clear hP6
        refine bz_iload_n (pc := 47) dX8_shortenThrough_47 rfl rfl ?_
        refine bz_iload (pc := 48) dX8_shortenThrough_48 rfl ?_
        refine bz_iadd (pc := 50) dX8_shortenThrough_50 ?_
        refine bz_iload (pc := 51) dX8_shortenThrough_51 rfl ?_
        refine bz_icmp_ge (tgt := 72) (pc := 53) dX8_shortenThrough_53 rfl (fun c => ?_) (fun c => ?_)
        · have hP12 := hP11.1 c
          clear hP11
          refine bz_s_iinc (pc := 72) dX8_shortenThrough_72 (Nat.le_of_ble_eq_true rfl) rfl rfl [some (.inr (some a0)), some (.inl x1), some (.inl x2), some (.inl x3), some (.inl (x4 + 1)), some (.inl x_3), some (.inl x_5)] rfl ?_
          refine bz_goto (tgt := 10) (pc := 75) dX8_shortenThrough_75 rfl ?_
          exact hP12
        · have hP13 := hP11.2 c
          clear hP11
          refine bz_aload_n (pc := 56) dX8_shortenThrough_56 rfl rfl ?_
          refine bz_rw_rR (pc := 57) dX8_shortenThrough_57 fl_X8_21 hP13 (fun r_10 hP14 => ?_)
          clear hP13
          refine bz_iload_n (pc := 60) dX8_shortenThrough_60 rfl rfl ?_
          refine bz_bipush (pc := 61) dX8_shortenThrough_61 cb_16 ?_
          refine bz_imul (pc := 63) dX8_shortenThrough_63 ?_
          refine bz_iload (pc := 64) dX8_shortenThrough_64 rfl ?_
          refine bz_iadd (pc := 66) dX8_shortenThrough_66 ?_
          refine bz_iload_n (pc := 67) dX8_shortenThrough_67 rfl rfl ?_
          refine bz_iload (pc := 68) dX8_shortenThrough_68 rfl ?_
          refine bz_iadd (pc := 70) dX8_shortenThrough_70 ?_
          obtain ⟨a_11, rfl, hP15⟩ := hP14
          refine bz_rw_wA (pc := 71) dX8_shortenThrough_71 hP15 (fun h_12 hP16 => ?_)
          clear hP15
          refine bz_s_iinc (pc := 72) dX8_shortenThrough_72 (Nat.le_of_ble_eq_true rfl) rfl rfl [some (.inr (some a0)), some (.inl x1), some (.inl x2), some (.inl x3), some (.inl (x4 + 1)), some (.inl x_3), some (.inl x_5)] rfl ?_
          refine bz_goto (tgt := 10) (pc := 75) dX8_shortenThrough_75 rfl ?_
          exact hP16
theorem m_X8_shortenThrough {G : bz_G} {l : Launch} {d mc ms : Nat} {F : Option bz_V → bz_H → Prop} (a0 : Nat) (x1 : Int32) (x2 : Int32) (h : bz_H) (hP : ∀ (κ : bz_K) (bc bs : Nat), κ.2.1 = l → w_X8_shortenThrough_0 G κ l d F bc bs a0 x1 x2 h) : bz_Call G l (d + 1) kX8_shortenThrough [.inr (some a0), .inl x1, .inl x2] h mc ms F :=
  bz_body (by decide) (Nat.le_of_ble_eq_true rfl) (fun κ hl => g_X8_shortenThrough_0 hl a0 x1 x2 h (hP κ mc ms hl))
def w_X8_wayBetween_0 (G : bz_G) (l : Launch) (d : Nat) (F : Option bz_V → bz_H → Prop) (a0 : Nat) (x1 : Int32) (x2 : Int32) (h : bz_H) : Prop := bz_rR h a0 8 3 (fun r_1 => bz_nn r_1 (fun a_2 => bz_rA h a_2 ((x1 * 16) + x2) (fun x_3 => F (some (.inl x_3)) h)))
set_option maxRecDepth 20000 in
set_option maxHeartbeats 4000000 in
theorem g_X8_wayBetween_0 {G : bz_G} {κ : bz_K} {l : Launch} {d : Nat} {F : Option bz_V → bz_H → Prop} {bc bs : Nat} (hl : κ.2.1 = l) (a0 : Nat) (x1 : Int32) (x2 : Int32) (h : bz_H) (hP0 : w_X8_wayBetween_0 G l d F a0 x1 x2 h) : bz_J G κ kX8_wayBetween (d + 1) F bc bs 0 [some (.inr (some a0)), some (.inl x1), some (.inl x2)] [] h := by
  subst hl
  unfold w_X8_wayBetween_0 at hP0
  refine bz_aload_n (pc := 0) dX8_wayBetween_0 rfl rfl ?_
  refine bz_rw_rR (pc := 1) dX8_wayBetween_1 fl_X8_21 hP0 (fun r_1 hP1 => ?_)
  clear hP0
  refine bz_iload_n (pc := 4) dX8_wayBetween_4 rfl rfl ?_
  refine bz_bipush (pc := 5) dX8_wayBetween_5 cb_16 ?_
  refine bz_imul (pc := 7) dX8_wayBetween_7 ?_
  refine bz_iload_n (pc := 8) dX8_wayBetween_8 rfl rfl ?_
  refine bz_iadd (pc := 9) dX8_wayBetween_9 ?_
  obtain ⟨a_2, rfl, hP2⟩ := hP1
  refine bz_rw_rA (pc := 10) dX8_wayBetween_10 hP2 (fun x_3 hP3 => ?_)
  clear hP2
  exact bz_retI (pc := 11) dX8_wayBetween_11 rfl rfl hP3
theorem m_X8_wayBetween {G : bz_G} {l : Launch} {d mc ms : Nat} {F : Option bz_V → bz_H → Prop} (a0 : Nat) (x1 : Int32) (x2 : Int32) (h : bz_H) (hP : w_X8_wayBetween_0 G l d F a0 x1 x2 h) : bz_Call G l (d + 1) kX8_wayBetween [.inr (some a0), .inl x1, .inl x2] h mc ms F :=
  bz_body (by decide) (Nat.le_of_ble_eq_true rfl) (fun κ hl => g_X8_wayBetween_0 hl a0 x1 x2 h hP)
def w_X9_follow_0 (G : bz_G) (κ : bz_K) (l : Launch) (d : Nat) (F : Option bz_V → bz_H → Prop) (bc bs : Nat) (a0 : Nat) (x1 : Int32) (x2 : Int32) (r3 : Option Nat) (r4 : Option Nat) (h : bz_H) : Prop := bz_rI h a0 9 6 (fun x_1 => bz_rI h a0 9 4 (fun x_2 => bz_J G κ kX9_follow (d + 1) F bc bs 15 [some (.inr (some a0)), some (.inl x1), some (.inl x2), some (.inr r3), some (.inr r4), some (.inl x_1), some (.inl x_2), some (.inl 0), none, none, none, none, none] [] h))
set_option maxRecDepth 20000 in
set_option maxHeartbeats 4000000 in
theorem g_X9_follow_0 {G : bz_G} {κ : bz_K} {l : Launch} {d : Nat} {F : Option bz_V → bz_H → Prop} {bc bs : Nat} (hl : κ.2.1 = l) (a0 : Nat) (x1 : Int32) (x2 : Int32) (r3 : Option Nat) (r4 : Option Nat) (h : bz_H) (hP0 : w_X9_follow_0 G κ l d F bc bs a0 x1 x2 r3 r4 h) : bz_J G κ kX9_follow (d + 1) F bc bs 0 [some (.inr (some a0)), some (.inl x1), some (.inl x2), some (.inr r3), some (.inr r4), none, none, none, none, none, none, none, none] [] h := by
  subst hl
  unfold w_X9_follow_0 at hP0
  refine bz_aload_n (pc := 0) dX9_follow_0 rfl rfl ?_
  refine bz_rw_rI (pc := 1) dX9_follow_1 fl_X9_29 hP0 (fun x_1 hP1 => ?_)
  clear hP0
  refine bz_s_istore (pc := 4) dX9_follow_4 (Nat.le_of_ble_eq_true rfl) [some (.inr (some a0)), some (.inl x1), some (.inl x2), some (.inr r3), some (.inr r4), some (.inl x_1), none, none, none, none, none, none, none] rfl ?_
  refine bz_aload_n (pc := 6) dX9_follow_6 rfl rfl ?_
  refine bz_rw_rI (pc := 7) dX9_follow_7 fl_X9_26 hP1 (fun x_2 hP2 => ?_)
  clear hP1
  refine bz_s_istore (pc := 10) dX9_follow_10 (Nat.le_of_ble_eq_true rfl) [some (.inr (some a0)), some (.inl x1), some (.inl x2), some (.inr r3), some (.inr r4), some (.inl x_1), some (.inl x_2), none, none, none, none, none, none] rfl ?_
  refine bz_iconst (pc := 12) dX9_follow_12 ci_0 ?_
  refine bz_s_istore (pc := 13) dX9_follow_13 (Nat.le_of_ble_eq_true rfl) [some (.inr (some a0)), some (.inl x1), some (.inl x2), some (.inr r3), some (.inr r4), some (.inl x_1), some (.inl x_2), some (.inl 0), none, none, none, none, none] rfl ?_
  exact hP2
def w_X9_follow_15 (G : bz_G) (κ : bz_K) (l : Launch) (d : Nat) (F : Option bz_V → bz_H → Prop) (bc bs : Nat) (a0 : Nat) (x1 : Int32) (x2 : Int32) (r3 : Option Nat) (r4 : Option Nat) (x5 : Int32) (x6 : Int32) (x7 : Int32) (u8 : Option bz_V) (u9 : Option bz_V) (u10 : Option bz_V) (u11 : Option bz_V) (u12 : Option bz_V) (h : bz_H) : Prop := (x2 ≤ x7 → F (some (.inl (if x5 ≤ 1439 then x5 else (-1)))) h) ∧ (¬ (x2 ≤ x7) → bz_rA h 1 ((x1 * 4) + x7) (fun x_3 => (1 < x_3 → ((if x_3 = 0 then 1 else if x_3 = 2 then 1 else 0 : Int32) = 0 → bz_nn r4 (fun a_4 => bz_rI h a_4 2 2 (fun x_5 => bz_J G κ kX9_follow (d + 1) F bc bs 83 [some (.inr (some a0)), some (.inl x1), some (.inl x2), some (.inr r3), some (.inr (some a_4)), some (.inl x5), some (.inl x6), some (.inl x7), some (.inl x_3), some (.inl (if x_3 = 0 then 1 else if x_3 = 2 then 1 else 0)), some (.inr (some a_4)), u11, u12] [.inl x_5] h))) ∧ (¬ ((if x_3 = 0 then 1 else if x_3 = 2 then 1 else 0 : Int32) = 0) → bz_nn r4 (fun a_6 => bz_rI h a_6 2 1 (fun x_7 => bz_J G κ kX9_follow (d + 1) F bc bs 83 [some (.inr (some a0)), some (.inl x1), some (.inl x2), some (.inr r3), some (.inr (some a_6)), some (.inl x5), some (.inl x6), some (.inl x7), some (.inl x_3), some (.inl (if x_3 = 0 then 1 else if x_3 = 2 then 1 else 0)), some (.inr (some a_6)), u11, u12] [.inl x_7] h)))) ∧ (¬ (1 < x_3) → ((if x_3 = 0 then 1 else if x_3 = 2 then 1 else 0 : Int32) = 0 → bz_nn r3 (fun a_8 => bz_rI h a_8 2 2 (fun x_9 => bz_J G κ kX9_follow (d + 1) F bc bs 83 [some (.inr (some a0)), some (.inl x1), some (.inl x2), some (.inr (some a_8)), some (.inr r4), some (.inl x5), some (.inl x6), some (.inl x7), some (.inl x_3), some (.inl (if x_3 = 0 then 1 else if x_3 = 2 then 1 else 0)), some (.inr (some a_8)), u11, u12] [.inl x_9] h))) ∧ (¬ ((if x_3 = 0 then 1 else if x_3 = 2 then 1 else 0 : Int32) = 0) → bz_nn r3 (fun a_10 => bz_rI h a_10 2 1 (fun x_11 => bz_J G κ kX9_follow (d + 1) F bc bs 83 [some (.inr (some a0)), some (.inl x1), some (.inl x2), some (.inr (some a_10)), some (.inr r4), some (.inl x5), some (.inl x6), some (.inl x7), some (.inl x_3), some (.inl (if x_3 = 0 then 1 else if x_3 = 2 then 1 else 0)), some (.inr (some a_10)), u11, u12] [.inl x_11] h))))))
set_option maxRecDepth 20000 in
set_option maxHeartbeats 4000000 in
theorem g_X9_follow_15 {G : bz_G} {κ : bz_K} {l : Launch} {d : Nat} {F : Option bz_V → bz_H → Prop} {bc bs : Nat} (hl : κ.2.1 = l) (a0 : Nat) (x1 : Int32) (x2 : Int32) (r3 : Option Nat) (r4 : Option Nat) (x5 : Int32) (x6 : Int32) (x7 : Int32) (u8 : Option bz_V) (u9 : Option bz_V) (u10 : Option bz_V) (u11 : Option bz_V) (u12 : Option bz_V) (h : bz_H) (hP0 : w_X9_follow_15 G κ l d F bc bs a0 x1 x2 r3 r4 x5 x6 x7 u8 u9 u10 u11 u12 h) : bz_J G κ kX9_follow (d + 1) F bc bs 15 [some (.inr (some a0)), some (.inl x1), some (.inl x2), some (.inr r3), some (.inr r4), some (.inl x5), some (.inl x6), some (.inl x7), u8, u9, u10, u11, u12] [] h := by
  subst hl
  unfold w_X9_follow_15 at hP0
  refine bz_iload (pc := 15) dX9_follow_15 rfl ?_
  refine bz_iload_n (pc := 17) dX9_follow_17 rfl rfl ?_
  refine bz_icmp_ge (tgt := 156) (pc := 18) dX9_follow_18 rfl (fun c => ?_) (fun c => ?_)
  · have hP1 := hP0.1 c
    clear hP0
    refine bz_iload (pc := 156) dX9_follow_156 rfl ?_
    refine bz_sipush (pc := 158) dX9_follow_158 cs_1439 ?_
    have hJ : bz_J G κ kX9_follow (d + 1) F bc bs 170 [some (.inr (some a0)), some (.inl x1), some (.inl x2), some (.inr r3), some (.inr r4), some (.inl x5), some (.inl x6), some (.inl x7), u8, u9, u10, u11, u12] [.inl (if x5 ≤ 1439 then x5 else (-1))] h := by
      exact bz_retI (pc := 170) dX9_follow_170 rfl rfl hP1
    refine bz_icmp_le (tgt := 168) (pc := 161) dX9_follow_161 rfl (fun c => ?_) (fun c => ?_)
    · have e9 : ((if x5 ≤ 1439 then x5 else (-1)) : Int32) = (x5) := if_pos c
      rw [e9] at hJ
      refine bz_iload (pc := 168) dX9_follow_168 rfl ?_
      exact hJ
    · have e9 : ((if x5 ≤ 1439 then x5 else (-1)) : Int32) = ((-1)) := if_neg c
      rw [e9] at hJ
      refine bz_iconst (pc := 164) dX9_follow_164 ci_m1 ?_
      refine bz_goto (tgt := 170) (pc := 165) dX9_follow_165 rfl ?_
      exact hJ
  · have hP2 := hP0.2 c
    clear hP0
    refine bz_getsL (pc := 21) dX9_follow_21 ⟨rfl, rfl⟩ ?_
    refine bz_iload_n (pc := 24) dX9_follow_24 rfl rfl ?_
    refine bz_iconst (pc := 25) dX9_follow_25 ci_4 ?_
    refine bz_imul (pc := 26) dX9_follow_26 ?_
    refine bz_iload (pc := 27) dX9_follow_27 rfl ?_
    refine bz_iadd (pc := 29) dX9_follow_29 ?_
    refine bz_rw_rA (pc := 30) dX9_follow_30 hP2 (fun x_3 hP3 => ?_)
    clear hP2
    refine bz_s_istore (pc := 31) dX9_follow_31 (Nat.le_of_ble_eq_true rfl) [some (.inr (some a0)), some (.inl x1), some (.inl x2), some (.inr r3), some (.inr r4), some (.inl x5), some (.inl x6), some (.inl x7), some (.inl x_3), u9, u10, u11, u12] rfl ?_
    refine bz_iload (pc := 33) dX9_follow_33 rfl ?_
    have hJ : bz_J G κ kX9_follow (d + 1) F bc bs 49 [some (.inr (some a0)), some (.inl x1), some (.inl x2), some (.inr r3), some (.inr r4), some (.inl x5), some (.inl x6), some (.inl x7), some (.inl x_3), u9, u10, u11, u12] [.inl (if x_3 = 0 then 1 else if x_3 = 2 then 1 else 0)] h := by
      refine bz_s_istore (pc := 49) dX9_follow_49 (Nat.le_of_ble_eq_true rfl) [some (.inr (some a0)), some (.inl x1), some (.inl x2), some (.inr r3), some (.inr r4), some (.inl x5), some (.inl x6), some (.inl x7), some (.inl x_3), some (.inl (if x_3 = 0 then 1 else if x_3 = 2 then 1 else 0)), u10, u11, u12] rfl ?_
      refine bz_iload (pc := 51) dX9_follow_51 rfl ?_
      refine bz_iconst (pc := 53) dX9_follow_53 ci_1 ?_
      refine bz_icmp_gt (tgt := 61) (pc := 54) dX9_follow_54 rfl (fun c => ?_) (fun c => ?_)
      · have hP4 := hP3.1 c
        clear hP3
        refine bz_aload (pc := 61) dX9_follow_61 rfl ?_
        refine bz_s_astore (pc := 63) dX9_follow_63 (Nat.le_of_ble_eq_true rfl) [some (.inr (some a0)), some (.inl x1), some (.inl x2), some (.inr r3), some (.inr r4), some (.inl x5), some (.inl x6), some (.inl x7), some (.inl x_3), some (.inl (if x_3 = 0 then 1 else if x_3 = 2 then 1 else 0)), some (.inr r4), u11, u12] rfl ?_
        refine bz_iload (pc := 65) dX9_follow_65 rfl ?_
        refine bz_if_eq (tgt := 78) (pc := 67) dX9_follow_67 rfl (fun c => ?_) (fun c => ?_)
        · have hP5 := hP4.1 c
          clear hP4
          refine bz_aload (pc := 78) dX9_follow_78 rfl ?_
          obtain ⟨a_4, rfl, hP6⟩ := hP5
          refine bz_rw_rI (pc := 80) dX9_follow_80 fl_X9_50 hP6 (fun x_5 hP7 => ?_)
          clear hP6
          exact hP7
        · have hP8 := hP4.2 c
          clear hP4
          refine bz_aload (pc := 70) dX9_follow_70 rfl ?_
          obtain ⟨a_6, rfl, hP9⟩ := hP8
          refine bz_rw_rI (pc := 72) dX9_follow_72 fl_X9_78 hP9 (fun x_7 hP10 => ?_)
          clear hP9
          refine bz_goto (tgt := 83) (pc := 75) dX9_follow_75 rfl ?_
          exact hP10
      · have hP11 := hP3.2 c
        clear hP3
        refine bz_aload_n (pc := 57) dX9_follow_57 rfl rfl ?_
        refine bz_goto (tgt := 63) (pc := 58) dX9_follow_58 rfl ?_
        refine bz_s_astore (pc := 63) dX9_follow_63 (Nat.le_of_ble_eq_true rfl) [some (.inr (some a0)), some (.inl x1), some (.inl x2), some (.inr r3), some (.inr r4), some (.inl x5), some (.inl x6), some (.inl x7), some (.inl x_3), some (.inl (if x_3 = 0 then 1 else if x_3 = 2 then 1 else 0)), some (.inr r3), u11, u12] rfl ?_
        refine bz_iload (pc := 65) dX9_follow_65 rfl ?_
        refine bz_if_eq (tgt := 78) (pc := 67) dX9_follow_67 rfl (fun c => ?_) (fun c => ?_)
        · have hP12 := hP11.1 c
          clear hP11
          refine bz_aload (pc := 78) dX9_follow_78 rfl ?_
          obtain ⟨a_8, rfl, hP13⟩ := hP12
          refine bz_rw_rI (pc := 80) dX9_follow_80 fl_X9_50 hP13 (fun x_9 hP14 => ?_)
          clear hP13
          exact hP14
        · have hP15 := hP11.2 c
          clear hP11
          refine bz_aload (pc := 70) dX9_follow_70 rfl ?_
          obtain ⟨a_10, rfl, hP16⟩ := hP15
          refine bz_rw_rI (pc := 72) dX9_follow_72 fl_X9_78 hP16 (fun x_11 hP17 => ?_)
          clear hP16
          refine bz_goto (tgt := 83) (pc := 75) dX9_follow_75 rfl ?_
          exact hP17
    refine bz_if_eq (tgt := 44) (pc := 35) dX9_follow_35 rfl (fun c => ?_) (fun c => ?_)
    · have e9 : ((if x_3 = 0 then 1 else if x_3 = 2 then 1 else 0) : Int32) = (1) := if_pos c
      rw [e9] at hJ
      refine bz_iconst (pc := 44) dX9_follow_44 ci_1 ?_
      refine bz_goto (tgt := 49) (pc := 45) dX9_follow_45 rfl ?_
      exact hJ
    · have e9 : ((if x_3 = 0 then 1 else if x_3 = 2 then 1 else 0) : Int32) = (if x_3 = 2 then 1 else 0) := if_neg c
      rw [e9] at hJ
      refine bz_iload (pc := 38) dX9_follow_38 rfl ?_
      refine bz_iconst (pc := 40) dX9_follow_40 ci_2 ?_
      refine bz_icmp_ne (tgt := 48) (pc := 41) dX9_follow_41 rfl (fun c => ?_) (fun c => ?_)
      · have e9 : ((if x_3 = 2 then 1 else 0) : Int32) = (0) := if_neg c
        rw [e9] at hJ
        refine bz_iconst (pc := 48) dX9_follow_48 ci_0 ?_
        exact hJ
      · have e9 : ((if x_3 = 2 then 1 else 0) : Int32) = (1) := if_pos c
        rw [e9] at hJ
        refine bz_iconst (pc := 44) dX9_follow_44 ci_1 ?_
        refine bz_goto (tgt := 49) (pc := 45) dX9_follow_45 rfl ?_
        exact hJ
def w_X9_follow_83 (G : bz_G) (κ : bz_K) (l : Launch) (d : Nat) (F : Option bz_V → bz_H → Prop) (bc bs : Nat) (a0 : Nat) (x1 : Int32) (x2 : Int32) (r3 : Option Nat) (r4 : Option Nat) (x5 : Int32) (x6 : Int32) (x7 : Int32) (x8 : Int32) (x9 : Int32) (r10 : Option Nat) (u11 : Option bz_V) (u12 : Option bz_V) (y0 : Int32) (h : bz_H) : Prop := bz_rI h a0 9 3 (fun x_12 => bz_rR h a0 9 0 (fun r_13 => bz_nn r_13 (fun a_16 => bz_rc h a_16 8 (bz_cI G l d kX8_wayBetween [.inr (some a_16), .inl x6, .inl y0] h 0 0 (fun x_14 h_15 => bz_cI G l d kX11_legFor [.inl x_12, .inl x_14] h_15 0 0 (fun x_17 h_18 => (¬ x_17 = (-1) → (x9 = 0 → bz_rR h_18 a0 9 2 (fun r_19 => bz_nn r_19 (fun a_20 => bz_wA h_18 a_20 x8 (x5 + x_17) (fun h_21 => bz_J G κ kX9_follow (d + 1) F bc bs 15 [some (.inr (some a0)), some (.inl x1), some (.inl x2), some (.inr r3), some (.inr r4), some (.inl (x5 + x_17)), some (.inl y0), some (.inl (x7 + 1)), some (.inl x8), some (.inl x9), some (.inr r10), some (.inl y0), some (.inl x_17)] [] h_21)))) ∧ (¬ (x9 = 0) → bz_nn r10 (fun a_22 => bz_rI h_18 a_22 2 6 (fun x_23 => bz_rR h_18 a0 9 2 (fun r_24 => bz_nn r_24 (fun a_25 => bz_wA h_18 a_25 x8 (if (x5 + x_17) < x_23 then x_23 else x5 + x_17) (fun h_26 => bz_J G κ kX9_follow (d + 1) F bc bs 15 [some (.inr (some a0)), some (.inl x1), some (.inl x2), some (.inr r3), some (.inr r4), some (.inl (if (x5 + x_17) < x_23 then x_23 else x5 + x_17)), some (.inl y0), some (.inl (x7 + 1)), some (.inl x8), some (.inl x9), some (.inr (some a_22)), some (.inl y0), some (.inl x_17)] [] h_26))))))) ∧ (x_17 = (-1) → F (some (.inl (-1))) h_18)))))))
set_option maxRecDepth 20000 in
set_option maxHeartbeats 4000000 in
theorem g_X9_follow_83 {G : bz_G} {κ : bz_K} {l : Launch} {d : Nat} {F : Option bz_V → bz_H → Prop} {bc bs : Nat} (hl : κ.2.1 = l) (a0 : Nat) (x1 : Int32) (x2 : Int32) (r3 : Option Nat) (r4 : Option Nat) (x5 : Int32) (x6 : Int32) (x7 : Int32) (x8 : Int32) (x9 : Int32) (r10 : Option Nat) (u11 : Option bz_V) (u12 : Option bz_V) (y0 : Int32) (h : bz_H) (hP0 : w_X9_follow_83 G κ l d F bc bs a0 x1 x2 r3 r4 x5 x6 x7 x8 x9 r10 u11 u12 y0 h) : bz_J G κ kX9_follow (d + 1) F bc bs 83 [some (.inr (some a0)), some (.inl x1), some (.inl x2), some (.inr r3), some (.inr r4), some (.inl x5), some (.inl x6), some (.inl x7), some (.inl x8), some (.inl x9), some (.inr r10), u11, u12] [.inl y0] h := by
  subst hl
  unfold w_X9_follow_83 at hP0
  refine bz_s_istore (pc := 83) dX9_follow_83 (Nat.le_of_ble_eq_true rfl) [some (.inr (some a0)), some (.inl x1), some (.inl x2), some (.inr r3), some (.inr r4), some (.inl x5), some (.inl x6), some (.inl x7), some (.inl x8), some (.inl x9), some (.inr r10), some (.inl y0), u12] rfl ?_
  refine bz_aload_n (pc := 85) dX9_follow_85 rfl rfl ?_
  refine bz_rw_rI (pc := 86) dX9_follow_86 fl_X9_22 hP0 (fun x_12 hP1 => ?_)
  clear hP0
  refine bz_aload_n (pc := 89) dX9_follow_89 rfl rfl ?_
  refine bz_rw_rR (pc := 90) dX9_follow_90 fl_X9_18 hP1 (fun r_13 hP2 => ?_)
  clear hP1
  refine bz_iload (pc := 93) dX9_follow_93 rfl ?_
  refine bz_iload (pc := 95) dX9_follow_95 rfl ?_
  obtain ⟨a_16, rfl, hP3⟩ := hP2
  refine bz_kIV (as := [.inl x6, .inl y0]) (st := [.inl x_12]) (ci := 8) (n := 2) (mc := 0) (ms := 0) (bc := bc) (bs := bs) (yc := kX8_wayBetween) (q := (RX8, TX8, 4)) (b := a_16) (pc := 97) dX9_follow_97 sc_X8_wayBetween ml_X9_79 im_X8_wayBetween se_X8_wayBetween rfl rfl rfl (Nat.le_of_ble_eq_true rfl) hP3 (fun x_14 h_15 hP4 => ?_)
  clear hP3
  refine bz_kISN (as := [.inl x_12, .inl x_14]) (st := []) (n := 2) (mc := 0) (ms := 0) (bc := bc) (bs := bs) (yc := kX11_legFor) (host := RX11) (pc := 100) dX9_follow_100 sc_X11_legFor ml_X9_85 ss_X11_legFor rfl (Nat.le_of_ble_eq_true rfl) hP4 (fun x_17 h_18 hP5 => ?_)
  clear hP4
  refine bz_s_istore (pc := 103) dX9_follow_103 (Nat.le_of_ble_eq_true rfl) [some (.inr (some a0)), some (.inl x1), some (.inl x2), some (.inr r3), some (.inr r4), some (.inl x5), some (.inl x6), some (.inl x7), some (.inl x8), some (.inl x9), some (.inr r10), some (.inl y0), some (.inl x_17)] rfl ?_
  refine bz_iload (pc := 105) dX9_follow_105 rfl ?_
  refine bz_iconst (pc := 107) dX9_follow_107 ci_m1 ?_
  refine bz_icmp_ne (tgt := 113) (pc := 108) dX9_follow_108 rfl (fun c => ?_) (fun c => ?_)
  · have hP6 := hP5.1 c
    clear hP5
    refine bz_iload (pc := 113) dX9_follow_113 rfl ?_
    refine bz_iload (pc := 115) dX9_follow_115 rfl ?_
    refine bz_iadd (pc := 117) dX9_follow_117 ?_
    refine bz_s_istore (pc := 118) dX9_follow_118 (Nat.le_of_ble_eq_true rfl) [some (.inr (some a0)), some (.inl x1), some (.inl x2), some (.inr r3), some (.inr r4), some (.inl (x5 + x_17)), some (.inl x6), some (.inl x7), some (.inl x8), some (.inl x9), some (.inr r10), some (.inl y0), some (.inl x_17)] rfl ?_
    refine bz_iload (pc := 120) dX9_follow_120 rfl ?_
    refine bz_if_eq (tgt := 137) (pc := 122) dX9_follow_122 rfl (fun c => ?_) (fun c => ?_)
    · have hP7 := hP6.1 c
      clear hP6
      refine bz_aload_n (pc := 137) dX9_follow_137 rfl rfl ?_
      refine bz_rw_rR (pc := 138) dX9_follow_138 fl_X9_15 hP7 (fun r_19 hP8 => ?_)
      clear hP7
      refine bz_iload (pc := 141) dX9_follow_141 rfl ?_
      refine bz_iload (pc := 143) dX9_follow_143 rfl ?_
      obtain ⟨a_20, rfl, hP9⟩ := hP8
      refine bz_rw_wA (pc := 145) dX9_follow_145 hP9 (fun h_21 hP10 => ?_)
      clear hP9
      refine bz_iload (pc := 146) dX9_follow_146 rfl ?_
      refine bz_s_istore (pc := 148) dX9_follow_148 (Nat.le_of_ble_eq_true rfl) [some (.inr (some a0)), some (.inl x1), some (.inl x2), some (.inr r3), some (.inr r4), some (.inl (x5 + x_17)), some (.inl y0), some (.inl x7), some (.inl x8), some (.inl x9), some (.inr r10), some (.inl y0), some (.inl x_17)] rfl ?_
      refine bz_s_iinc (pc := 150) dX9_follow_150 (Nat.le_of_ble_eq_true rfl) rfl rfl [some (.inr (some a0)), some (.inl x1), some (.inl x2), some (.inr r3), some (.inr r4), some (.inl (x5 + x_17)), some (.inl y0), some (.inl (x7 + 1)), some (.inl x8), some (.inl x9), some (.inr r10), some (.inl y0), some (.inl x_17)] rfl ?_
      refine bz_goto (tgt := 15) (pc := 153) dX9_follow_153 rfl ?_
      exact hP10
    · have hP11 := hP6.2 c
      clear hP6
      refine bz_iload (pc := 125) dX9_follow_125 rfl ?_
      refine bz_aload (pc := 127) dX9_follow_127 rfl ?_
      obtain ⟨a_22, rfl, hP12⟩ := hP11
      refine bz_rw_rI (pc := 129) dX9_follow_129 fl_X9_88 hP12 (fun x_23 hP13 => ?_)
      clear hP12
      refine bz_mmax (pc := 132) dX9_follow_132 ml_X9_91 mt_max mt_init mt_code_max (Nat.succ_pos d) (Nat.le_of_ble_eq_true rfl) ?_
      refine bz_s_istore (pc := 135) dX9_follow_135 (Nat.le_of_ble_eq_true rfl) [some (.inr (some a0)), some (.inl x1), some (.inl x2), some (.inr r3), some (.inr r4), some (.inl (if (x5 + x_17) < x_23 then x_23 else x5 + x_17)), some (.inl x6), some (.inl x7), some (.inl x8), some (.inl x9), some (.inr (some a_22)), some (.inl y0), some (.inl x_17)] rfl ?_
      refine bz_aload_n (pc := 137) dX9_follow_137 rfl rfl ?_
      refine bz_rw_rR (pc := 138) dX9_follow_138 fl_X9_15 hP13 (fun r_24 hP14 => ?_)
      clear hP13
      refine bz_iload (pc := 141) dX9_follow_141 rfl ?_
      refine bz_iload (pc := 143) dX9_follow_143 rfl ?_
      obtain ⟨a_25, rfl, hP15⟩ := hP14
      refine bz_rw_wA (pc := 145) dX9_follow_145 hP15 (fun h_26 hP16 => ?_)
      clear hP15
      refine bz_iload (pc := 146) dX9_follow_146 rfl ?_
      refine bz_s_istore (pc := 148) dX9_follow_148 (Nat.le_of_ble_eq_true rfl) [some (.inr (some a0)), some (.inl x1), some (.inl x2), some (.inr r3), some (.inr r4), some (.inl (if (x5 + x_17) < x_23 then x_23 else x5 + x_17)), some (.inl y0), some (.inl x7), some (.inl x8), some (.inl x9), some (.inr (some a_22)), some (.inl y0), some (.inl x_17)] rfl ?_
      refine bz_s_iinc (pc := 150) dX9_follow_150 (Nat.le_of_ble_eq_true rfl) rfl rfl [some (.inr (some a0)), some (.inl x1), some (.inl x2), some (.inr r3), some (.inr r4), some (.inl (if (x5 + x_17) < x_23 then x_23 else x5 + x_17)), some (.inl y0), some (.inl (x7 + 1)), some (.inl x8), some (.inl x9), some (.inr (some a_22)), some (.inl y0), some (.inl x_17)] rfl ?_
      refine bz_goto (tgt := 15) (pc := 153) dX9_follow_153 rfl ?_
      exact hP16
  · have hP17 := hP5.2 c
    clear hP5
    refine bz_iconst (pc := 111) dX9_follow_111 ci_m1 ?_
    exact bz_retI (pc := 112) dX9_follow_112 rfl rfl hP17
theorem m_X9_follow {G : bz_G} {l : Launch} {d mc ms : Nat} {F : Option bz_V → bz_H → Prop} (a0 : Nat) (x1 : Int32) (x2 : Int32) (r3 : Option Nat) (r4 : Option Nat) (h : bz_H) (hP : ∀ (κ : bz_K) (bc bs : Nat), κ.2.1 = l → w_X9_follow_0 G κ l d F bc bs a0 x1 x2 r3 r4 h) : bz_Call G l (d + 1) kX9_follow [.inr (some a0), .inl x1, .inl x2, .inr r3, .inr r4] h mc ms F :=
  bz_body (by decide) (Nat.le_of_ble_eq_true rfl) (fun κ hl => g_X9_follow_0 hl a0 x1 x2 r3 r4 h (hP κ mc ms hl))
def w_X9_planOne_0 (G : bz_G) (l : Launch) (d : Nat) (F : Option bz_V → bz_H → Prop) (a0 : Nat) (x1 : Int32) (x2 : Int32) (x3 : Int32) (r4 : Option Nat) (h : bz_H) : Prop := bz_rc h a0 9 (bz_cV G l d kX9_setOut [.inr (some a0), .inl x1, .inl x2, .inl x3] h 0 0 (fun h_2 => bz_rc h_2 a0 9 (bz_cI G l d kX9_follow [.inr (some a0), .inl 0, .inl 2, .inr r4, .inr r4] h_2 0 0 (fun x_3 h_4 => (x_3 = (-1) → bz_rI h_4 a0 9 5 (fun x_5 => bz_b x_5 (F (some (.inl x_5)) h_4))) ∧ (¬ (x_3 = (-1)) → bz_rR h_4 a0 9 2 (fun r_6 => bz_nn r_6 (fun a_7 => bz_rA h_4 a_7 1 (fun x_8 => bz_rR h_4 a0 9 2 (fun r_9 => bz_nn r_9 (fun a_10 => bz_rA h_4 a_10 1 (fun x_11 => bz_nn r4 (fun a_14 => bz_rc h_4 a_14 2 (bz_cI G l d kX2_lateAt [.inr (some a_14), .inl x_11] h_4 0 0 (fun x_12 h_13 => bz_rI h_13 a_14 2 2 (fun x_15 => bz_rc h_13 a0 9 (bz_cV G l d kX9_takeTried [.inr (some a0), .inl 0, .inl x_8, .inl x_12, .inl x_15] h_13 0 0 (fun h_17 => bz_rI h_17 a0 9 5 (fun x_18 => bz_b x_18 (F (some (.inl x_18)) h_17)))))))))))))))))))
set_option maxRecDepth 20000 in
set_option maxHeartbeats 4000000 in
theorem g_X9_planOne_0 {G : bz_G} {κ : bz_K} {l : Launch} {d : Nat} {F : Option bz_V → bz_H → Prop} {bc bs : Nat} (hl : κ.2.1 = l) (a0 : Nat) (x1 : Int32) (x2 : Int32) (x3 : Int32) (r4 : Option Nat) (h : bz_H) (hP0 : w_X9_planOne_0 G l d F a0 x1 x2 x3 r4 h) : bz_J G κ kX9_planOne (d + 1) F bc bs 0 [some (.inr (some a0)), some (.inl x1), some (.inl x2), some (.inl x3), some (.inr r4)] [] h := by
  subst hl
  unfold w_X9_planOne_0 at hP0
  refine bz_aload_n (pc := 0) dX9_planOne_0 rfl rfl ?_
  refine bz_iload_n (pc := 1) dX9_planOne_1 rfl rfl ?_
  refine bz_iload_n (pc := 2) dX9_planOne_2 rfl rfl ?_
  refine bz_iload_n (pc := 3) dX9_planOne_3 rfl rfl ?_
  refine bz_kVV (as := [.inl x1, .inl x2, .inl x3]) (st := []) (ci := 9) (n := 3) (mc := 0) (ms := 0) (bc := bc) (bs := bs) (yc := kX9_setOut) (q := (RX9, TX9, 11)) (b := a0) (pc := 4) dX9_planOne_4 sc_X9_setOut ml_X9_36 im_X9_setOut se_X9_setOut rfl rfl rfl (Nat.le_of_ble_eq_true rfl) hP0 (fun h_2 hP1 => ?_)
  clear hP0
  refine bz_aload_n (pc := 7) dX9_planOne_7 rfl rfl ?_
  refine bz_iconst (pc := 8) dX9_planOne_8 ci_0 ?_
  refine bz_iconst (pc := 9) dX9_planOne_9 ci_2 ?_
  refine bz_aload (pc := 10) dX9_planOne_10 rfl ?_
  refine bz_aload (pc := 12) dX9_planOne_12 rfl ?_
  refine bz_kIV (as := [.inl 0, .inl 2, .inr r4, .inr r4]) (st := []) (ci := 9) (n := 4) (mc := 0) (ms := 0) (bc := bc) (bs := bs) (yc := kX9_follow) (q := (RX9, TX9, 11)) (b := a0) (pc := 14) dX9_planOne_14 sc_X9_follow ml_X9_40 im_X9_follow se_X9_follow rfl rfl rfl (Nat.le_of_ble_eq_true rfl) hP1 (fun x_3 h_4 hP2 => ?_)
  clear hP1
  refine bz_iconst (pc := 17) dX9_planOne_17 ci_m1 ?_
  refine bz_icmp_eq (tgt := 48) (pc := 18) dX9_planOne_18 rfl (fun c => ?_) (fun c => ?_)
  · have hP3 := hP2.1 c
    clear hP2
    refine bz_aload_n (pc := 48) dX9_planOne_48 rfl rfl ?_
    refine bz_rw_rI (pc := 49) dX9_planOne_49 fl_X9_32 hP3 (fun x_5 hP4 => ?_)
    clear hP3
    obtain ⟨hb, hP5⟩ := hP4
    exact bz_retI (pc := 52) dX9_planOne_52 rfl (by rcases hb with hb | hb <;> rw [hb] <;> rfl) hP5
  · have hP6 := hP2.2 c
    clear hP2
    refine bz_aload_n (pc := 21) dX9_planOne_21 rfl rfl ?_
    refine bz_iconst (pc := 22) dX9_planOne_22 ci_0 ?_
    refine bz_aload_n (pc := 23) dX9_planOne_23 rfl rfl ?_
    refine bz_rw_rR (pc := 24) dX9_planOne_24 fl_X9_15 hP6 (fun r_6 hP7 => ?_)
    clear hP6
    refine bz_iconst (pc := 27) dX9_planOne_27 ci_1 ?_
    obtain ⟨a_7, rfl, hP8⟩ := hP7
    refine bz_rw_rA (pc := 28) dX9_planOne_28 hP8 (fun x_8 hP9 => ?_)
    clear hP8
    refine bz_aload (pc := 29) dX9_planOne_29 rfl ?_
    refine bz_aload_n (pc := 31) dX9_planOne_31 rfl rfl ?_
    refine bz_rw_rR (pc := 32) dX9_planOne_32 fl_X9_15 hP9 (fun r_9 hP10 => ?_)
    clear hP9
    refine bz_iconst (pc := 35) dX9_planOne_35 ci_1 ?_
    obtain ⟨a_10, rfl, hP11⟩ := hP10
    refine bz_rw_rA (pc := 36) dX9_planOne_36 hP11 (fun x_11 hP12 => ?_)
    clear hP11
    obtain ⟨a_14, rfl, hP13⟩ := hP12
    refine bz_kIV (as := [.inl x_11]) (st := [.inl x_8, .inl 0, .inr (some a0)]) (ci := 2) (n := 1) (mc := 0) (ms := 0) (bc := bc) (bs := bs) (yc := kX2_lateAt) (q := (RX2, TX2, 15)) (b := a_14) (pc := 37) dX9_planOne_37 sc_X2_lateAt ml_X9_44 im_X2_lateAt se_X2_lateAt rfl rfl rfl (Nat.le_of_ble_eq_true rfl) hP13 (fun x_12 h_13 hP14 => ?_)
    clear hP13
    refine bz_aload (pc := 40) dX9_planOne_40 rfl ?_
    refine bz_rw_rI (pc := 42) dX9_planOne_42 fl_X9_50 hP14 (fun x_15 hP15 => ?_)
    clear hP14
    refine bz_kVV (as := [.inl 0, .inl x_8, .inl x_12, .inl x_15]) (st := []) (ci := 9) (n := 4) (mc := 0) (ms := 0) (bc := bc) (bs := bs) (yc := kX9_takeTried) (q := (RX9, TX9, 11)) (b := a0) (pc := 45) dX9_planOne_45 sc_X9_takeTried ml_X9_53 im_X9_takeTried se_X9_takeTried rfl rfl rfl (Nat.le_of_ble_eq_true rfl) hP15 (fun h_17 hP16 => ?_)
    clear hP15
    refine bz_aload_n (pc := 48) dX9_planOne_48 rfl rfl ?_
    refine bz_rw_rI (pc := 49) dX9_planOne_49 fl_X9_32 hP16 (fun x_18 hP17 => ?_)
    clear hP16
    obtain ⟨hb, hP18⟩ := hP17
    exact bz_retI (pc := 52) dX9_planOne_52 rfl (by rcases hb with hb | hb <;> rw [hb] <;> rfl) hP18
theorem m_X9_planOne {G : bz_G} {l : Launch} {d mc ms : Nat} {F : Option bz_V → bz_H → Prop} (a0 : Nat) (x1 : Int32) (x2 : Int32) (x3 : Int32) (r4 : Option Nat) (h : bz_H) (hP : w_X9_planOne_0 G l d F a0 x1 x2 x3 r4 h) : bz_Call G l (d + 1) kX9_planOne [.inr (some a0), .inl x1, .inl x2, .inl x3, .inr r4] h mc ms F :=
  bz_body (by decide) (Nat.le_of_ble_eq_true rfl) (fun κ hl => g_X9_planOne_0 hl a0 x1 x2 x3 r4 h hP)
def w_X9_planTwo_0 (G : bz_G) (κ : bz_K) (l : Launch) (d : Nat) (F : Option bz_V → bz_H → Prop) (bc bs : Nat) (a0 : Nat) (r1 : Option Nat) (r2 : Option Nat) (h : bz_H) : Prop := bz_J G κ kX9_planTwo (d + 1) F bc bs 2 [some (.inr (some a0)), some (.inr r1), some (.inr r2), some (.inl 0), none, none, none, none] [] h
set_option maxRecDepth 20000 in
set_option maxHeartbeats 4000000 in
theorem g_X9_planTwo_0 {G : bz_G} {κ : bz_K} {l : Launch} {d : Nat} {F : Option bz_V → bz_H → Prop} {bc bs : Nat} (hl : κ.2.1 = l) (a0 : Nat) (r1 : Option Nat) (r2 : Option Nat) (h : bz_H) (hP0 : w_X9_planTwo_0 G κ l d F bc bs a0 r1 r2 h) : bz_J G κ kX9_planTwo (d + 1) F bc bs 0 [some (.inr (some a0)), some (.inr r1), some (.inr r2), none, none, none, none, none] [] h := by
  subst hl
  unfold w_X9_planTwo_0 at hP0
  refine bz_iconst (pc := 0) dX9_planTwo_0 ci_0 ?_
  refine bz_s_istore_n (pc := 1) dX9_planTwo_1 rfl (Nat.le_of_ble_eq_true rfl) [some (.inr (some a0)), some (.inr r1), some (.inr r2), some (.inl 0), none, none, none, none] rfl ?_
  exact hP0
def w_X9_planTwo_2 (G : bz_G) (κ : bz_K) (l : Launch) (d : Nat) (F : Option bz_V → bz_H → Prop) (bc bs : Nat) (a0 : Nat) (r1 : Option Nat) (r2 : Option Nat) (x3 : Int32) (u4 : Option bz_V) (u5 : Option bz_V) (u6 : Option bz_V) (u7 : Option bz_V) (h : bz_H) : Prop := (6 ≤ x3 → bz_rI h a0 9 5 (fun x_1 => bz_b x_1 (F (some (.inl x_1)) h))) ∧ (¬ (6 ≤ x3) → bz_rc h a0 9 (bz_cI G l d kX9_follow [.inr (some a0), .inl x3, .inl 4, .inr r1, .inr r2] h 0 0 (fun x_2 h_3 => bz_rR h_3 a0 9 2 (fun r_4 => bz_nn r_4 (fun a_5 => bz_rA h_3 a_5 1 (fun x_6 => bz_nn r1 (fun a_9 => bz_rc h_3 a_9 2 (bz_cI G l d kX2_lateAt [.inr (some a_9), .inl x_6] h_3 0 0 (fun x_7 h_8 => bz_rR h_8 a0 9 2 (fun r_10 => bz_nn r_10 (fun a_11 => bz_rA h_8 a_11 3 (fun x_12 => bz_nn r2 (fun a_15 => bz_rc h_8 a_15 2 (bz_cI G l d kX2_lateAt [.inr (some a_15), .inl x_12] h_8 0 0 (fun x_13 h_14 => bz_rI h_14 a0 9 5 (fun x_16 => (x_16 = 0 → bz_J G κ kX9_planTwo (d + 1) F bc bs 80 [some (.inr (some a0)), some (.inr (some a_9)), some (.inr (some a_15)), some (.inl x3), some (.inl x_2), some (.inl (x_7 + x_13)), u6, u7] [.inl 1] h_14) ∧ (¬ (x_16 = 0) → bz_rI h_14 a0 9 10 (fun x_17 => ((x_7 + x_13) < x_17 → bz_J G κ kX9_planTwo (d + 1) F bc bs 80 [some (.inr (some a0)), some (.inr (some a_9)), some (.inr (some a_15)), some (.inl x3), some (.inl x_2), some (.inl (x_7 + x_13)), u6, u7] [.inl 1] h_14) ∧ (¬ ((x_7 + x_13) < x_17) → bz_rI h_14 a0 9 10 (fun x_18 => (¬ (x_7 + x_13) = x_18 → bz_J G κ kX9_planTwo (d + 1) F bc bs 80 [some (.inr (some a0)), some (.inr (some a_9)), some (.inr (some a_15)), some (.inl x3), some (.inl x_2), some (.inl (x_7 + x_13)), u6, u7] [.inl 0] h_14) ∧ ((x_7 + x_13) = x_18 → bz_rI h_14 a0 9 7 (fun x_19 => bz_J G κ kX9_planTwo (d + 1) F bc bs 80 [some (.inr (some a0)), some (.inr (some a_9)), some (.inr (some a_15)), some (.inl x3), some (.inl x_2), some (.inl (x_7 + x_13)), u6, u7] [.inl (if x_19 ≤ x_2 then 0 else 1)] h_14))))))))))))))))))))))
set_option maxRecDepth 20000 in
set_option maxHeartbeats 4000000 in
theorem g_X9_planTwo_2 {G : bz_G} {κ : bz_K} {l : Launch} {d : Nat} {F : Option bz_V → bz_H → Prop} {bc bs : Nat} (hl : κ.2.1 = l) (a0 : Nat) (r1 : Option Nat) (r2 : Option Nat) (x3 : Int32) (u4 : Option bz_V) (u5 : Option bz_V) (u6 : Option bz_V) (u7 : Option bz_V) (h : bz_H) (hP0 : w_X9_planTwo_2 G κ l d F bc bs a0 r1 r2 x3 u4 u5 u6 u7 h) : bz_J G κ kX9_planTwo (d + 1) F bc bs 2 [some (.inr (some a0)), some (.inr r1), some (.inr r2), some (.inl x3), u4, u5, u6, u7] [] h := by
  subst hl
  unfold w_X9_planTwo_2 at hP0
  refine bz_iload_n (pc := 2) dX9_planTwo_2 rfl rfl ?_
  refine bz_bipush (pc := 3) dX9_planTwo_3 cb_6 ?_
  refine bz_icmp_ge (tgt := 146) (pc := 5) dX9_planTwo_5 rfl (fun c => ?_) (fun c => ?_)
  · have hP1 := hP0.1 c
    clear hP0
    refine bz_aload_n (pc := 146) dX9_planTwo_146 rfl rfl ?_
    refine bz_rw_rI (pc := 147) dX9_planTwo_147 fl_X9_32 hP1 (fun x_1 hP2 => ?_)
    clear hP1
    obtain ⟨hb, hP3⟩ := hP2
    exact bz_retI (pc := 150) dX9_planTwo_150 rfl (by rcases hb with hb | hb <;> rw [hb] <;> rfl) hP3
  · have hP4 := hP0.2 c
    clear hP0
    refine bz_aload_n (pc := 8) dX9_planTwo_8 rfl rfl ?_
    refine bz_iload_n (pc := 9) dX9_planTwo_9 rfl rfl ?_
    refine bz_iconst (pc := 10) dX9_planTwo_10 ci_4 ?_
    refine bz_aload_n (pc := 11) dX9_planTwo_11 rfl rfl ?_
    refine bz_aload_n (pc := 12) dX9_planTwo_12 rfl rfl ?_
    refine bz_kIV (as := [.inl x3, .inl 4, .inr r1, .inr r2]) (st := []) (ci := 9) (n := 4) (mc := 0) (ms := 0) (bc := bc) (bs := bs) (yc := kX9_follow) (q := (RX9, TX9, 11)) (b := a0) (pc := 13) dX9_planTwo_13 sc_X9_follow ml_X9_40 im_X9_follow se_X9_follow rfl rfl rfl (Nat.le_of_ble_eq_true rfl) hP4 (fun x_2 h_3 hP5 => ?_)
    clear hP4
    refine bz_s_istore (pc := 16) dX9_planTwo_16 (Nat.le_of_ble_eq_true rfl) [some (.inr (some a0)), some (.inr r1), some (.inr r2), some (.inl x3), some (.inl x_2), u5, u6, u7] rfl ?_
    refine bz_aload_n (pc := 18) dX9_planTwo_18 rfl rfl ?_
    refine bz_aload_n (pc := 19) dX9_planTwo_19 rfl rfl ?_
    refine bz_rw_rR (pc := 20) dX9_planTwo_20 fl_X9_15 hP5 (fun r_4 hP6 => ?_)
    clear hP5
    refine bz_iconst (pc := 23) dX9_planTwo_23 ci_1 ?_
    obtain ⟨a_5, rfl, hP7⟩ := hP6
    refine bz_rw_rA (pc := 24) dX9_planTwo_24 hP7 (fun x_6 hP8 => ?_)
    clear hP7
    obtain ⟨a_9, rfl, hP9⟩ := hP8
    refine bz_kIV (as := [.inl x_6]) (st := []) (ci := 2) (n := 1) (mc := 0) (ms := 0) (bc := bc) (bs := bs) (yc := kX2_lateAt) (q := (RX2, TX2, 15)) (b := a_9) (pc := 25) dX9_planTwo_25 sc_X2_lateAt ml_X9_44 im_X2_lateAt se_X2_lateAt rfl rfl rfl (Nat.le_of_ble_eq_true rfl) hP9 (fun x_7 h_8 hP10 => ?_)
    clear hP9
    refine bz_aload_n (pc := 28) dX9_planTwo_28 rfl rfl ?_
    refine bz_aload_n (pc := 29) dX9_planTwo_29 rfl rfl ?_
    refine bz_rw_rR (pc := 30) dX9_planTwo_30 fl_X9_15 hP10 (fun r_10 hP11 => ?_)
    clear hP10
    refine bz_iconst (pc := 33) dX9_planTwo_33 ci_3 ?_
    obtain ⟨a_11, rfl, hP12⟩ := hP11
    refine bz_rw_rA (pc := 34) dX9_planTwo_34 hP12 (fun x_12 hP13 => ?_)
    clear hP12
    obtain ⟨a_15, rfl, hP14⟩ := hP13
    refine bz_kIV (as := [.inl x_12]) (st := [.inl x_7]) (ci := 2) (n := 1) (mc := 0) (ms := 0) (bc := bc) (bs := bs) (yc := kX2_lateAt) (q := (RX2, TX2, 15)) (b := a_15) (pc := 35) dX9_planTwo_35 sc_X2_lateAt ml_X9_44 im_X2_lateAt se_X2_lateAt rfl rfl rfl (Nat.le_of_ble_eq_true rfl) hP14 (fun x_13 h_14 hP15 => ?_)
    clear hP14
    refine bz_iadd (pc := 38) dX9_planTwo_38 ?_
    refine bz_s_istore (pc := 39) dX9_planTwo_39 (Nat.le_of_ble_eq_true rfl) [some (.inr (some a0)), some (.inr (some a_9)), some (.inr (some a_15)), some (.inl x3), some (.inl x_2), some (.inl (x_7 + x_13)), u6, u7] rfl ?_
    refine bz_aload_n (pc := 41) dX9_planTwo_41 rfl rfl ?_
    refine bz_rw_rI (pc := 42) dX9_planTwo_42 fl_X9_32 hP15 (fun x_16 hP16 => ?_)
    clear hP15
    refine bz_if_eq (tgt := 75) (pc := 45) dX9_planTwo_45 rfl (fun c => ?_) (fun c => ?_)
    · have hP17 := hP16.1 c
      clear hP16
      refine bz_iconst (pc := 75) dX9_planTwo_75 ci_1 ?_
      refine bz_goto (tgt := 80) (pc := 76) dX9_planTwo_76 rfl ?_
      exact hP17
    · have hP18 := hP16.2 c
      clear hP16
      refine bz_iload (pc := 48) dX9_planTwo_48 rfl ?_
      refine bz_aload_n (pc := 50) dX9_planTwo_50 rfl rfl ?_
      refine bz_rw_rI (pc := 51) dX9_planTwo_51 fl_X9_57 hP18 (fun x_17 hP19 => ?_)
      clear hP18
      refine bz_icmp_lt (tgt := 75) (pc := 54) dX9_planTwo_54 rfl (fun c => ?_) (fun c => ?_)
      · have hP20 := hP19.1 c
        clear hP19
        refine bz_iconst (pc := 75) dX9_planTwo_75 ci_1 ?_
        refine bz_goto (tgt := 80) (pc := 76) dX9_planTwo_76 rfl ?_
        exact hP20
      · have hP21 := hP19.2 c
        clear hP19
        refine bz_iload (pc := 57) dX9_planTwo_57 rfl ?_
        refine bz_aload_n (pc := 59) dX9_planTwo_59 rfl rfl ?_
        refine bz_rw_rI (pc := 60) dX9_planTwo_60 fl_X9_57 hP21 (fun x_18 hP22 => ?_)
        clear hP21
        refine bz_icmp_ne (tgt := 79) (pc := 63) dX9_planTwo_63 rfl (fun c => ?_) (fun c => ?_)
        · have hP23 := hP22.1 c
          clear hP22
          refine bz_iconst (pc := 79) dX9_planTwo_79 ci_0 ?_
          exact hP23
        · have hP24 := hP22.2 c
          clear hP22
          refine bz_iload (pc := 66) dX9_planTwo_66 rfl ?_
          refine bz_aload_n (pc := 68) dX9_planTwo_68 rfl rfl ?_
          refine bz_rw_rI (pc := 69) dX9_planTwo_69 fl_X9_60 hP24 (fun x_19 hP25 => ?_)
          clear hP24
          have hJ : bz_J G κ kX9_planTwo (d + 1) F bc bs 80 [some (.inr (some a0)), some (.inr (some a_9)), some (.inr (some a_15)), some (.inl x3), some (.inl x_2), some (.inl (x_7 + x_13)), u6, u7] [.inl (if x_19 ≤ x_2 then 0 else 1)] h_14 := by
            exact hP25
          refine bz_icmp_ge (tgt := 79) (pc := 72) dX9_planTwo_72 rfl (fun c => ?_) (fun c => ?_)
          · have e9 : ((if x_19 ≤ x_2 then 0 else 1) : Int32) = (0) := if_pos c
            rw [e9] at hJ
            refine bz_iconst (pc := 79) dX9_planTwo_79 ci_0 ?_
            exact hJ
          · have e9 : ((if x_19 ≤ x_2 then 0 else 1) : Int32) = (1) := if_neg c
            rw [e9] at hJ
            refine bz_iconst (pc := 75) dX9_planTwo_75 ci_1 ?_
            refine bz_goto (tgt := 80) (pc := 76) dX9_planTwo_76 rfl ?_
            exact hJ
def w_X9_planTwo_80 (G : bz_G) (κ : bz_K) (l : Launch) (d : Nat) (F : Option bz_V → bz_H → Prop) (bc bs : Nat) (a0 : Nat) (r1 : Option Nat) (r2 : Option Nat) (x3 : Int32) (x4 : Int32) (x5 : Int32) (u6 : Option bz_V) (u7 : Option bz_V) (y0 : Int32) (h : bz_H) : Prop := (x4 = (-1) → bz_J G κ kX9_planTwo (d + 1) F bc bs 2 [some (.inr (some a0)), some (.inr r1), some (.inr r2), some (.inl (x3 + 1)), some (.inl x4), some (.inl x5), some (.inl y0), u7] [] h) ∧ (¬ (x4 = (-1)) → (y0 = 0 → bz_J G κ kX9_planTwo (d + 1) F bc bs 2 [some (.inr (some a0)), some (.inr r1), some (.inr r2), some (.inl (x3 + 1)), some (.inl x4), some (.inl x5), some (.inl y0), u7] [] h) ∧ (¬ (y0 = 0) → bz_rA h 1 (((x3 * 4) + 4) - 1) (fun x_20 => ((if x_20 = 1 then 1 else 0 : Int32) = 0 → bz_nn r2 (fun a_21 => bz_rI h a_21 2 2 (fun x_22 => bz_rc h a0 9 (bz_cV G l d kX9_takeTried [.inr (some a0), .inl x3, .inl x4, .inl x5, .inl x_22] h 0 0 (fun h_24 => bz_J G κ kX9_planTwo (d + 1) F bc bs 2 [some (.inr (some a0)), some (.inr r1), some (.inr (some a_21)), some (.inl (x3 + 1)), some (.inl x4), some (.inl x5), some (.inl y0), some (.inl (if x_20 = 1 then 1 else 0))] [] h_24))))) ∧ (¬ ((if x_20 = 1 then 1 else 0 : Int32) = 0) → bz_nn r1 (fun a_25 => bz_rI h a_25 2 2 (fun x_26 => bz_rc h a0 9 (bz_cV G l d kX9_takeTried [.inr (some a0), .inl x3, .inl x4, .inl x5, .inl x_26] h 0 0 (fun h_28 => bz_J G κ kX9_planTwo (d + 1) F bc bs 2 [some (.inr (some a0)), some (.inr (some a_25)), some (.inr r2), some (.inl (x3 + 1)), some (.inl x4), some (.inl x5), some (.inl y0), some (.inl (if x_20 = 1 then 1 else 0))] [] h_28))))))))
set_option maxRecDepth 20000 in
set_option maxHeartbeats 4000000 in
theorem g_X9_planTwo_80 {G : bz_G} {κ : bz_K} {l : Launch} {d : Nat} {F : Option bz_V → bz_H → Prop} {bc bs : Nat} (hl : κ.2.1 = l) (a0 : Nat) (r1 : Option Nat) (r2 : Option Nat) (x3 : Int32) (x4 : Int32) (x5 : Int32) (u6 : Option bz_V) (u7 : Option bz_V) (y0 : Int32) (h : bz_H) (hP0 : w_X9_planTwo_80 G κ l d F bc bs a0 r1 r2 x3 x4 x5 u6 u7 y0 h) : bz_J G κ kX9_planTwo (d + 1) F bc bs 80 [some (.inr (some a0)), some (.inr r1), some (.inr r2), some (.inl x3), some (.inl x4), some (.inl x5), u6, u7] [.inl y0] h := by
  subst hl
  unfold w_X9_planTwo_80 at hP0
  refine bz_s_istore (pc := 80) dX9_planTwo_80 (Nat.le_of_ble_eq_true rfl) [some (.inr (some a0)), some (.inr r1), some (.inr r2), some (.inl x3), some (.inl x4), some (.inl x5), some (.inl y0), u7] rfl ?_
  refine bz_iload (pc := 82) dX9_planTwo_82 rfl ?_
  refine bz_iconst (pc := 84) dX9_planTwo_84 ci_m1 ?_
  refine bz_icmp_eq (tgt := 140) (pc := 85) dX9_planTwo_85 rfl (fun c => ?_) (fun c => ?_)
  · have hP1 := hP0.1 c
    clear hP0
    refine bz_s_iinc (pc := 140) dX9_planTwo_140 (Nat.le_of_ble_eq_true rfl) rfl rfl [some (.inr (some a0)), some (.inr r1), some (.inr r2), some (.inl (x3 + 1)), some (.inl x4), some (.inl x5), some (.inl y0), u7] rfl ?_
    refine bz_goto (tgt := 2) (pc := 143) dX9_planTwo_143 rfl ?_
    exact hP1
  · have hP2 := hP0.2 c
    clear hP0
    refine bz_iload (pc := 88) dX9_planTwo_88 rfl ?_
    refine bz_if_eq (tgt := 140) (pc := 90) dX9_planTwo_90 rfl (fun c => ?_) (fun c => ?_)
    · have hP3 := hP2.1 c
      clear hP2
      refine bz_s_iinc (pc := 140) dX9_planTwo_140 (Nat.le_of_ble_eq_true rfl) rfl rfl [some (.inr (some a0)), some (.inr r1), some (.inr r2), some (.inl (x3 + 1)), some (.inl x4), some (.inl x5), some (.inl y0), u7] rfl ?_
      refine bz_goto (tgt := 2) (pc := 143) dX9_planTwo_143 rfl ?_
      exact hP3
    · have hP4 := hP2.2 c
      clear hP2
      refine bz_getsL (pc := 93) dX9_planTwo_93 ⟨rfl, rfl⟩ ?_
      refine bz_iload_n (pc := 96) dX9_planTwo_96 rfl rfl ?_
      refine bz_iconst (pc := 97) dX9_planTwo_97 ci_4 ?_
      refine bz_imul (pc := 98) dX9_planTwo_98 ?_
      refine bz_iconst (pc := 99) dX9_planTwo_99 ci_4 ?_
      refine bz_iadd (pc := 100) dX9_planTwo_100 ?_
      refine bz_iconst (pc := 101) dX9_planTwo_101 ci_1 ?_
      refine bz_isub (pc := 102) dX9_planTwo_102 ?_
      refine bz_rw_rA (pc := 103) dX9_planTwo_103 hP4 (fun x_20 hP5 => ?_)
      clear hP4
      refine bz_iconst (pc := 104) dX9_planTwo_104 ci_1 ?_
      have hJ : bz_J G κ kX9_planTwo (d + 1) F bc bs 113 [some (.inr (some a0)), some (.inr r1), some (.inr r2), some (.inl x3), some (.inl x4), some (.inl x5), some (.inl y0), u7] [.inl (if x_20 = 1 then 1 else 0)] h := by
        refine bz_s_istore (pc := 113) dX9_planTwo_113 (Nat.le_of_ble_eq_true rfl) [some (.inr (some a0)), some (.inr r1), some (.inr r2), some (.inl x3), some (.inl x4), some (.inl x5), some (.inl y0), some (.inl (if x_20 = 1 then 1 else 0))] rfl ?_
        refine bz_aload_n (pc := 115) dX9_planTwo_115 rfl rfl ?_
        refine bz_iload_n (pc := 116) dX9_planTwo_116 rfl rfl ?_
        refine bz_iload (pc := 117) dX9_planTwo_117 rfl ?_
        refine bz_iload (pc := 119) dX9_planTwo_119 rfl ?_
        refine bz_iload (pc := 121) dX9_planTwo_121 rfl ?_
        refine bz_if_eq (tgt := 133) (pc := 123) dX9_planTwo_123 rfl (fun c => ?_) (fun c => ?_)
        · have hP6 := hP5.1 c
          clear hP5
          refine bz_aload_n (pc := 133) dX9_planTwo_133 rfl rfl ?_
          obtain ⟨a_21, rfl, hP7⟩ := hP6
          refine bz_rw_rI (pc := 134) dX9_planTwo_134 fl_X9_50 hP7 (fun x_22 hP8 => ?_)
          clear hP7
          refine bz_kVV (as := [.inl x3, .inl x4, .inl x5, .inl x_22]) (st := []) (ci := 9) (n := 4) (mc := 0) (ms := 0) (bc := bc) (bs := bs) (yc := kX9_takeTried) (q := (RX9, TX9, 11)) (b := a0) (pc := 137) dX9_planTwo_137 sc_X9_takeTried ml_X9_53 im_X9_takeTried se_X9_takeTried rfl rfl rfl (Nat.le_of_ble_eq_true rfl) hP8 (fun h_24 hP9 => ?_)
          clear hP8
          refine bz_s_iinc (pc := 140) dX9_planTwo_140 (Nat.le_of_ble_eq_true rfl) rfl rfl [some (.inr (some a0)), some (.inr r1), some (.inr (some a_21)), some (.inl (x3 + 1)), some (.inl x4), some (.inl x5), some (.inl y0), some (.inl (if x_20 = 1 then 1 else 0))] rfl ?_
          refine bz_goto (tgt := 2) (pc := 143) dX9_planTwo_143 rfl ?_
          exact hP9
        · have hP10 := hP5.2 c
          clear hP5
          refine bz_aload_n (pc := 126) dX9_planTwo_126 rfl rfl ?_
          obtain ⟨a_25, rfl, hP11⟩ := hP10
          refine bz_rw_rI (pc := 127) dX9_planTwo_127 fl_X9_50 hP11 (fun x_26 hP12 => ?_)
          clear hP11
          refine bz_goto (tgt := 137) (pc := 130) dX9_planTwo_130 rfl ?_
          refine bz_kVV (as := [.inl x3, .inl x4, .inl x5, .inl x_26]) (st := []) (ci := 9) (n := 4) (mc := 0) (ms := 0) (bc := bc) (bs := bs) (yc := kX9_takeTried) (q := (RX9, TX9, 11)) (b := a0) (pc := 137) dX9_planTwo_137 sc_X9_takeTried ml_X9_53 im_X9_takeTried se_X9_takeTried rfl rfl rfl (Nat.le_of_ble_eq_true rfl) hP12 (fun h_28 hP13 => ?_)
          clear hP12
          refine bz_s_iinc (pc := 140) dX9_planTwo_140 (Nat.le_of_ble_eq_true rfl) rfl rfl [some (.inr (some a0)), some (.inr (some a_25)), some (.inr r2), some (.inl (x3 + 1)), some (.inl x4), some (.inl x5), some (.inl y0), some (.inl (if x_20 = 1 then 1 else 0))] rfl ?_
          refine bz_goto (tgt := 2) (pc := 143) dX9_planTwo_143 rfl ?_
          exact hP13
      refine bz_icmp_ne (tgt := 112) (pc := 105) dX9_planTwo_105 rfl (fun c => ?_) (fun c => ?_)
      · have e9 : ((if x_20 = 1 then 1 else 0) : Int32) = (0) := if_neg c
        rw [e9] at hJ
        refine bz_iconst (pc := 112) dX9_planTwo_112 ci_0 ?_
        exact hJ
      · have e9 : ((if x_20 = 1 then 1 else 0) : Int32) = (1) := if_pos c
        rw [e9] at hJ
        refine bz_iconst (pc := 108) dX9_planTwo_108 ci_1 ?_
        refine bz_goto (tgt := 113) (pc := 109) dX9_planTwo_109 rfl ?_
        exact hJ
theorem m_X9_planTwo {G : bz_G} {l : Launch} {d mc ms : Nat} {F : Option bz_V → bz_H → Prop} (a0 : Nat) (r1 : Option Nat) (r2 : Option Nat) (h : bz_H) (hP : ∀ (κ : bz_K) (bc bs : Nat), κ.2.1 = l → w_X9_planTwo_0 G κ l d F bc bs a0 r1 r2 h) : bz_Call G l (d + 1) kX9_planTwo [.inr (some a0), .inr r1, .inr r2] h mc ms F :=
  bz_body (by decide) (Nat.le_of_ble_eq_true rfl) (fun κ hl => g_X9_planTwo_0 hl a0 r1 r2 h (hP κ mc ms hl))
