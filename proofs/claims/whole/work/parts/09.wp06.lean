def w_X12_crossing_0 (G : bz_G) (l : Launch) (d : Nat) (F : Option bz_V → bz_H → Prop) (a0 : Nat) (x1 : Int32) (x2 : Int32) (x3 : Int32) (h : bz_H) : Prop := bz_cI G l d kX12_isCrossing [.inl x1] h 0 0 (fun x_1 h_2 => (x_1 = 0 → bz_rc h_2 a0 12 (bz_cI G l d kX12_finding [.inr (some a0), .inl 0] h_2 0 0 (fun x_3 h_4 => F (some (.inl x_3)) h_4))) ∧ (¬ (x_1 = 0) → bz_cI G l d kX12_in [.inl x2, .inl 0, .inl 1] h_2 0 0 (fun x_5 h_6 => (x_5 = 0 → bz_rc h_6 a0 12 (bz_cI G l d kX12_finding [.inr (some a0), .inl 0] h_6 0 0 (fun x_7 h_8 => F (some (.inl x_7)) h_8))) ∧ (¬ (x_5 = 0) → bz_cI G l d kX12_in [.inl x3, .inl 0, .inl (if x2 = 0 then 9 else 3)] h_6 0 0 (fun x_9 h_10 => (¬ x_9 = 0 → bz_b 0 (bz_wI h_10 a0 12 5 0 (fun h_11 => bz_rc h_11 a0 12 (bz_cI G l d kX12_become [.inr (some a0), .inl ((12 + (16 * x2)) + x1), .inl x3] h_11 0 0 (fun x_12 h_13 => F (some (.inl x_12)) h_13))))) ∧ (x_9 = 0 → bz_rc h_10 a0 12 (bz_cI G l d kX12_finding [.inr (some a0), .inl 0] h_10 0 0 (fun x_14 h_15 => F (some (.inl x_14)) h_15))))))))
set_option maxRecDepth 20000 in
set_option maxHeartbeats 4000000 in
theorem g_X12_crossing_0 {G : bz_G} {κ : bz_K} {l : Launch} {d : Nat} {F : Option bz_V → bz_H → Prop} {bc bs : Nat} (hl : κ.2.1 = l) (a0 : Nat) (x1 : Int32) (x2 : Int32) (x3 : Int32) (h : bz_H) (hP0 : w_X12_crossing_0 G l d F a0 x1 x2 x3 h) : bz_J G κ kX12_crossing (d + 1) F bc bs 0 [some (.inr (some a0)), some (.inl x1), some (.inl x2), some (.inl x3)] [] h := by
  subst hl
  unfold w_X12_crossing_0 at hP0
  refine bz_iload_n (pc := 0) dX12_crossing_0 rfl rfl ?_
  refine bz_kIS (as := [.inl x1]) (st := []) (n := 1) (mc := 0) (ms := 0) (bc := bc) (bs := bs) (yc := kX12_isCrossing) (pc := 1) dX12_crossing_1 sc_X12_isCrossing ml_X12_69 ss_X12_isCrossing rfl (Nat.le_of_ble_eq_true rfl) hP0 (fun x_1 h_2 hP1 => ?_)
  clear hP0
  refine bz_if_eq (tgt := 34) (pc := 4) dX12_crossing_4 rfl (fun c => ?_) (fun c => ?_)
  · have hP2 := hP1.1 c
    clear hP1
    refine bz_aload_n (pc := 34) dX12_crossing_34 rfl rfl ?_
    refine bz_iconst (pc := 35) dX12_crossing_35 ci_0 ?_
    refine bz_kIV (as := [.inl 0]) (st := []) (ci := 12) (n := 1) (mc := 0) (ms := 0) (bc := bc) (bs := bs) (yc := kX12_finding) (q := (RX12, TX12, 34)) (b := a0) (pc := 36) dX12_crossing_36 sc_X12_finding ml_X12_73 im_X12_finding se_X12_finding rfl rfl rfl (Nat.le_of_ble_eq_true rfl) hP2 (fun x_3 h_4 hP3 => ?_)
    clear hP2
    exact bz_retI (pc := 39) dX12_crossing_39 rfl rfl hP3
  · have hP4 := hP1.2 c
    clear hP1
    refine bz_iload_n (pc := 7) dX12_crossing_7 rfl rfl ?_
    refine bz_iconst (pc := 8) dX12_crossing_8 ci_0 ?_
    refine bz_iconst (pc := 9) dX12_crossing_9 ci_1 ?_
    refine bz_kIS (as := [.inl x2, .inl 0, .inl 1]) (st := []) (n := 3) (mc := 0) (ms := 0) (bc := bc) (bs := bs) (yc := kX12_in) (pc := 10) dX12_crossing_10 sc_X12_in ml_X12_65 ss_X12_in rfl (Nat.le_of_ble_eq_true rfl) hP4 (fun x_5 h_6 hP5 => ?_)
    clear hP4
    refine bz_if_eq (tgt := 34) (pc := 13) dX12_crossing_13 rfl (fun c => ?_) (fun c => ?_)
    · have hP6 := hP5.1 c
      clear hP5
      refine bz_aload_n (pc := 34) dX12_crossing_34 rfl rfl ?_
      refine bz_iconst (pc := 35) dX12_crossing_35 ci_0 ?_
      refine bz_kIV (as := [.inl 0]) (st := []) (ci := 12) (n := 1) (mc := 0) (ms := 0) (bc := bc) (bs := bs) (yc := kX12_finding) (q := (RX12, TX12, 34)) (b := a0) (pc := 36) dX12_crossing_36 sc_X12_finding ml_X12_73 im_X12_finding se_X12_finding rfl rfl rfl (Nat.le_of_ble_eq_true rfl) hP6 (fun x_7 h_8 hP7 => ?_)
      clear hP6
      exact bz_retI (pc := 39) dX12_crossing_39 rfl rfl hP7
    · have hP8 := hP5.2 c
      clear hP5
      refine bz_iload_n (pc := 16) dX12_crossing_16 rfl rfl ?_
      refine bz_iconst (pc := 17) dX12_crossing_17 ci_0 ?_
      refine bz_iload_n (pc := 18) dX12_crossing_18 rfl rfl ?_
      have hJ : bz_J G κ kX12_crossing (d + 1) F bc bs 28 [some (.inr (some a0)), some (.inl x1), some (.inl x2), some (.inl x3)] [.inl (if x2 = 0 then 9 else 3), .inl 0, .inl x3] h_6 := by
        refine bz_kIS (as := [.inl x3, .inl 0, .inl (if x2 = 0 then 9 else 3)]) (st := []) (n := 3) (mc := 0) (ms := 0) (bc := bc) (bs := bs) (yc := kX12_in) (pc := 28) dX12_crossing_28 sc_X12_in ml_X12_65 ss_X12_in rfl (Nat.le_of_ble_eq_true rfl) hP8 (fun x_9 h_10 hP9 => ?_)
        clear hP8
        refine bz_if_ne (tgt := 40) (pc := 31) dX12_crossing_31 rfl (fun c => ?_) (fun c => ?_)
        · have hP10 := hP9.1 c
          clear hP9
          refine bz_aload_n (pc := 40) dX12_crossing_40 rfl rfl ?_
          refine bz_iconst (pc := 41) dX12_crossing_41 ci_0 ?_
          refine bz_rw_wZ (pc := 42) dX12_crossing_42 fl_X12_77 (fun q h9 => by cases h9; rfl) rfl hP10 (fun h_11 hP11 => ?_)
          clear hP10
          refine bz_aload_n (pc := 45) dX12_crossing_45 rfl rfl ?_
          refine bz_bipush (pc := 46) dX12_crossing_46 cb_12 ?_
          refine bz_bipush (pc := 48) dX12_crossing_48 cb_16 ?_
          refine bz_iload_n (pc := 50) dX12_crossing_50 rfl rfl ?_
          refine bz_imul (pc := 51) dX12_crossing_51 ?_
          refine bz_iadd (pc := 52) dX12_crossing_52 ?_
          refine bz_iload_n (pc := 53) dX12_crossing_53 rfl rfl ?_
          refine bz_iadd (pc := 54) dX12_crossing_54 ?_
          refine bz_iload_n (pc := 55) dX12_crossing_55 rfl rfl ?_
          refine bz_kIV (as := [.inl ((12 + (16 * x2)) + x1), .inl x3]) (st := []) (ci := 12) (n := 2) (mc := 0) (ms := 0) (bc := bc) (bs := bs) (yc := kX12_become) (q := (RX12, TX12, 34)) (b := a0) (pc := 56) dX12_crossing_56 sc_X12_become ml_X12_81 im_X12_become se_X12_become rfl rfl rfl (Nat.le_of_ble_eq_true rfl) hP11 (fun x_12 h_13 hP12 => ?_)
          clear hP11
          exact bz_retI (pc := 59) dX12_crossing_59 rfl rfl hP12
        · have hP13 := hP9.2 c
          clear hP9
          refine bz_aload_n (pc := 34) dX12_crossing_34 rfl rfl ?_
          refine bz_iconst (pc := 35) dX12_crossing_35 ci_0 ?_
          refine bz_kIV (as := [.inl 0]) (st := []) (ci := 12) (n := 1) (mc := 0) (ms := 0) (bc := bc) (bs := bs) (yc := kX12_finding) (q := (RX12, TX12, 34)) (b := a0) (pc := 36) dX12_crossing_36 sc_X12_finding ml_X12_73 im_X12_finding se_X12_finding rfl rfl rfl (Nat.le_of_ble_eq_true rfl) hP13 (fun x_14 h_15 hP14 => ?_)
          clear hP13
          exact bz_retI (pc := 39) dX12_crossing_39 rfl rfl hP14
      refine bz_if_ne (tgt := 27) (pc := 19) dX12_crossing_19 rfl (fun c => ?_) (fun c => ?_)
      · have e9 : ((if x2 = 0 then 9 else 3) : Int32) = (3) := if_neg c
        rw [e9] at hJ
        refine bz_iconst (pc := 27) dX12_crossing_27 ci_3 ?_
        exact hJ
      · have e9 : ((if x2 = 0 then 9 else 3) : Int32) = (9) := if_pos c
        rw [e9] at hJ
        refine bz_bipush (pc := 22) dX12_crossing_22 cb_9 ?_
        refine bz_goto (tgt := 28) (pc := 24) dX12_crossing_24 rfl ?_
        exact hJ
theorem m_X12_crossing {G : bz_G} {l : Launch} {d mc ms : Nat} {F : Option bz_V → bz_H → Prop} (a0 : Nat) (x1 : Int32) (x2 : Int32) (x3 : Int32) (h : bz_H) (hP : w_X12_crossing_0 G l d F a0 x1 x2 x3 h) : bz_Call G l (d + 1) kX12_crossing [.inr (some a0), .inl x1, .inl x2, .inl x3] h mc ms F :=
  bz_body (by decide) (Nat.le_of_ble_eq_true rfl) (fun κ hl => g_X12_crossing_0 hl a0 x1 x2 x3 h hP)
def w_X12_doubles_0 (G : bz_G) (κ : bz_K) (l : Launch) (d : Nat) (F : Option bz_V → bz_H → Prop) (bc bs : Nat) (a0 : Nat) (x1 : Int32) (x2 : Int32) (h : bz_H) : Prop := bz_rc h a0 12 (bz_cI G l d kX12_isRider [.inr (some a0), .inl x1] h 0 0 (fun x_1 h_2 => (x_1 = 0 → bz_rc h_2 a0 12 (bz_cI G l d kX12_finding [.inr (some a0), .inl 0] h_2 0 0 (fun x_3 h_4 => F (some (.inl x_3)) h_4))) ∧ (¬ (x_1 = 0) → bz_cI G l d kX12_in [.inl x2, .inl 0, .inl 2] h_2 0 0 (fun x_5 h_6 => (¬ x_5 = 0 → bz_J G κ kX12_doubles (d + 1) F bc bs 34 [some (.inr (some a0)), some (.inl x1), some (.inl x2), some (.inl 0), some (.inl (-1)), some (.inl (-1)), some (.inl 0), none] [] h_6) ∧ (x_5 = 0 → bz_rc h_6 a0 12 (bz_cI G l d kX12_finding [.inr (some a0), .inl 0] h_6 0 0 (fun x_7 h_8 => F (some (.inl x_7)) h_8)))))))
set_option maxRecDepth 20000 in
set_option maxHeartbeats 4000000 in
theorem g_X12_doubles_0 {G : bz_G} {κ : bz_K} {l : Launch} {d : Nat} {F : Option bz_V → bz_H → Prop} {bc bs : Nat} (hl : κ.2.1 = l) (a0 : Nat) (x1 : Int32) (x2 : Int32) (h : bz_H) (hP0 : w_X12_doubles_0 G κ l d F bc bs a0 x1 x2 h) : bz_J G κ kX12_doubles (d + 1) F bc bs 0 [some (.inr (some a0)), some (.inl x1), some (.inl x2), none, none, none, none, none] [] h := by
  subst hl
  unfold w_X12_doubles_0 at hP0
  refine bz_aload_n (pc := 0) dX12_doubles_0 rfl rfl ?_
  refine bz_iload_n (pc := 1) dX12_doubles_1 rfl rfl ?_
  refine bz_kIV (as := [.inl x1]) (st := []) (ci := 12) (n := 1) (mc := 0) (ms := 0) (bc := bc) (bs := bs) (yc := kX12_isRider) (q := (RX12, TX12, 34)) (b := a0) (pc := 2) dX12_doubles_2 sc_X12_isRider ml_X12_139 im_X12_isRider se_X12_isRider rfl rfl rfl (Nat.le_of_ble_eq_true rfl) hP0 (fun x_1 h_2 hP1 => ?_)
  clear hP0
  refine bz_if_eq (tgt := 17) (pc := 5) dX12_doubles_5 rfl (fun c => ?_) (fun c => ?_)
  · have hP2 := hP1.1 c
    clear hP1
    refine bz_aload_n (pc := 17) dX12_doubles_17 rfl rfl ?_
    refine bz_iconst (pc := 18) dX12_doubles_18 ci_0 ?_
    refine bz_kIV (as := [.inl 0]) (st := []) (ci := 12) (n := 1) (mc := 0) (ms := 0) (bc := bc) (bs := bs) (yc := kX12_finding) (q := (RX12, TX12, 34)) (b := a0) (pc := 19) dX12_doubles_19 sc_X12_finding ml_X12_73 im_X12_finding se_X12_finding rfl rfl rfl (Nat.le_of_ble_eq_true rfl) hP2 (fun x_3 h_4 hP3 => ?_)
    clear hP2
    exact bz_retI (pc := 22) dX12_doubles_22 rfl rfl hP3
  · have hP4 := hP1.2 c
    clear hP1
    refine bz_iload_n (pc := 8) dX12_doubles_8 rfl rfl ?_
    refine bz_iconst (pc := 9) dX12_doubles_9 ci_0 ?_
    refine bz_iconst (pc := 10) dX12_doubles_10 ci_2 ?_
    refine bz_kIS (as := [.inl x2, .inl 0, .inl 2]) (st := []) (n := 3) (mc := 0) (ms := 0) (bc := bc) (bs := bs) (yc := kX12_in) (pc := 11) dX12_doubles_11 sc_X12_in ml_X12_65 ss_X12_in rfl (Nat.le_of_ble_eq_true rfl) hP4 (fun x_5 h_6 hP5 => ?_)
    clear hP4
    refine bz_if_ne (tgt := 23) (pc := 14) dX12_doubles_14 rfl (fun c => ?_) (fun c => ?_)
    · have hP6 := hP5.1 c
      clear hP5
      refine bz_iconst (pc := 23) dX12_doubles_23 ci_0 ?_
      refine bz_s_istore_n (pc := 24) dX12_doubles_24 rfl (Nat.le_of_ble_eq_true rfl) [some (.inr (some a0)), some (.inl x1), some (.inl x2), some (.inl 0), none, none, none, none] rfl ?_
      refine bz_iconst (pc := 25) dX12_doubles_25 ci_m1 ?_
      refine bz_s_istore (pc := 26) dX12_doubles_26 (Nat.le_of_ble_eq_true rfl) [some (.inr (some a0)), some (.inl x1), some (.inl x2), some (.inl 0), some (.inl (-1)), none, none, none] rfl ?_
      refine bz_iconst (pc := 28) dX12_doubles_28 ci_m1 ?_
      refine bz_s_istore (pc := 29) dX12_doubles_29 (Nat.le_of_ble_eq_true rfl) [some (.inr (some a0)), some (.inl x1), some (.inl x2), some (.inl 0), some (.inl (-1)), some (.inl (-1)), none, none] rfl ?_
      refine bz_iconst (pc := 31) dX12_doubles_31 ci_0 ?_
      refine bz_s_istore (pc := 32) dX12_doubles_32 (Nat.le_of_ble_eq_true rfl) [some (.inr (some a0)), some (.inl x1), some (.inl x2), some (.inl 0), some (.inl (-1)), some (.inl (-1)), some (.inl 0), none] rfl ?_
      exact hP6
    · have hP7 := hP5.2 c
      clear hP5
      refine bz_aload_n (pc := 17) dX12_doubles_17 rfl rfl ?_
      refine bz_iconst (pc := 18) dX12_doubles_18 ci_0 ?_
      refine bz_kIV (as := [.inl 0]) (st := []) (ci := 12) (n := 1) (mc := 0) (ms := 0) (bc := bc) (bs := bs) (yc := kX12_finding) (q := (RX12, TX12, 34)) (b := a0) (pc := 19) dX12_doubles_19 sc_X12_finding ml_X12_73 im_X12_finding se_X12_finding rfl rfl rfl (Nat.le_of_ble_eq_true rfl) hP7 (fun x_7 h_8 hP8 => ?_)
      clear hP7
      exact bz_retI (pc := 22) dX12_doubles_22 rfl rfl hP8
def w_X12_doubles_34 (G : bz_G) (κ : bz_K) (l : Launch) (d : Nat) (F : Option bz_V → bz_H → Prop) (bc bs : Nat) (a0 : Nat) (x1 : Int32) (x2 : Int32) (x3 : Int32) (x4 : Int32) (x5 : Int32) (x6 : Int32) (u7 : Option bz_V) (h : bz_H) : Prop := bz_rR h a0 12 0 (fun r_9 => bz_nn r_9 (fun a_10 => bz_rA h a_10 9 (fun x_11 => (x_11 ≤ x6 → (¬ x2 = 0 → (¬ x3 = 0 → F (some (.inl (if x2 = 1 then x4 else x5))) h) ∧ (x3 = 0 → bz_rc h a0 12 (bz_cI G l d kX12_finding [.inr (some a0), .inl 3] h 0 0 (fun x_12 h_13 => F (some (.inl x_12)) h_13)))) ∧ (x2 = 0 → F (some (.inl x3)) h)) ∧ (¬ (x_11 ≤ x6) → bz_J G κ kX12_doubles (d + 1) F bc bs 52 [some (.inr (some a0)), some (.inl x1), some (.inl x2), some (.inl x3), some (.inl x4), some (.inl x5), some (.inl x6), some (.inl (x6 + 1))] [] h))))
set_option maxRecDepth 20000 in
set_option maxHeartbeats 4000000 in
theorem g_X12_doubles_34 {G : bz_G} {κ : bz_K} {l : Launch} {d : Nat} {F : Option bz_V → bz_H → Prop} {bc bs : Nat} (hl : κ.2.1 = l) (a0 : Nat) (x1 : Int32) (x2 : Int32) (x3 : Int32) (x4 : Int32) (x5 : Int32) (x6 : Int32) (u7 : Option bz_V) (h : bz_H) (hP0 : w_X12_doubles_34 G κ l d F bc bs a0 x1 x2 x3 x4 x5 x6 u7 h) : bz_J G κ kX12_doubles (d + 1) F bc bs 34 [some (.inr (some a0)), some (.inl x1), some (.inl x2), some (.inl x3), some (.inl x4), some (.inl x5), some (.inl x6), u7] [] h := by
  subst hl
  unfold w_X12_doubles_34 at hP0
  refine bz_iload (pc := 34) dX12_doubles_34 rfl ?_
  refine bz_aload_n (pc := 36) dX12_doubles_36 rfl rfl ?_
  refine bz_rw_rR (pc := 37) dX12_doubles_37 fl_X12_7 hP0 (fun r_9 hP1 => ?_)
  clear hP0
  refine bz_bipush (pc := 40) dX12_doubles_40 cb_9 ?_
  obtain ⟨a_10, rfl, hP2⟩ := hP1
  refine bz_rw_rA (pc := 42) dX12_doubles_42 hP2 (fun x_11 hP3 => ?_)
  clear hP2
  refine bz_icmp_ge (tgt := 153) (pc := 43) dX12_doubles_43 rfl (fun c => ?_) (fun c => ?_)
  · have hP4 := hP3.1 c
    clear hP3
    refine bz_iload_n (pc := 153) dX12_doubles_153 rfl rfl ?_
    refine bz_if_ne (tgt := 161) (pc := 154) dX12_doubles_154 rfl (fun c => ?_) (fun c => ?_)
    · have hP5 := hP4.1 c
      clear hP4
      refine bz_iload_n (pc := 161) dX12_doubles_161 rfl rfl ?_
      refine bz_if_ne (tgt := 173) (pc := 162) dX12_doubles_162 rfl (fun c => ?_) (fun c => ?_)
      · have hP6 := hP5.1 c
        clear hP5
        refine bz_iload_n (pc := 173) dX12_doubles_173 rfl rfl ?_
        refine bz_iconst (pc := 174) dX12_doubles_174 ci_1 ?_
        have hJ : bz_J G κ kX12_doubles (d + 1) F bc bs 185 [some (.inr (some a0)), some (.inl x1), some (.inl x2), some (.inl x3), some (.inl x4), some (.inl x5), some (.inl x6), u7] [.inl (if x2 = 1 then x4 else x5)] h := by
          exact bz_retI (pc := 185) dX12_doubles_185 rfl rfl hP6
        refine bz_icmp_ne (tgt := 183) (pc := 175) dX12_doubles_175 rfl (fun c => ?_) (fun c => ?_)
        · have e9 : ((if x2 = 1 then x4 else x5) : Int32) = (x5) := if_neg c
          rw [e9] at hJ
          refine bz_iload (pc := 183) dX12_doubles_183 rfl ?_
          exact hJ
        · have e9 : ((if x2 = 1 then x4 else x5) : Int32) = (x4) := if_pos c
          rw [e9] at hJ
          refine bz_iload (pc := 178) dX12_doubles_178 rfl ?_
          refine bz_goto (tgt := 185) (pc := 180) dX12_doubles_180 rfl ?_
          exact hJ
      · have hP7 := hP5.2 c
        clear hP5
        refine bz_aload_n (pc := 165) dX12_doubles_165 rfl rfl ?_
        refine bz_iconst (pc := 166) dX12_doubles_166 ci_3 ?_
        refine bz_kIV (as := [.inl 3]) (st := []) (ci := 12) (n := 1) (mc := 0) (ms := 0) (bc := bc) (bs := bs) (yc := kX12_finding) (q := (RX12, TX12, 34)) (b := a0) (pc := 167) dX12_doubles_167 sc_X12_finding ml_X12_73 im_X12_finding se_X12_finding rfl rfl rfl (Nat.le_of_ble_eq_true rfl) hP7 (fun x_12 h_13 hP8 => ?_)
        clear hP7
        refine bz_goto (tgt := 185) (pc := 170) dX12_doubles_170 rfl ?_
        exact bz_retI (pc := 185) dX12_doubles_185 rfl rfl hP8
    · have hP9 := hP4.2 c
      clear hP4
      refine bz_iload_n (pc := 157) dX12_doubles_157 rfl rfl ?_
      refine bz_goto (tgt := 185) (pc := 158) dX12_doubles_158 rfl ?_
      exact bz_retI (pc := 185) dX12_doubles_185 rfl rfl hP9
  · have hP10 := hP3.2 c
    clear hP3
    refine bz_iload (pc := 46) dX12_doubles_46 rfl ?_
    refine bz_iconst (pc := 48) dX12_doubles_48 ci_1 ?_
    refine bz_iadd (pc := 49) dX12_doubles_49 ?_
    refine bz_s_istore (pc := 50) dX12_doubles_50 (Nat.le_of_ble_eq_true rfl) [some (.inr (some a0)), some (.inl x1), some (.inl x2), some (.inl x3), some (.inl x4), some (.inl x5), some (.inl x6), some (.inl (x6 + 1))] rfl ?_
    exact hP10
def w_X12_doubles_52 (G : bz_G) (κ : bz_K) (l : Launch) (d : Nat) (F : Option bz_V → bz_H → Prop) (bc bs : Nat) (a0 : Nat) (x1 : Int32) (x2 : Int32) (x3 : Int32) (x4 : Int32) (x5 : Int32) (x6 : Int32) (x7 : Int32) (h : bz_H) : Prop := bz_rR h a0 12 0 (fun r_14 => bz_nn r_14 (fun a_15 => bz_rA h a_15 9 (fun x_16 => (x_16 ≤ x7 → bz_J G κ kX12_doubles (d + 1) F bc bs 34 [some (.inr (some a0)), some (.inl x1), some (.inl x2), some (.inl x3), some (.inl x4), some (.inl x5), some (.inl (x6 + 1)), some (.inl x7)] [] h) ∧ (¬ (x_16 ≤ x7) → bz_rR h a0 12 0 (fun r_17 => bz_nn r_17 (fun a_18 => bz_rA h a_18 (834 + (3 * x6)) (fun x_19 => (¬ x_19 = x1 → bz_J G κ kX12_doubles (d + 1) F bc bs 52 [some (.inr (some a0)), some (.inl x1), some (.inl x2), some (.inl x3), some (.inl x4), some (.inl x5), some (.inl x6), some (.inl (x7 + 1))] [] h) ∧ (x_19 = x1 → bz_rR h a0 12 0 (fun r_20 => bz_nn r_20 (fun a_21 => bz_rA h a_21 (834 + (3 * x7)) (fun x_22 => (¬ x_22 = x1 → bz_J G κ kX12_doubles (d + 1) F bc bs 52 [some (.inr (some a0)), some (.inl x1), some (.inl x2), some (.inl x3), some (.inl x4), some (.inl x5), some (.inl x6), some (.inl (x7 + 1))] [] h) ∧ (x_22 = x1 → bz_rc h a0 12 (bz_cI G l d kX12_isDouble [.inr (some a0), .inl x6, .inl x7] h 0 0 (fun x_23 h_24 => (¬ x_23 = 0 → bz_J G κ kX12_doubles (d + 1) F bc bs 52 [some (.inr (some a0)), some (.inl x1), some (.inl x2), some (.inl (x3 + 1)), some (.inl (if x3 = 0 then x6 else x4)), some (.inl (if x3 = 0 then x7 else x5)), some (.inl x6), some (.inl (x7 + 1))] [] h_24) ∧ (x_23 = 0 → bz_J G κ kX12_doubles (d + 1) F bc bs 52 [some (.inr (some a0)), some (.inl x1), some (.inl x2), some (.inl x3), some (.inl x4), some (.inl x5), some (.inl x6), some (.inl (x7 + 1))] [] h_24)))))))))))))))
set_option maxRecDepth 20000 in
set_option maxHeartbeats 4000000 in
theorem g_X12_doubles_52 {G : bz_G} {κ : bz_K} {l : Launch} {d : Nat} {F : Option bz_V → bz_H → Prop} {bc bs : Nat} (hl : κ.2.1 = l) (a0 : Nat) (x1 : Int32) (x2 : Int32) (x3 : Int32) (x4 : Int32) (x5 : Int32) (x6 : Int32) (x7 : Int32) (h : bz_H) (hP0 : w_X12_doubles_52 G κ l d F bc bs a0 x1 x2 x3 x4 x5 x6 x7 h) : bz_J G κ kX12_doubles (d + 1) F bc bs 52 [some (.inr (some a0)), some (.inl x1), some (.inl x2), some (.inl x3), some (.inl x4), some (.inl x5), some (.inl x6), some (.inl x7)] [] h := by
  subst hl
  unfold w_X12_doubles_52 at hP0
  refine bz_iload (pc := 52) dX12_doubles_52 rfl ?_
  refine bz_aload_n (pc := 54) dX12_doubles_54 rfl rfl ?_
  refine bz_rw_rR (pc := 55) dX12_doubles_55 fl_X12_7 hP0 (fun r_14 hP1 => ?_)
  clear hP0
  refine bz_bipush (pc := 58) dX12_doubles_58 cb_9 ?_
  obtain ⟨a_15, rfl, hP2⟩ := hP1
  refine bz_rw_rA (pc := 60) dX12_doubles_60 hP2 (fun x_16 hP3 => ?_)
  clear hP2
  refine bz_icmp_ge (tgt := 147) (pc := 61) dX12_doubles_61 rfl (fun c => ?_) (fun c => ?_)
  · have hP4 := hP3.1 c
    clear hP3
    refine bz_s_iinc (pc := 147) dX12_doubles_147 (Nat.le_of_ble_eq_true rfl) rfl rfl [some (.inr (some a0)), some (.inl x1), some (.inl x2), some (.inl x3), some (.inl x4), some (.inl x5), some (.inl (x6 + 1)), some (.inl x7)] rfl ?_
    refine bz_goto (tgt := 34) (pc := 150) dX12_doubles_150 rfl ?_
    exact hP4
  · have hP5 := hP3.2 c
    clear hP3
    refine bz_aload_n (pc := 64) dX12_doubles_64 rfl rfl ?_
    refine bz_rw_rR (pc := 65) dX12_doubles_65 fl_X12_7 hP5 (fun r_17 hP6 => ?_)
    clear hP5
    refine bz_sipush (pc := 68) dX12_doubles_68 cs_834 ?_
    refine bz_iconst (pc := 71) dX12_doubles_71 ci_3 ?_
    refine bz_iload (pc := 72) dX12_doubles_72 rfl ?_
    refine bz_imul (pc := 74) dX12_doubles_74 ?_
    refine bz_iadd (pc := 75) dX12_doubles_75 ?_
    obtain ⟨a_18, rfl, hP7⟩ := hP6
    refine bz_rw_rA (pc := 76) dX12_doubles_76 hP7 (fun x_19 hP8 => ?_)
    clear hP7
    refine bz_iload_n (pc := 77) dX12_doubles_77 rfl rfl ?_
    refine bz_icmp_ne (tgt := 141) (pc := 78) dX12_doubles_78 rfl (fun c => ?_) (fun c => ?_)
    · have hP9 := hP8.1 c
      clear hP8
      refine bz_s_iinc (pc := 141) dX12_doubles_141 (Nat.le_of_ble_eq_true rfl) rfl rfl [some (.inr (some a0)), some (.inl x1), some (.inl x2), some (.inl x3), some (.inl x4), some (.inl x5), some (.inl x6), some (.inl (x7 + 1))] rfl ?_
      refine bz_goto (tgt := 52) (pc := 144) dX12_doubles_144 rfl ?_
      exact hP9
    · have hP10 := hP8.2 c
      clear hP8
      refine bz_aload_n (pc := 81) dX12_doubles_81 rfl rfl ?_
      refine bz_rw_rR (pc := 82) dX12_doubles_82 fl_X12_7 hP10 (fun r_20 hP11 => ?_)
      clear hP10
      refine bz_sipush (pc := 85) dX12_doubles_85 cs_834 ?_
      refine bz_iconst (pc := 88) dX12_doubles_88 ci_3 ?_
      refine bz_iload (pc := 89) dX12_doubles_89 rfl ?_
      refine bz_imul (pc := 91) dX12_doubles_91 ?_
      refine bz_iadd (pc := 92) dX12_doubles_92 ?_
      obtain ⟨a_21, rfl, hP12⟩ := hP11
      refine bz_rw_rA (pc := 93) dX12_doubles_93 hP12 (fun x_22 hP13 => ?_)
      clear hP12
      refine bz_iload_n (pc := 94) dX12_doubles_94 rfl rfl ?_
      refine bz_icmp_ne (tgt := 141) (pc := 95) dX12_doubles_95 rfl (fun c => ?_) (fun c => ?_)
      · have hP14 := hP13.1 c
        clear hP13
        refine bz_s_iinc (pc := 141) dX12_doubles_141 (Nat.le_of_ble_eq_true rfl) rfl rfl [some (.inr (some a0)), some (.inl x1), some (.inl x2), some (.inl x3), some (.inl x4), some (.inl x5), some (.inl x6), some (.inl (x7 + 1))] rfl ?_
        refine bz_goto (tgt := 52) (pc := 144) dX12_doubles_144 rfl ?_
        exact hP14
      · have hP15 := hP13.2 c
        clear hP13
        refine bz_aload_n (pc := 98) dX12_doubles_98 rfl rfl ?_
        refine bz_iload (pc := 99) dX12_doubles_99 rfl ?_
        refine bz_iload (pc := 101) dX12_doubles_101 rfl ?_
        refine bz_kIV (as := [.inl x6, .inl x7]) (st := []) (ci := 12) (n := 2) (mc := 0) (ms := 0) (bc := bc) (bs := bs) (yc := kX12_isDouble) (q := (RX12, TX12, 34)) (b := a0) (pc := 103) dX12_doubles_103 sc_X12_isDouble ml_X12_314 im_X12_isDouble se_X12_isDouble rfl rfl rfl (Nat.le_of_ble_eq_true rfl) hP15 (fun x_23 h_24 hP16 => ?_)
        clear hP15
        refine bz_if_ne (tgt := 112) (pc := 106) dX12_doubles_106 rfl (fun c => ?_) (fun c => ?_)
        · have hP17 := hP16.1 c
          clear hP16
          refine bz_iload_n (pc := 112) dX12_doubles_112 rfl rfl ?_
          have hJ : bz_J G κ kX12_doubles (d + 1) F bc bs 123 [some (.inr (some a0)), some (.inl x1), some (.inl x2), some (.inl x3), some (.inl x4), some (.inl x5), some (.inl x6), some (.inl x7)] [.inl (if x3 = 0 then x6 else x4)] h_24 := by
            refine bz_s_istore (pc := 123) dX12_doubles_123 (Nat.le_of_ble_eq_true rfl) [some (.inr (some a0)), some (.inl x1), some (.inl x2), some (.inl x3), some (.inl (if x3 = 0 then x6 else x4)), some (.inl x5), some (.inl x6), some (.inl x7)] rfl ?_
            refine bz_iload_n (pc := 125) dX12_doubles_125 rfl rfl ?_
            have hJ : bz_J G κ kX12_doubles (d + 1) F bc bs 136 [some (.inr (some a0)), some (.inl x1), some (.inl x2), some (.inl x3), some (.inl (if x3 = 0 then x6 else x4)), some (.inl x5), some (.inl x6), some (.inl x7)] [.inl (if x3 = 0 then x7 else x5)] h_24 := by
              refine bz_s_istore (pc := 136) dX12_doubles_136 (Nat.le_of_ble_eq_true rfl) [some (.inr (some a0)), some (.inl x1), some (.inl x2), some (.inl x3), some (.inl (if x3 = 0 then x6 else x4)), some (.inl (if x3 = 0 then x7 else x5)), some (.inl x6), some (.inl x7)] rfl ?_
              refine bz_s_iinc (pc := 138) dX12_doubles_138 (Nat.le_of_ble_eq_true rfl) rfl rfl [some (.inr (some a0)), some (.inl x1), some (.inl x2), some (.inl (x3 + 1)), some (.inl (if x3 = 0 then x6 else x4)), some (.inl (if x3 = 0 then x7 else x5)), some (.inl x6), some (.inl x7)] rfl ?_
              refine bz_s_iinc (pc := 141) dX12_doubles_141 (Nat.le_of_ble_eq_true rfl) rfl rfl [some (.inr (some a0)), some (.inl x1), some (.inl x2), some (.inl (x3 + 1)), some (.inl (if x3 = 0 then x6 else x4)), some (.inl (if x3 = 0 then x7 else x5)), some (.inl x6), some (.inl (x7 + 1))] rfl ?_
              refine bz_goto (tgt := 52) (pc := 144) dX12_doubles_144 rfl ?_
              exact hP17
            refine bz_if_ne (tgt := 134) (pc := 126) dX12_doubles_126 rfl (fun c => ?_) (fun c => ?_)
            · have e9 : ((if x3 = 0 then x7 else x5) : Int32) = (x5) := if_neg c
              rw [e9] at hJ
              refine bz_iload (pc := 134) dX12_doubles_134 rfl ?_
              exact hJ
            · have e9 : ((if x3 = 0 then x7 else x5) : Int32) = (x7) := if_pos c
              rw [e9] at hJ
              refine bz_iload (pc := 129) dX12_doubles_129 rfl ?_
              refine bz_goto (tgt := 136) (pc := 131) dX12_doubles_131 rfl ?_
              exact hJ
          refine bz_if_ne (tgt := 121) (pc := 113) dX12_doubles_113 rfl (fun c => ?_) (fun c => ?_)
          · have e9 : ((if x3 = 0 then x6 else x4) : Int32) = (x4) := if_neg c
            rw [e9] at hJ
            refine bz_iload (pc := 121) dX12_doubles_121 rfl ?_
            exact hJ
          · have e9 : ((if x3 = 0 then x6 else x4) : Int32) = (x6) := if_pos c
            rw [e9] at hJ
            refine bz_iload (pc := 116) dX12_doubles_116 rfl ?_
            refine bz_goto (tgt := 123) (pc := 118) dX12_doubles_118 rfl ?_
            exact hJ
        · have hP18 := hP16.2 c
          clear hP16
          refine bz_goto (tgt := 141) (pc := 109) dX12_doubles_109 rfl ?_
          refine bz_s_iinc (pc := 141) dX12_doubles_141 (Nat.le_of_ble_eq_true rfl) rfl rfl [some (.inr (some a0)), some (.inl x1), some (.inl x2), some (.inl x3), some (.inl x4), some (.inl x5), some (.inl x6), some (.inl (x7 + 1))] rfl ?_
          refine bz_goto (tgt := 52) (pc := 144) dX12_doubles_144 rfl ?_
          exact hP18
theorem m_X12_doubles {G : bz_G} {l : Launch} {d mc ms : Nat} {F : Option bz_V → bz_H → Prop} (a0 : Nat) (x1 : Int32) (x2 : Int32) (h : bz_H) (hP : ∀ (κ : bz_K) (bc bs : Nat), κ.2.1 = l → w_X12_doubles_0 G κ l d F bc bs a0 x1 x2 h) : bz_Call G l (d + 1) kX12_doubles [.inr (some a0), .inl x1, .inl x2] h mc ms F :=
  bz_body (by decide) (Nat.le_of_ble_eq_true rfl) (fun κ hl => g_X12_doubles_0 hl a0 x1 x2 h (hP κ mc ms hl))
def w_X12_ends_0 (G : bz_G) (l : Launch) (d : Nat) (F : Option bz_V → bz_H → Prop) (a0 : Nat) (x1 : Int32) (h : bz_H) : Prop := bz_rR h a0 12 0 (fun r_1 => bz_rR h a0 12 0 (fun r_2 => bz_nn r_2 (fun a_3 => bz_rA h a_3 10 (fun x_4 => bz_nn r_1 (fun a_5 => bz_wA h a_5 (894 + (3 * x_4)) x1 (fun h_6 => bz_rR h_6 a0 12 0 (fun r_7 => bz_rR h_6 a0 12 0 (fun r_8 => bz_nn r_8 (fun a_9 => bz_rA h_6 a_9 10 (fun x_10 => bz_rc h_6 a0 12 (bz_cI G l d kX12_beginsAt [.inr (some a0), .inl x1] h_6 0 0 (fun x_11 h_12 => bz_nn r_7 (fun a_13 => bz_wA h_12 a_13 ((894 + (3 * x_10)) + 1) x_11 (fun h_14 => bz_rR h_14 a0 12 0 (fun r_15 => bz_rR h_14 a0 12 0 (fun r_16 => bz_nn r_16 (fun a_17 => bz_rA h_14 a_17 10 (fun x_18 => bz_rI h_14 a0 12 7 (fun x_19 => bz_nn r_15 (fun a_20 => bz_wA h_14 a_20 ((894 + (3 * x_18)) + 2) x_19 (fun h_21 => bz_rR h_21 a0 12 0 (fun r_22 => bz_nn r_22 (fun a_23 => bz_rA h_21 a_23 10 (fun x_24 => bz_wA h_21 a_23 10 (x_24 + 1) (fun h_25 => bz_rR h_25 a0 12 0 (fun r_26 => bz_rI h_25 a0 12 6 (fun x_27 => bz_nn r_26 (fun a_28 => bz_wA h_25 a_28 ((600 + (8 * x1)) + 1) x_27 (fun h_29 => bz_rR h_29 a0 12 0 (fun r_30 => bz_rI h_29 a0 12 7 (fun x_31 => bz_nn r_30 (fun a_32 => bz_wA h_29 a_32 ((600 + (8 * x1)) + 2) x_31 (fun h_33 => F none h_33)))))))))))))))))))))))))))))))))
set_option maxRecDepth 20000 in
set_option maxHeartbeats 4000000 in
theorem g_X12_ends_0 {G : bz_G} {κ : bz_K} {l : Launch} {d : Nat} {F : Option bz_V → bz_H → Prop} {bc bs : Nat} (hl : κ.2.1 = l) (a0 : Nat) (x1 : Int32) (h : bz_H) (hP0 : w_X12_ends_0 G l d F a0 x1 h) : bz_J G κ kX12_ends (d + 1) F bc bs 0 [some (.inr (some a0)), some (.inl x1)] [] h := by
  subst hl
  unfold w_X12_ends_0 at hP0
  refine bz_aload_n (pc := 0) dX12_ends_0 rfl rfl ?_
  refine bz_rw_rR (pc := 1) dX12_ends_1 fl_X12_7 hP0 (fun r_1 hP1 => ?_)
  clear hP0
  refine bz_sipush (pc := 4) dX12_ends_4 cs_894 ?_
  refine bz_iconst (pc := 7) dX12_ends_7 ci_3 ?_
  refine bz_aload_n (pc := 8) dX12_ends_8 rfl rfl ?_
  refine bz_rw_rR (pc := 9) dX12_ends_9 fl_X12_7 hP1 (fun r_2 hP2 => ?_)
  clear hP1
  refine bz_bipush (pc := 12) dX12_ends_12 cb_10 ?_
  obtain ⟨a_3, rfl, hP3⟩ := hP2
  refine bz_rw_rA (pc := 14) dX12_ends_14 hP3 (fun x_4 hP4 => ?_)
  clear hP3
  refine bz_imul (pc := 15) dX12_ends_15 ?_
  refine bz_iadd (pc := 16) dX12_ends_16 ?_
  refine bz_iload_n (pc := 17) dX12_ends_17 rfl rfl ?_
  obtain ⟨a_5, rfl, hP5⟩ := hP4
  refine bz_rw_wA (pc := 18) dX12_ends_18 hP5 (fun h_6 hP6 => ?_)
  clear hP5
  refine bz_aload_n (pc := 19) dX12_ends_19 rfl rfl ?_
  refine bz_rw_rR (pc := 20) dX12_ends_20 fl_X12_7 hP6 (fun r_7 hP7 => ?_)
  clear hP6
  refine bz_sipush (pc := 23) dX12_ends_23 cs_894 ?_
  refine bz_iconst (pc := 26) dX12_ends_26 ci_3 ?_
  refine bz_aload_n (pc := 27) dX12_ends_27 rfl rfl ?_
  refine bz_rw_rR (pc := 28) dX12_ends_28 fl_X12_7 hP7 (fun r_8 hP8 => ?_)
  clear hP7
  refine bz_bipush (pc := 31) dX12_ends_31 cb_10 ?_
  obtain ⟨a_9, rfl, hP9⟩ := hP8
  refine bz_rw_rA (pc := 33) dX12_ends_33 hP9 (fun x_10 hP10 => ?_)
  clear hP9
  refine bz_imul (pc := 34) dX12_ends_34 ?_
  refine bz_iadd (pc := 35) dX12_ends_35 ?_
  refine bz_iconst (pc := 36) dX12_ends_36 ci_1 ?_
  refine bz_iadd (pc := 37) dX12_ends_37 ?_
  refine bz_aload_n (pc := 38) dX12_ends_38 rfl rfl ?_
  refine bz_iload_n (pc := 39) dX12_ends_39 rfl rfl ?_
  refine bz_kIV (as := [.inl x1]) (st := [.inl ((894 + (3 * x_10)) + 1), .inr r_7]) (ci := 12) (n := 1) (mc := 0) (ms := 0) (bc := bc) (bs := bs) (yc := kX12_beginsAt) (q := (RX12, TX12, 34)) (b := a0) (pc := 40) dX12_ends_40 sc_X12_beginsAt ml_X12_187 im_X12_beginsAt se_X12_beginsAt rfl rfl rfl (Nat.le_of_ble_eq_true rfl) hP10 (fun x_11 h_12 hP11 => ?_)
  clear hP10
  obtain ⟨a_13, rfl, hP12⟩ := hP11
  refine bz_rw_wA (pc := 43) dX12_ends_43 hP12 (fun h_14 hP13 => ?_)
  clear hP12
  refine bz_aload_n (pc := 44) dX12_ends_44 rfl rfl ?_
  refine bz_rw_rR (pc := 45) dX12_ends_45 fl_X12_7 hP13 (fun r_15 hP14 => ?_)
  clear hP13
  refine bz_sipush (pc := 48) dX12_ends_48 cs_894 ?_
  refine bz_iconst (pc := 51) dX12_ends_51 ci_3 ?_
  refine bz_aload_n (pc := 52) dX12_ends_52 rfl rfl ?_
  refine bz_rw_rR (pc := 53) dX12_ends_53 fl_X12_7 hP14 (fun r_16 hP15 => ?_)
  clear hP14
  refine bz_bipush (pc := 56) dX12_ends_56 cb_10 ?_
  obtain ⟨a_17, rfl, hP16⟩ := hP15
  refine bz_rw_rA (pc := 58) dX12_ends_58 hP16 (fun x_18 hP17 => ?_)
  clear hP16
  refine bz_imul (pc := 59) dX12_ends_59 ?_
  refine bz_iadd (pc := 60) dX12_ends_60 ?_
  refine bz_iconst (pc := 61) dX12_ends_61 ci_2 ?_
  refine bz_iadd (pc := 62) dX12_ends_62 ?_
  refine bz_aload_n (pc := 63) dX12_ends_63 rfl rfl ?_
  refine bz_rw_rI (pc := 64) dX12_ends_64 fl_X12_167 hP17 (fun x_19 hP18 => ?_)
  clear hP17
  obtain ⟨a_20, rfl, hP19⟩ := hP18
  refine bz_rw_wA (pc := 67) dX12_ends_67 hP19 (fun h_21 hP20 => ?_)
  clear hP19
  refine bz_aload_n (pc := 68) dX12_ends_68 rfl rfl ?_
  refine bz_rw_rR (pc := 69) dX12_ends_69 fl_X12_7 hP20 (fun r_22 hP21 => ?_)
  clear hP20
  refine bz_bipush (pc := 72) dX12_ends_72 cb_10 ?_
  refine bz_dup2 (pc := 74) dX12_ends_74 ?_
  obtain ⟨a_23, rfl, hP22⟩ := hP21
  refine bz_rw_rA (pc := 75) dX12_ends_75 hP22 (fun x_24 hP23 => ?_)
  clear hP22
  refine bz_iconst (pc := 76) dX12_ends_76 ci_1 ?_
  refine bz_iadd (pc := 77) dX12_ends_77 ?_
  refine bz_rw_wA (pc := 78) dX12_ends_78 hP23 (fun h_25 hP24 => ?_)
  clear hP23
  refine bz_aload_n (pc := 79) dX12_ends_79 rfl rfl ?_
  refine bz_rw_rR (pc := 80) dX12_ends_80 fl_X12_7 hP24 (fun r_26 hP25 => ?_)
  clear hP24
  refine bz_sipush (pc := 83) dX12_ends_83 cs_600 ?_
  refine bz_bipush (pc := 86) dX12_ends_86 cb_8 ?_
  refine bz_iload_n (pc := 88) dX12_ends_88 rfl rfl ?_
  refine bz_imul (pc := 89) dX12_ends_89 ?_
  refine bz_iadd (pc := 90) dX12_ends_90 ?_
  refine bz_iconst (pc := 91) dX12_ends_91 ci_1 ?_
  refine bz_iadd (pc := 92) dX12_ends_92 ?_
  refine bz_aload_n (pc := 93) dX12_ends_93 rfl rfl ?_
  refine bz_rw_rI (pc := 94) dX12_ends_94 fl_X12_163 hP25 (fun x_27 hP26 => ?_)
  clear hP25
  obtain ⟨a_28, rfl, hP27⟩ := hP26
  refine bz_rw_wA (pc := 97) dX12_ends_97 hP27 (fun h_29 hP28 => ?_)
  clear hP27
  refine bz_aload_n (pc := 98) dX12_ends_98 rfl rfl ?_
  refine bz_rw_rR (pc := 99) dX12_ends_99 fl_X12_7 hP28 (fun r_30 hP29 => ?_)
  clear hP28
  refine bz_sipush (pc := 102) dX12_ends_102 cs_600 ?_
  refine bz_bipush (pc := 105) dX12_ends_105 cb_8 ?_
  refine bz_iload_n (pc := 107) dX12_ends_107 rfl rfl ?_
  refine bz_imul (pc := 108) dX12_ends_108 ?_
  refine bz_iadd (pc := 109) dX12_ends_109 ?_
  refine bz_iconst (pc := 110) dX12_ends_110 ci_2 ?_
  refine bz_iadd (pc := 111) dX12_ends_111 ?_
  refine bz_aload_n (pc := 112) dX12_ends_112 rfl rfl ?_
  refine bz_rw_rI (pc := 113) dX12_ends_113 fl_X12_167 hP29 (fun x_31 hP30 => ?_)
  clear hP29
  obtain ⟨a_32, rfl, hP31⟩ := hP30
  refine bz_rw_wA (pc := 116) dX12_ends_116 hP31 (fun h_33 hP32 => ?_)
  clear hP31
  exact bz_retV (pc := 117) dX12_ends_117 rfl hP32
theorem m_X12_ends {G : bz_G} {l : Launch} {d mc ms : Nat} {F : Option bz_V → bz_H → Prop} (a0 : Nat) (x1 : Int32) (h : bz_H) (hP : w_X12_ends_0 G l d F a0 x1 h) : bz_Call G l (d + 1) kX12_ends [.inr (some a0), .inl x1] h mc ms F :=
  bz_body (by decide) (Nat.le_of_ble_eq_true rfl) (fun κ hl => g_X12_ends_0 hl a0 x1 h hP)
def w_X12_engaged_0 (G : bz_G) (κ : bz_K) (l : Launch) (d : Nat) (F : Option bz_V → bz_H → Prop) (bc bs : Nat) (a0 : Nat) (x1 : Int32) (h : bz_H) : Prop := bz_J G κ kX12_engaged (d + 1) F bc bs 4 [some (.inr (some a0)), some (.inl x1), some (.inl 0), some (.inl 0)] [] h
set_option maxRecDepth 20000 in
set_option maxHeartbeats 4000000 in
theorem g_X12_engaged_0 {G : bz_G} {κ : bz_K} {l : Launch} {d : Nat} {F : Option bz_V → bz_H → Prop} {bc bs : Nat} (hl : κ.2.1 = l) (a0 : Nat) (x1 : Int32) (h : bz_H) (hP0 : w_X12_engaged_0 G κ l d F bc bs a0 x1 h) : bz_J G κ kX12_engaged (d + 1) F bc bs 0 [some (.inr (some a0)), some (.inl x1), none, none] [] h := by
  subst hl
  unfold w_X12_engaged_0 at hP0
  refine bz_iconst (pc := 0) dX12_engaged_0 ci_0 ?_
  refine bz_s_istore_n (pc := 1) dX12_engaged_1 rfl (Nat.le_of_ble_eq_true rfl) [some (.inr (some a0)), some (.inl x1), some (.inl 0), none] rfl ?_
  refine bz_iconst (pc := 2) dX12_engaged_2 ci_0 ?_
  refine bz_s_istore_n (pc := 3) dX12_engaged_3 rfl (Nat.le_of_ble_eq_true rfl) [some (.inr (some a0)), some (.inl x1), some (.inl 0), some (.inl 0)] rfl ?_
  exact hP0
def w_X12_engaged_4 (G : bz_G) (κ : bz_K) (l : Launch) (d : Nat) (F : Option bz_V → bz_H → Prop) (bc bs : Nat) (a0 : Nat) (x1 : Int32) (x2 : Int32) (x3 : Int32) (h : bz_H) : Prop := bz_rR h a0 12 0 (fun r_1 => bz_nn r_1 (fun a_2 => bz_rA h a_2 10 (fun x_3 => (x_3 ≤ x3 → F (some (.inl x2)) h) ∧ (¬ (x_3 ≤ x3) → bz_rR h a0 12 0 (fun r_4 => bz_nn r_4 (fun a_5 => bz_rA h a_5 (894 + (3 * x3)) (fun x_6 => (¬ x_6 = x1 → bz_J G κ kX12_engaged (d + 1) F bc bs 4 [some (.inr (some a0)), some (.inl x1), some (.inl (x2 + 0)), some (.inl (x3 + 1))] [] h) ∧ (x_6 = x1 → bz_rR h a0 12 0 (fun r_7 => bz_nn r_7 (fun a_8 => bz_rA h a_8 ((894 + (3 * x3)) + 2) (fun x_9 => bz_rR h a0 12 0 (fun r_10 => bz_nn r_10 (fun a_11 => bz_rA h a_11 ((894 + (3 * x3)) + 1) (fun x_12 => bz_J G κ kX12_engaged (d + 1) F bc bs 4 [some (.inr (some a0)), some (.inl x1), some (.inl (x2 + (x_9 - x_12))), some (.inl (x3 + 1))] [] h))))))))))))))
set_option maxRecDepth 20000 in
set_option maxHeartbeats 4000000 in
theorem g_X12_engaged_4 {G : bz_G} {κ : bz_K} {l : Launch} {d : Nat} {F : Option bz_V → bz_H → Prop} {bc bs : Nat} (hl : κ.2.1 = l) (a0 : Nat) (x1 : Int32) (x2 : Int32) (x3 : Int32) (h : bz_H) (hP0 : w_X12_engaged_4 G κ l d F bc bs a0 x1 x2 x3 h) : bz_J G κ kX12_engaged (d + 1) F bc bs 4 [some (.inr (some a0)), some (.inl x1), some (.inl x2), some (.inl x3)] [] h := by
  subst hl
  unfold w_X12_engaged_4 at hP0
  refine bz_iload_n (pc := 4) dX12_engaged_4 rfl rfl ?_
  refine bz_aload_n (pc := 5) dX12_engaged_5 rfl rfl ?_
  refine bz_rw_rR (pc := 6) dX12_engaged_6 fl_X12_7 hP0 (fun r_1 hP1 => ?_)
  clear hP0
  refine bz_bipush (pc := 9) dX12_engaged_9 cb_10 ?_
  obtain ⟨a_2, rfl, hP2⟩ := hP1
  refine bz_rw_rA (pc := 11) dX12_engaged_11 hP2 (fun x_3 hP3 => ?_)
  clear hP2
  refine bz_icmp_ge (tgt := 73) (pc := 12) dX12_engaged_12 rfl (fun c => ?_) (fun c => ?_)
  · have hP4 := hP3.1 c
    clear hP3
    refine bz_iload_n (pc := 73) dX12_engaged_73 rfl rfl ?_
    exact bz_retI (pc := 74) dX12_engaged_74 rfl rfl hP4
  · have hP5 := hP3.2 c
    clear hP3
    refine bz_iload_n (pc := 15) dX12_engaged_15 rfl rfl ?_
    refine bz_aload_n (pc := 16) dX12_engaged_16 rfl rfl ?_
    refine bz_rw_rR (pc := 17) dX12_engaged_17 fl_X12_7 hP5 (fun r_4 hP6 => ?_)
    clear hP5
    refine bz_sipush (pc := 20) dX12_engaged_20 cs_894 ?_
    refine bz_iconst (pc := 23) dX12_engaged_23 ci_3 ?_
    refine bz_iload_n (pc := 24) dX12_engaged_24 rfl rfl ?_
    refine bz_imul (pc := 25) dX12_engaged_25 ?_
    refine bz_iadd (pc := 26) dX12_engaged_26 ?_
    obtain ⟨a_5, rfl, hP7⟩ := hP6
    refine bz_rw_rA (pc := 27) dX12_engaged_27 hP7 (fun x_6 hP8 => ?_)
    clear hP7
    refine bz_iload_n (pc := 28) dX12_engaged_28 rfl rfl ?_
    refine bz_icmp_ne (tgt := 64) (pc := 29) dX12_engaged_29 rfl (fun c => ?_) (fun c => ?_)
    · have hP9 := hP8.1 c
      clear hP8
      refine bz_iconst (pc := 64) dX12_engaged_64 ci_0 ?_
      refine bz_iadd (pc := 65) dX12_engaged_65 ?_
      refine bz_s_istore_n (pc := 66) dX12_engaged_66 rfl (Nat.le_of_ble_eq_true rfl) [some (.inr (some a0)), some (.inl x1), some (.inl (x2 + 0)), some (.inl x3)] rfl ?_
      refine bz_s_iinc (pc := 67) dX12_engaged_67 (Nat.le_of_ble_eq_true rfl) rfl rfl [some (.inr (some a0)), some (.inl x1), some (.inl (x2 + 0)), some (.inl (x3 + 1))] rfl ?_
      refine bz_goto (tgt := 4) (pc := 70) dX12_engaged_70 rfl ?_
      exact hP9
    · have hP10 := hP8.2 c
      clear hP8
      refine bz_aload_n (pc := 32) dX12_engaged_32 rfl rfl ?_
      refine bz_rw_rR (pc := 33) dX12_engaged_33 fl_X12_7 hP10 (fun r_7 hP11 => ?_)
      clear hP10
      refine bz_sipush (pc := 36) dX12_engaged_36 cs_894 ?_
      refine bz_iconst (pc := 39) dX12_engaged_39 ci_3 ?_
      refine bz_iload_n (pc := 40) dX12_engaged_40 rfl rfl ?_
      refine bz_imul (pc := 41) dX12_engaged_41 ?_
      refine bz_iadd (pc := 42) dX12_engaged_42 ?_
      refine bz_iconst (pc := 43) dX12_engaged_43 ci_2 ?_
      refine bz_iadd (pc := 44) dX12_engaged_44 ?_
      obtain ⟨a_8, rfl, hP12⟩ := hP11
      refine bz_rw_rA (pc := 45) dX12_engaged_45 hP12 (fun x_9 hP13 => ?_)
      clear hP12
      refine bz_aload_n (pc := 46) dX12_engaged_46 rfl rfl ?_
      refine bz_rw_rR (pc := 47) dX12_engaged_47 fl_X12_7 hP13 (fun r_10 hP14 => ?_)
      clear hP13
      refine bz_sipush (pc := 50) dX12_engaged_50 cs_894 ?_
      refine bz_iconst (pc := 53) dX12_engaged_53 ci_3 ?_
      refine bz_iload_n (pc := 54) dX12_engaged_54 rfl rfl ?_
      refine bz_imul (pc := 55) dX12_engaged_55 ?_
      refine bz_iadd (pc := 56) dX12_engaged_56 ?_
      refine bz_iconst (pc := 57) dX12_engaged_57 ci_1 ?_
      refine bz_iadd (pc := 58) dX12_engaged_58 ?_
      obtain ⟨a_11, rfl, hP15⟩ := hP14
      refine bz_rw_rA (pc := 59) dX12_engaged_59 hP15 (fun x_12 hP16 => ?_)
      clear hP15
      refine bz_isub (pc := 60) dX12_engaged_60 ?_
      refine bz_goto (tgt := 65) (pc := 61) dX12_engaged_61 rfl ?_
      refine bz_iadd (pc := 65) dX12_engaged_65 ?_
      refine bz_s_istore_n (pc := 66) dX12_engaged_66 rfl (Nat.le_of_ble_eq_true rfl) [some (.inr (some a0)), some (.inl x1), some (.inl (x2 + (x_9 - x_12))), some (.inl x3)] rfl ?_
      refine bz_s_iinc (pc := 67) dX12_engaged_67 (Nat.le_of_ble_eq_true rfl) rfl rfl [some (.inr (some a0)), some (.inl x1), some (.inl (x2 + (x_9 - x_12))), some (.inl (x3 + 1))] rfl ?_
      refine bz_goto (tgt := 4) (pc := 70) dX12_engaged_70 rfl ?_
      exact hP16
theorem m_X12_engaged {G : bz_G} {l : Launch} {d mc ms : Nat} {F : Option bz_V → bz_H → Prop} (a0 : Nat) (x1 : Int32) (h : bz_H) (hP : ∀ (κ : bz_K) (bc bs : Nat), κ.2.1 = l → w_X12_engaged_0 G κ l d F bc bs a0 x1 h) : bz_Call G l (d + 1) kX12_engaged [.inr (some a0), .inl x1] h mc ms F :=
  bz_body (by decide) (Nat.le_of_ble_eq_true rfl) (fun κ hl => g_X12_engaged_0 hl a0 x1 h (hP κ mc ms hl))
def w_X12_feed_0 (G : bz_G) (κ : bz_K) (l : Launch) (d : Nat) (F : Option bz_V → bz_H → Prop) (bc bs : Nat) (a0 : Nat) (x1 : Int32) (x2 : Int32) (h : bz_H) : Prop := bz_cI G l d kX12_in [.inl x2, .inl 1, .inl 4] h 0 0 (fun x_1 h_2 => (¬ x_1 = 0 → bz_rI h_2 a0 12 14 (fun x_3 => ((x_3 + x2) ≤ 80 → bz_J G κ kX12_feed (d + 1) F bc bs 36 [some (.inr (some a0)), some (.inl x1), some (.inl x2), some (.inl (x2 - 1))] [] h_2) ∧ (¬ ((x_3 + x2) ≤ 80) → bz_rc h_2 a0 12 (bz_cI G l d kX12_finding [.inr (some a0), .inl 1] h_2 0 0 (fun x_4 h_5 => F (some (.inl x_4)) h_5))))) ∧ (x_1 = 0 → bz_rc h_2 a0 12 (bz_cI G l d kX12_finding [.inr (some a0), .inl 0] h_2 0 0 (fun x_6 h_7 => F (some (.inl x_6)) h_7))))
set_option maxRecDepth 20000 in
set_option maxHeartbeats 4000000 in
theorem g_X12_feed_0 {G : bz_G} {κ : bz_K} {l : Launch} {d : Nat} {F : Option bz_V → bz_H → Prop} {bc bs : Nat} (hl : κ.2.1 = l) (a0 : Nat) (x1 : Int32) (x2 : Int32) (h : bz_H) (hP0 : w_X12_feed_0 G κ l d F bc bs a0 x1 x2 h) : bz_J G κ kX12_feed (d + 1) F bc bs 0 [some (.inr (some a0)), some (.inl x1), some (.inl x2), none] [] h := by
  subst hl
  unfold w_X12_feed_0 at hP0
  refine bz_iload_n (pc := 0) dX12_feed_0 rfl rfl ?_
  refine bz_iconst (pc := 1) dX12_feed_1 ci_1 ?_
  refine bz_iconst (pc := 2) dX12_feed_2 ci_4 ?_
  refine bz_kIS (as := [.inl x2, .inl 1, .inl 4]) (st := []) (n := 3) (mc := 0) (ms := 0) (bc := bc) (bs := bs) (yc := kX12_in) (pc := 3) dX12_feed_3 sc_X12_in ml_X12_65 ss_X12_in rfl (Nat.le_of_ble_eq_true rfl) hP0 (fun x_1 h_2 hP1 => ?_)
  clear hP0
  refine bz_if_ne (tgt := 15) (pc := 6) dX12_feed_6 rfl (fun c => ?_) (fun c => ?_)
  · have hP2 := hP1.1 c
    clear hP1
    refine bz_aload_n (pc := 15) dX12_feed_15 rfl rfl ?_
    refine bz_rw_rI (pc := 16) dX12_feed_16 fl_X12_235 hP2 (fun x_3 hP3 => ?_)
    clear hP2
    refine bz_iload_n (pc := 19) dX12_feed_19 rfl rfl ?_
    refine bz_iadd (pc := 20) dX12_feed_20 ?_
    refine bz_bipush (pc := 21) dX12_feed_21 cb_80 ?_
    refine bz_icmp_le (tgt := 32) (pc := 23) dX12_feed_23 rfl (fun c => ?_) (fun c => ?_)
    · have hP4 := hP3.1 c
      clear hP3
      refine bz_iload_n (pc := 32) dX12_feed_32 rfl rfl ?_
      refine bz_iconst (pc := 33) dX12_feed_33 ci_1 ?_
      refine bz_isub (pc := 34) dX12_feed_34 ?_
      refine bz_s_istore_n (pc := 35) dX12_feed_35 rfl (Nat.le_of_ble_eq_true rfl) [some (.inr (some a0)), some (.inl x1), some (.inl x2), some (.inl (x2 - 1))] rfl ?_
      exact hP4
    · have hP5 := hP3.2 c
      clear hP3
      refine bz_aload_n (pc := 26) dX12_feed_26 rfl rfl ?_
      refine bz_iconst (pc := 27) dX12_feed_27 ci_1 ?_
      refine bz_kIV (as := [.inl 1]) (st := []) (ci := 12) (n := 1) (mc := 0) (ms := 0) (bc := bc) (bs := bs) (yc := kX12_finding) (q := (RX12, TX12, 34)) (b := a0) (pc := 28) dX12_feed_28 sc_X12_finding ml_X12_73 im_X12_finding se_X12_finding rfl rfl rfl (Nat.le_of_ble_eq_true rfl) hP5 (fun x_4 h_5 hP6 => ?_)
      clear hP5
      exact bz_retI (pc := 31) dX12_feed_31 rfl rfl hP6
  · have hP7 := hP1.2 c
    clear hP1
    refine bz_aload_n (pc := 9) dX12_feed_9 rfl rfl ?_
    refine bz_iconst (pc := 10) dX12_feed_10 ci_0 ?_
    refine bz_kIV (as := [.inl 0]) (st := []) (ci := 12) (n := 1) (mc := 0) (ms := 0) (bc := bc) (bs := bs) (yc := kX12_finding) (q := (RX12, TX12, 34)) (b := a0) (pc := 11) dX12_feed_11 sc_X12_finding ml_X12_73 im_X12_finding se_X12_finding rfl rfl rfl (Nat.le_of_ble_eq_true rfl) hP7 (fun x_6 h_7 hP8 => ?_)
    clear hP7
    exact bz_retI (pc := 14) dX12_feed_14 rfl rfl hP8
def w_X12_feed_36 (G : bz_G) (κ : bz_K) (l : Launch) (d : Nat) (F : Option bz_V → bz_H → Prop) (bc bs : Nat) (a0 : Nat) (x1 : Int32) (x2 : Int32) (x3 : Int32) (h : bz_H) : Prop := (x3 < 0 → bz_rI h a0 12 14 (fun x_8 => F (some (.inl x_8)) h)) ∧ (¬ (x3 < 0) → bz_rR h a0 12 13 (fun r_9 => bz_rI h a0 12 14 (fun x_10 => bz_nn r_9 (fun a_11 => bz_wA h a_11 x_10 ((x1 >>> ((8 * x3) &&& 31)) &&& 255) (fun h_12 => bz_rI h_12 a0 12 14 (fun x_13 => bz_wI h_12 a0 12 14 (x_13 + 1) (fun h_14 => bz_J G κ kX12_feed (d + 1) F bc bs 36 [some (.inr (some a0)), some (.inl x1), some (.inl x2), some (.inl (x3 + (-1)))] [] h_14)))))))
set_option maxRecDepth 20000 in
set_option maxHeartbeats 4000000 in
theorem g_X12_feed_36 {G : bz_G} {κ : bz_K} {l : Launch} {d : Nat} {F : Option bz_V → bz_H → Prop} {bc bs : Nat} (hl : κ.2.1 = l) (a0 : Nat) (x1 : Int32) (x2 : Int32) (x3 : Int32) (h : bz_H) (hP0 : w_X12_feed_36 G κ l d F bc bs a0 x1 x2 x3 h) : bz_J G κ kX12_feed (d + 1) F bc bs 36 [some (.inr (some a0)), some (.inl x1), some (.inl x2), some (.inl x3)] [] h := by
  subst hl
  unfold w_X12_feed_36 at hP0
  refine bz_iload_n (pc := 36) dX12_feed_36 rfl rfl ?_
  refine bz_if_lt (tgt := 75) (pc := 37) dX12_feed_37 rfl (fun c => ?_) (fun c => ?_)
  · have hP1 := hP0.1 c
    clear hP0
    refine bz_aload_n (pc := 75) dX12_feed_75 rfl rfl ?_
    refine bz_rw_rI (pc := 76) dX12_feed_76 fl_X12_235 hP1 (fun x_8 hP2 => ?_)
    clear hP1
    exact bz_retI (pc := 79) dX12_feed_79 rfl rfl hP2
  · have hP3 := hP0.2 c
    clear hP0
    refine bz_aload_n (pc := 40) dX12_feed_40 rfl rfl ?_
    refine bz_rw_rR (pc := 41) dX12_feed_41 fl_X12_28 hP3 (fun r_9 hP4 => ?_)
    clear hP3
    refine bz_aload_n (pc := 44) dX12_feed_44 rfl rfl ?_
    refine bz_rw_rI (pc := 45) dX12_feed_45 fl_X12_235 hP4 (fun x_10 hP5 => ?_)
    clear hP4
    refine bz_iload_n (pc := 48) dX12_feed_48 rfl rfl ?_
    refine bz_bipush (pc := 49) dX12_feed_49 cb_8 ?_
    refine bz_iload_n (pc := 51) dX12_feed_51 rfl rfl ?_
    refine bz_imul (pc := 52) dX12_feed_52 ?_
    refine bz_ishr (pc := 53) dX12_feed_53 ?_
    refine bz_sipush (pc := 54) dX12_feed_54 cs_255 ?_
    refine bz_iand (pc := 57) dX12_feed_57 ?_
    obtain ⟨a_11, rfl, hP6⟩ := hP5
    refine bz_rw_wA (pc := 58) dX12_feed_58 hP6 (fun h_12 hP7 => ?_)
    clear hP6
    refine bz_aload_n (pc := 59) dX12_feed_59 rfl rfl ?_
    refine bz_dup (pc := 60) dX12_feed_60 ?_
    refine bz_rw_rI (pc := 61) dX12_feed_61 fl_X12_235 hP7 (fun x_13 hP8 => ?_)
    clear hP7
    refine bz_iconst (pc := 64) dX12_feed_64 ci_1 ?_
    refine bz_iadd (pc := 65) dX12_feed_65 ?_
    refine bz_rw_wI (pc := 66) dX12_feed_66 fl_X12_235 (fun q h9 => by cases h9; rfl) rfl hP8 (fun h_14 hP9 => ?_)
    clear hP8
    refine bz_s_iinc (pc := 69) dX12_feed_69 (Nat.le_of_ble_eq_true rfl) rfl rfl [some (.inr (some a0)), some (.inl x1), some (.inl x2), some (.inl (x3 + (-1)))] rfl ?_
    refine bz_goto (tgt := 36) (pc := 72) dX12_feed_72 rfl ?_
    exact hP9
theorem m_X12_feed {G : bz_G} {l : Launch} {d mc ms : Nat} {F : Option bz_V → bz_H → Prop} (a0 : Nat) (x1 : Int32) (x2 : Int32) (h : bz_H) (hP : ∀ (κ : bz_K) (bc bs : Nat), κ.2.1 = l → w_X12_feed_0 G κ l d F bc bs a0 x1 x2 h) : bz_Call G l (d + 1) kX12_feed [.inr (some a0), .inl x1, .inl x2] h mc ms F :=
  bz_body (by decide) (Nat.le_of_ble_eq_true rfl) (fun κ hl => g_X12_feed_0 hl a0 x1 x2 h (hP κ mc ms hl))
def w_X12_findWays_0 (G : bz_G) (κ : bz_K) (l : Launch) (d : Nat) (F : Option bz_V → bz_H → Prop) (bc bs : Nat) (a0 : Nat) (h : bz_H) : Prop := bz_J G κ kX12_findWays (d + 1) F bc bs 2 [some (.inr (some a0)), some (.inl 0), none, none, none] [] h
set_option maxRecDepth 20000 in
set_option maxHeartbeats 4000000 in
theorem g_X12_findWays_0 {G : bz_G} {κ : bz_K} {l : Launch} {d : Nat} {F : Option bz_V → bz_H → Prop} {bc bs : Nat} (hl : κ.2.1 = l) (a0 : Nat) (h : bz_H) (hP0 : w_X12_findWays_0 G κ l d F bc bs a0 h) : bz_J G κ kX12_findWays (d + 1) F bc bs 0 [some (.inr (some a0)), none, none, none, none] [] h := by
  subst hl
  unfold w_X12_findWays_0 at hP0
  refine bz_iconst (pc := 0) dX12_findWays_0 ci_0 ?_
  refine bz_s_istore_n (pc := 1) dX12_findWays_1 rfl (Nat.le_of_ble_eq_true rfl) [some (.inr (some a0)), some (.inl 0), none, none, none] rfl ?_
  exact hP0
def w_X12_findWays_2 (G : bz_G) (κ : bz_K) (l : Launch) (d : Nat) (F : Option bz_V → bz_H → Prop) (bc bs : Nat) (a0 : Nat) (x1 : Int32) (u2 : Option bz_V) (u3 : Option bz_V) (u4 : Option bz_V) (h : bz_H) : Prop := (16 ≤ x1 → bz_J G κ kX12_findWays (d + 1) F bc bs 108 [some (.inr (some a0)), some (.inl 0), u2, u3, u4] [] h) ∧ (¬ (16 ≤ x1) → bz_J G κ kX12_findWays (d + 1) F bc bs 10 [some (.inr (some a0)), some (.inl x1), some (.inl 0), u3, u4] [] h)
set_option maxRecDepth 20000 in
set_option maxHeartbeats 4000000 in
theorem g_X12_findWays_2 {G : bz_G} {κ : bz_K} {l : Launch} {d : Nat} {F : Option bz_V → bz_H → Prop} {bc bs : Nat} (hl : κ.2.1 = l) (a0 : Nat) (x1 : Int32) (u2 : Option bz_V) (u3 : Option bz_V) (u4 : Option bz_V) (h : bz_H) (hP0 : w_X12_findWays_2 G κ l d F bc bs a0 x1 u2 u3 u4 h) : bz_J G κ kX12_findWays (d + 1) F bc bs 2 [some (.inr (some a0)), some (.inl x1), u2, u3, u4] [] h := by
  subst hl
  unfold w_X12_findWays_2 at hP0
  refine bz_iload_n (pc := 2) dX12_findWays_2 rfl rfl ?_
  refine bz_bipush (pc := 3) dX12_findWays_3 cb_16 ?_
  refine bz_icmp_ge (tgt := 106) (pc := 5) dX12_findWays_5 rfl (fun c => ?_) (fun c => ?_)
  · have hP1 := hP0.1 c
    clear hP0
    refine bz_iconst (pc := 106) dX12_findWays_106 ci_0 ?_
    refine bz_s_istore_n (pc := 107) dX12_findWays_107 rfl (Nat.le_of_ble_eq_true rfl) [some (.inr (some a0)), some (.inl 0), u2, u3, u4] rfl ?_
    exact hP1
  · have hP2 := hP0.2 c
    clear hP0
    refine bz_iconst (pc := 8) dX12_findWays_8 ci_0 ?_
    refine bz_s_istore_n (pc := 9) dX12_findWays_9 rfl (Nat.le_of_ble_eq_true rfl) [some (.inr (some a0)), some (.inl x1), some (.inl 0), u3, u4] rfl ?_
    exact hP2
def w_X12_findWays_10 (G : bz_G) (κ : bz_K) (l : Launch) (d : Nat) (F : Option bz_V → bz_H → Prop) (bc bs : Nat) (a0 : Nat) (x1 : Int32) (x2 : Int32) (u3 : Option bz_V) (u4 : Option bz_V) (h : bz_H) : Prop := (16 ≤ x2 → bz_J G κ kX12_findWays (d + 1) F bc bs 2 [some (.inr (some a0)), some (.inl (x1 + 1)), some (.inl x2), u3, u4] [] h) ∧ (¬ (16 ≤ x2) → bz_rR h a0 12 0 (fun r_1 => bz_nn r_1 (fun a_2 => bz_rA h a_2 (12 + x2) (fun x_3 => bz_rR h a0 12 0 (fun r_4 => bz_nn r_4 (fun a_5 => bz_rA h a_5 (12 + x1) (fun x_6 => bz_rR h a0 12 0 (fun r_7 => bz_nn r_7 (fun a_8 => bz_rA h a_8 ((44 + (16 * x1)) + x2) (fun x_9 => bz_rR h a0 12 4 (fun r_10 => (¬ x1 = x2 → (¬ x_9 = 0 → bz_nn r_10 (fun a_11 => bz_wA h a_11 ((16 * x1) + x2) (x_9 + (if (x_3 - x_6) ≤ 0 then 0 else x_3 - x_6)) (fun h_12 => bz_J G κ kX12_findWays (d + 1) F bc bs 10 [some (.inr (some a0)), some (.inl x1), some (.inl (x2 + 1)), some (.inl (x_3 - x_6)), some (.inl x_9)] [] h_12))) ∧ (x_9 = 0 → bz_nn r_10 (fun a_13 => bz_wA h a_13 ((16 * x1) + x2) 1000000 (fun h_14 => bz_J G κ kX12_findWays (d + 1) F bc bs 10 [some (.inr (some a0)), some (.inl x1), some (.inl (x2 + 1)), some (.inl (x_3 - x_6)), some (.inl x_9)] [] h_14)))) ∧ (x1 = x2 → bz_nn r_10 (fun a_15 => bz_wA h a_15 ((16 * x1) + x2) 0 (fun h_16 => bz_J G κ kX12_findWays (d + 1) F bc bs 10 [some (.inr (some a0)), some (.inl x1), some (.inl (x2 + 1)), some (.inl (x_3 - x_6)), some (.inl x_9)] [] h_16))))))))))))))
set_option maxRecDepth 20000 in
set_option maxHeartbeats 4000000 in
theorem g_X12_findWays_10 {G : bz_G} {κ : bz_K} {l : Launch} {d : Nat} {F : Option bz_V → bz_H → Prop} {bc bs : Nat} (hl : κ.2.1 = l) (a0 : Nat) (x1 : Int32) (x2 : Int32) (u3 : Option bz_V) (u4 : Option bz_V) (h : bz_H) (hP0 : w_X12_findWays_10 G κ l d F bc bs a0 x1 x2 u3 u4 h) : bz_J G κ kX12_findWays (d + 1) F bc bs 10 [some (.inr (some a0)), some (.inl x1), some (.inl x2), u3, u4] [] h := by
  subst hl
  unfold w_X12_findWays_10 at hP0
  refine bz_iload_n (pc := 10) dX12_findWays_10 rfl rfl ?_
  refine bz_bipush (pc := 11) dX12_findWays_11 cb_16 ?_
  refine bz_icmp_ge (tgt := 100) (pc := 13) dX12_findWays_13 rfl (fun c => ?_) (fun c => ?_)
  · have hP1 := hP0.1 c
    clear hP0
    refine bz_s_iinc (pc := 100) dX12_findWays_100 (Nat.le_of_ble_eq_true rfl) rfl rfl [some (.inr (some a0)), some (.inl (x1 + 1)), some (.inl x2), u3, u4] rfl ?_
    refine bz_goto (tgt := 2) (pc := 103) dX12_findWays_103 rfl ?_
    exact hP1
  · have hP2 := hP0.2 c
    clear hP0
    refine bz_aload_n (pc := 16) dX12_findWays_16 rfl rfl ?_
    refine bz_rw_rR (pc := 17) dX12_findWays_17 fl_X12_7 hP2 (fun r_1 hP3 => ?_)
    clear hP2
    refine bz_bipush (pc := 20) dX12_findWays_20 cb_12 ?_
    refine bz_iload_n (pc := 22) dX12_findWays_22 rfl rfl ?_
    refine bz_iadd (pc := 23) dX12_findWays_23 ?_
    obtain ⟨a_2, rfl, hP4⟩ := hP3
    refine bz_rw_rA (pc := 24) dX12_findWays_24 hP4 (fun x_3 hP5 => ?_)
    clear hP4
    refine bz_aload_n (pc := 25) dX12_findWays_25 rfl rfl ?_
    refine bz_rw_rR (pc := 26) dX12_findWays_26 fl_X12_7 hP5 (fun r_4 hP6 => ?_)
    clear hP5
    refine bz_bipush (pc := 29) dX12_findWays_29 cb_12 ?_
    refine bz_iload_n (pc := 31) dX12_findWays_31 rfl rfl ?_
    refine bz_iadd (pc := 32) dX12_findWays_32 ?_
    obtain ⟨a_5, rfl, hP7⟩ := hP6
    refine bz_rw_rA (pc := 33) dX12_findWays_33 hP7 (fun x_6 hP8 => ?_)
    clear hP7
    refine bz_isub (pc := 34) dX12_findWays_34 ?_
    refine bz_s_istore_n (pc := 35) dX12_findWays_35 rfl (Nat.le_of_ble_eq_true rfl) [some (.inr (some a0)), some (.inl x1), some (.inl x2), some (.inl (x_3 - x_6)), u4] rfl ?_
    refine bz_aload_n (pc := 36) dX12_findWays_36 rfl rfl ?_
    refine bz_rw_rR (pc := 37) dX12_findWays_37 fl_X12_7 hP8 (fun r_7 hP9 => ?_)
    clear hP8
    refine bz_bipush (pc := 40) dX12_findWays_40 cb_44 ?_
    refine bz_bipush (pc := 42) dX12_findWays_42 cb_16 ?_
    refine bz_iload_n (pc := 44) dX12_findWays_44 rfl rfl ?_
    refine bz_imul (pc := 45) dX12_findWays_45 ?_
    refine bz_iadd (pc := 46) dX12_findWays_46 ?_
    refine bz_iload_n (pc := 47) dX12_findWays_47 rfl rfl ?_
    refine bz_iadd (pc := 48) dX12_findWays_48 ?_
    obtain ⟨a_8, rfl, hP10⟩ := hP9
    refine bz_rw_rA (pc := 49) dX12_findWays_49 hP10 (fun x_9 hP11 => ?_)
    clear hP10
    refine bz_s_istore (pc := 50) dX12_findWays_50 (Nat.le_of_ble_eq_true rfl) [some (.inr (some a0)), some (.inl x1), some (.inl x2), some (.inl (x_3 - x_6)), some (.inl x_9)] rfl ?_
    refine bz_aload_n (pc := 52) dX12_findWays_52 rfl rfl ?_
    refine bz_rw_rR (pc := 53) dX12_findWays_53 fl_X12_19 hP11 (fun r_10 hP12 => ?_)
    clear hP11
    refine bz_bipush (pc := 56) dX12_findWays_56 cb_16 ?_
    refine bz_iload_n (pc := 58) dX12_findWays_58 rfl rfl ?_
    refine bz_imul (pc := 59) dX12_findWays_59 ?_
    refine bz_iload_n (pc := 60) dX12_findWays_60 rfl rfl ?_
    refine bz_iadd (pc := 61) dX12_findWays_61 ?_
    refine bz_iload_n (pc := 62) dX12_findWays_62 rfl rfl ?_
    refine bz_iload_n (pc := 63) dX12_findWays_63 rfl rfl ?_
    refine bz_icmp_ne (tgt := 71) (pc := 64) dX12_findWays_64 rfl (fun c => ?_) (fun c => ?_)
    · have hP13 := hP12.1 c
      clear hP12
      refine bz_iload (pc := 71) dX12_findWays_71 rfl ?_
      refine bz_if_ne (tgt := 81) (pc := 73) dX12_findWays_73 rfl (fun c => ?_) (fun c => ?_)
      · have hP14 := hP13.1 c
        clear hP13
        refine bz_iload (pc := 81) dX12_findWays_81 rfl ?_
        refine bz_iload_n (pc := 83) dX12_findWays_83 rfl rfl ?_
        have hJ : bz_J G κ kX12_findWays (d + 1) F bc bs 92 [some (.inr (some a0)), some (.inl x1), some (.inl x2), some (.inl (x_3 - x_6)), some (.inl x_9)] [.inl (if (x_3 - x_6) ≤ 0 then 0 else x_3 - x_6), .inl x_9, .inl ((16 * x1) + x2), .inr r_10] h := by
          refine bz_iadd (pc := 92) dX12_findWays_92 ?_
          obtain ⟨a_11, rfl, hP15⟩ := hP14
          refine bz_rw_wA (pc := 93) dX12_findWays_93 hP15 (fun h_12 hP16 => ?_)
          clear hP15
          refine bz_s_iinc (pc := 94) dX12_findWays_94 (Nat.le_of_ble_eq_true rfl) rfl rfl [some (.inr (some a0)), some (.inl x1), some (.inl (x2 + 1)), some (.inl (x_3 - x_6)), some (.inl x_9)] rfl ?_
          refine bz_goto (tgt := 10) (pc := 97) dX12_findWays_97 rfl ?_
          exact hP16
        refine bz_if_le (tgt := 91) (pc := 84) dX12_findWays_84 rfl (fun c => ?_) (fun c => ?_)
        · have e9 : ((if (x_3 - x_6) ≤ 0 then 0 else x_3 - x_6) : Int32) = (0) := if_pos c
          rw [e9] at hJ
          refine bz_iconst (pc := 91) dX12_findWays_91 ci_0 ?_
          exact hJ
        · have e9 : ((if (x_3 - x_6) ≤ 0 then 0 else x_3 - x_6) : Int32) = (x_3 - x_6) := if_neg c
          rw [e9] at hJ
          refine bz_iload_n (pc := 87) dX12_findWays_87 rfl rfl ?_
          refine bz_goto (tgt := 92) (pc := 88) dX12_findWays_88 rfl ?_
          exact hJ
      · have hP17 := hP13.2 c
        clear hP13
        refine bz_ldc (pc := 76) dX12_findWays_76 ct_X12_92 ?_
        refine bz_goto (tgt := 93) (pc := 78) dX12_findWays_78 rfl ?_
        obtain ⟨a_13, rfl, hP18⟩ := hP17
        refine bz_rw_wA (pc := 93) dX12_findWays_93 hP18 (fun h_14 hP19 => ?_)
        clear hP18
        refine bz_s_iinc (pc := 94) dX12_findWays_94 (Nat.le_of_ble_eq_true rfl) rfl rfl [some (.inr (some a0)), some (.inl x1), some (.inl (x2 + 1)), some (.inl (x_3 - x_6)), some (.inl x_9)] rfl ?_
        refine bz_goto (tgt := 10) (pc := 97) dX12_findWays_97 rfl ?_
        exact hP19
    · have hP20 := hP12.2 c
      clear hP12
      refine bz_iconst (pc := 67) dX12_findWays_67 ci_0 ?_
      refine bz_goto (tgt := 93) (pc := 68) dX12_findWays_68 rfl ?_
      obtain ⟨a_15, rfl, hP21⟩ := hP20
      refine bz_rw_wA (pc := 93) dX12_findWays_93 hP21 (fun h_16 hP22 => ?_)
      clear hP21
      refine bz_s_iinc (pc := 94) dX12_findWays_94 (Nat.le_of_ble_eq_true rfl) rfl rfl [some (.inr (some a0)), some (.inl x1), some (.inl (x2 + 1)), some (.inl (x_3 - x_6)), some (.inl x_9)] rfl ?_
      refine bz_goto (tgt := 10) (pc := 97) dX12_findWays_97 rfl ?_
      exact hP22
def w_X12_findWays_108 (G : bz_G) (κ : bz_K) (l : Launch) (d : Nat) (F : Option bz_V → bz_H → Prop) (bc bs : Nat) (a0 : Nat) (x1 : Int32) (u2 : Option bz_V) (u3 : Option bz_V) (u4 : Option bz_V) (h : bz_H) : Prop := (16 ≤ x1 → bz_b 1 (bz_wI h a0 12 5 1 (fun h_17 => F none h_17))) ∧ (¬ (16 ≤ x1) → bz_J G κ kX12_findWays (d + 1) F bc bs 116 [some (.inr (some a0)), some (.inl x1), some (.inl 0), u3, u4] [] h)
set_option maxRecDepth 20000 in
set_option maxHeartbeats 4000000 in
theorem g_X12_findWays_108 {G : bz_G} {κ : bz_K} {l : Launch} {d : Nat} {F : Option bz_V → bz_H → Prop} {bc bs : Nat} (hl : κ.2.1 = l) (a0 : Nat) (x1 : Int32) (u2 : Option bz_V) (u3 : Option bz_V) (u4 : Option bz_V) (h : bz_H) (hP0 : w_X12_findWays_108 G κ l d F bc bs a0 x1 u2 u3 u4 h) : bz_J G κ kX12_findWays (d + 1) F bc bs 108 [some (.inr (some a0)), some (.inl x1), u2, u3, u4] [] h := by
  subst hl
  unfold w_X12_findWays_108 at hP0
  refine bz_iload_n (pc := 108) dX12_findWays_108 rfl rfl ?_
  refine bz_bipush (pc := 109) dX12_findWays_109 cb_16 ?_
  refine bz_icmp_ge (tgt := 216) (pc := 111) dX12_findWays_111 rfl (fun c => ?_) (fun c => ?_)
  · have hP1 := hP0.1 c
    clear hP0
    refine bz_aload_n (pc := 216) dX12_findWays_216 rfl rfl ?_
    refine bz_iconst (pc := 217) dX12_findWays_217 ci_1 ?_
    refine bz_rw_wZ (pc := 218) dX12_findWays_218 fl_X12_77 (fun q h9 => by cases h9; rfl) rfl hP1 (fun h_17 hP2 => ?_)
    clear hP1
    exact bz_retV (pc := 221) dX12_findWays_221 rfl hP2
  · have hP3 := hP0.2 c
    clear hP0
    refine bz_iconst (pc := 114) dX12_findWays_114 ci_0 ?_
    refine bz_s_istore_n (pc := 115) dX12_findWays_115 rfl (Nat.le_of_ble_eq_true rfl) [some (.inr (some a0)), some (.inl x1), some (.inl 0), u3, u4] rfl ?_
    exact hP3
def w_X12_findWays_116 (G : bz_G) (κ : bz_K) (l : Launch) (d : Nat) (F : Option bz_V → bz_H → Prop) (bc bs : Nat) (a0 : Nat) (x1 : Int32) (x2 : Int32) (u3 : Option bz_V) (u4 : Option bz_V) (h : bz_H) : Prop := (16 ≤ x2 → bz_J G κ kX12_findWays (d + 1) F bc bs 108 [some (.inr (some a0)), some (.inl (x1 + 1)), some (.inl x2), u3, u4] [] h) ∧ (¬ (16 ≤ x2) → bz_J G κ kX12_findWays (d + 1) F bc bs 124 [some (.inr (some a0)), some (.inl x1), some (.inl x2), some (.inl 0), u4] [] h)
set_option maxRecDepth 20000 in
set_option maxHeartbeats 4000000 in
theorem g_X12_findWays_116 {G : bz_G} {κ : bz_K} {l : Launch} {d : Nat} {F : Option bz_V → bz_H → Prop} {bc bs : Nat} (hl : κ.2.1 = l) (a0 : Nat) (x1 : Int32) (x2 : Int32) (u3 : Option bz_V) (u4 : Option bz_V) (h : bz_H) (hP0 : w_X12_findWays_116 G κ l d F bc bs a0 x1 x2 u3 u4 h) : bz_J G κ kX12_findWays (d + 1) F bc bs 116 [some (.inr (some a0)), some (.inl x1), some (.inl x2), u3, u4] [] h := by
  subst hl
  unfold w_X12_findWays_116 at hP0
  refine bz_iload_n (pc := 116) dX12_findWays_116 rfl rfl ?_
  refine bz_bipush (pc := 117) dX12_findWays_117 cb_16 ?_
  refine bz_icmp_ge (tgt := 210) (pc := 119) dX12_findWays_119 rfl (fun c => ?_) (fun c => ?_)
  · have hP1 := hP0.1 c
    clear hP0
    refine bz_s_iinc (pc := 210) dX12_findWays_210 (Nat.le_of_ble_eq_true rfl) rfl rfl [some (.inr (some a0)), some (.inl (x1 + 1)), some (.inl x2), u3, u4] rfl ?_
    refine bz_goto (tgt := 108) (pc := 213) dX12_findWays_213 rfl ?_
    exact hP1
  · have hP2 := hP0.2 c
    clear hP0
    refine bz_iconst (pc := 122) dX12_findWays_122 ci_0 ?_
    refine bz_s_istore_n (pc := 123) dX12_findWays_123 rfl (Nat.le_of_ble_eq_true rfl) [some (.inr (some a0)), some (.inl x1), some (.inl x2), some (.inl 0), u4] rfl ?_
    exact hP2
def w_X12_findWays_124 (G : bz_G) (κ : bz_K) (l : Launch) (d : Nat) (F : Option bz_V → bz_H → Prop) (bc bs : Nat) (a0 : Nat) (x1 : Int32) (x2 : Int32) (x3 : Int32) (u4 : Option bz_V) (h : bz_H) : Prop := (16 ≤ x3 → bz_J G κ kX12_findWays (d + 1) F bc bs 116 [some (.inr (some a0)), some (.inl x1), some (.inl (x2 + 1)), some (.inl x3), u4] [] h) ∧ (¬ (16 ≤ x3) → bz_rR h a0 12 4 (fun r_18 => bz_nn r_18 (fun a_19 => bz_rA h a_19 ((16 * x2) + x1) (fun x_20 => bz_rR h a0 12 4 (fun r_21 => bz_nn r_21 (fun a_22 => bz_rA h a_22 ((16 * x1) + x3) (fun x_23 => bz_rR h a0 12 4 (fun r_24 => bz_rR h a0 12 4 (fun r_25 => bz_nn r_25 (fun a_26 => bz_rA h a_26 ((16 * x2) + x3) (fun x_27 => (x_27 ≤ (x_20 + x_23) → bz_rR h a0 12 4 (fun r_28 => bz_nn r_28 (fun a_29 => bz_rA h a_29 ((16 * x2) + x3) (fun x_30 => bz_nn r_24 (fun a_31 => bz_wA h a_31 ((16 * x2) + x3) x_30 (fun h_32 => bz_J G κ kX12_findWays (d + 1) F bc bs 124 [some (.inr (some a0)), some (.inl x1), some (.inl x2), some (.inl (x3 + 1)), some (.inl (x_20 + x_23))] [] h_32)))))) ∧ (¬ (x_27 ≤ (x_20 + x_23)) → bz_nn r_24 (fun a_33 => bz_wA h a_33 ((16 * x2) + x3) (x_20 + x_23) (fun h_34 => bz_J G κ kX12_findWays (d + 1) F bc bs 124 [some (.inr (some a0)), some (.inl x1), some (.inl x2), some (.inl (x3 + 1)), some (.inl (x_20 + x_23))] [] h_34))))))))))))))
set_option maxRecDepth 20000 in
set_option maxHeartbeats 4000000 in
theorem g_X12_findWays_124 {G : bz_G} {κ : bz_K} {l : Launch} {d : Nat} {F : Option bz_V → bz_H → Prop} {bc bs : Nat} (hl : κ.2.1 = l) (a0 : Nat) (x1 : Int32) (x2 : Int32) (x3 : Int32) (u4 : Option bz_V) (h : bz_H) (hP0 : w_X12_findWays_124 G κ l d F bc bs a0 x1 x2 x3 u4 h) : bz_J G κ kX12_findWays (d + 1) F bc bs 124 [some (.inr (some a0)), some (.inl x1), some (.inl x2), some (.inl x3), u4] [] h := by
  subst hl
  unfold w_X12_findWays_124 at hP0
  refine bz_iload_n (pc := 124) dX12_findWays_124 rfl rfl ?_
  refine bz_bipush (pc := 125) dX12_findWays_125 cb_16 ?_
  refine bz_icmp_ge (tgt := 204) (pc := 127) dX12_findWays_127 rfl (fun c => ?_) (fun c => ?_)
  · have hP1 := hP0.1 c
    clear hP0
    refine bz_s_iinc (pc := 204) dX12_findWays_204 (Nat.le_of_ble_eq_true rfl) rfl rfl [some (.inr (some a0)), some (.inl x1), some (.inl (x2 + 1)), some (.inl x3), u4] rfl ?_
    refine bz_goto (tgt := 116) (pc := 207) dX12_findWays_207 rfl ?_
    exact hP1
  · have hP2 := hP0.2 c
    clear hP0
    refine bz_aload_n (pc := 130) dX12_findWays_130 rfl rfl ?_
    refine bz_rw_rR (pc := 131) dX12_findWays_131 fl_X12_19 hP2 (fun r_18 hP3 => ?_)
    clear hP2
    refine bz_bipush (pc := 134) dX12_findWays_134 cb_16 ?_
    refine bz_iload_n (pc := 136) dX12_findWays_136 rfl rfl ?_
    refine bz_imul (pc := 137) dX12_findWays_137 ?_
    refine bz_iload_n (pc := 138) dX12_findWays_138 rfl rfl ?_
    refine bz_iadd (pc := 139) dX12_findWays_139 ?_
    obtain ⟨a_19, rfl, hP4⟩ := hP3
    refine bz_rw_rA (pc := 140) dX12_findWays_140 hP4 (fun x_20 hP5 => ?_)
    clear hP4
    refine bz_aload_n (pc := 141) dX12_findWays_141 rfl rfl ?_
    refine bz_rw_rR (pc := 142) dX12_findWays_142 fl_X12_19 hP5 (fun r_21 hP6 => ?_)
    clear hP5
    refine bz_bipush (pc := 145) dX12_findWays_145 cb_16 ?_
    refine bz_iload_n (pc := 147) dX12_findWays_147 rfl rfl ?_
    refine bz_imul (pc := 148) dX12_findWays_148 ?_
    refine bz_iload_n (pc := 149) dX12_findWays_149 rfl rfl ?_
    refine bz_iadd (pc := 150) dX12_findWays_150 ?_
    obtain ⟨a_22, rfl, hP7⟩ := hP6
    refine bz_rw_rA (pc := 151) dX12_findWays_151 hP7 (fun x_23 hP8 => ?_)
    clear hP7
    refine bz_iadd (pc := 152) dX12_findWays_152 ?_
    refine bz_s_istore (pc := 153) dX12_findWays_153 (Nat.le_of_ble_eq_true rfl) [some (.inr (some a0)), some (.inl x1), some (.inl x2), some (.inl x3), some (.inl (x_20 + x_23))] rfl ?_
    refine bz_aload_n (pc := 155) dX12_findWays_155 rfl rfl ?_
    refine bz_rw_rR (pc := 156) dX12_findWays_156 fl_X12_19 hP8 (fun r_24 hP9 => ?_)
    clear hP8
    refine bz_bipush (pc := 159) dX12_findWays_159 cb_16 ?_
    refine bz_iload_n (pc := 161) dX12_findWays_161 rfl rfl ?_
    refine bz_imul (pc := 162) dX12_findWays_162 ?_
    refine bz_iload_n (pc := 163) dX12_findWays_163 rfl rfl ?_
    refine bz_iadd (pc := 164) dX12_findWays_164 ?_
    refine bz_iload (pc := 165) dX12_findWays_165 rfl ?_
    refine bz_aload_n (pc := 167) dX12_findWays_167 rfl rfl ?_
    refine bz_rw_rR (pc := 168) dX12_findWays_168 fl_X12_19 hP9 (fun r_25 hP10 => ?_)
    clear hP9
    refine bz_bipush (pc := 171) dX12_findWays_171 cb_16 ?_
    refine bz_iload_n (pc := 173) dX12_findWays_173 rfl rfl ?_
    refine bz_imul (pc := 174) dX12_findWays_174 ?_
    refine bz_iload_n (pc := 175) dX12_findWays_175 rfl rfl ?_
    refine bz_iadd (pc := 176) dX12_findWays_176 ?_
    obtain ⟨a_26, rfl, hP11⟩ := hP10
    refine bz_rw_rA (pc := 177) dX12_findWays_177 hP11 (fun x_27 hP12 => ?_)
    clear hP11
    refine bz_icmp_ge (tgt := 186) (pc := 178) dX12_findWays_178 rfl (fun c => ?_) (fun c => ?_)
    · have hP13 := hP12.1 c
      clear hP12
      refine bz_aload_n (pc := 186) dX12_findWays_186 rfl rfl ?_
      refine bz_rw_rR (pc := 187) dX12_findWays_187 fl_X12_19 hP13 (fun r_28 hP14 => ?_)
      clear hP13
      refine bz_bipush (pc := 190) dX12_findWays_190 cb_16 ?_
      refine bz_iload_n (pc := 192) dX12_findWays_192 rfl rfl ?_
      refine bz_imul (pc := 193) dX12_findWays_193 ?_
      refine bz_iload_n (pc := 194) dX12_findWays_194 rfl rfl ?_
      refine bz_iadd (pc := 195) dX12_findWays_195 ?_
      obtain ⟨a_29, rfl, hP15⟩ := hP14
      refine bz_rw_rA (pc := 196) dX12_findWays_196 hP15 (fun x_30 hP16 => ?_)
      clear hP15
      obtain ⟨a_31, rfl, hP17⟩ := hP16
      refine bz_rw_wA (pc := 197) dX12_findWays_197 hP17 (fun h_32 hP18 => ?_)
      clear hP17
      refine bz_s_iinc (pc := 198) dX12_findWays_198 (Nat.le_of_ble_eq_true rfl) rfl rfl [some (.inr (some a0)), some (.inl x1), some (.inl x2), some (.inl (x3 + 1)), some (.inl (x_20 + x_23))] rfl ?_
      refine bz_goto (tgt := 124) (pc := 201) dX12_findWays_201 rfl ?_
      exact hP18
    · have hP19 := hP12.2 c
      clear hP12
      refine bz_iload (pc := 181) dX12_findWays_181 rfl ?_
      refine bz_goto (tgt := 197) (pc := 183) dX12_findWays_183 rfl ?_
      obtain ⟨a_33, rfl, hP20⟩ := hP19
      refine bz_rw_wA (pc := 197) dX12_findWays_197 hP20 (fun h_34 hP21 => ?_)
      clear hP20
      refine bz_s_iinc (pc := 198) dX12_findWays_198 (Nat.le_of_ble_eq_true rfl) rfl rfl [some (.inr (some a0)), some (.inl x1), some (.inl x2), some (.inl (x3 + 1)), some (.inl (x_20 + x_23))] rfl ?_
      refine bz_goto (tgt := 124) (pc := 201) dX12_findWays_201 rfl ?_
      exact hP21
theorem m_X12_findWays {G : bz_G} {l : Launch} {d mc ms : Nat} {F : Option bz_V → bz_H → Prop} (a0 : Nat) (h : bz_H) (hP : ∀ (κ : bz_K) (bc bs : Nat), κ.2.1 = l → w_X12_findWays_0 G κ l d F bc bs a0 h) : bz_Call G l (d + 1) kX12_findWays [.inr (some a0)] h mc ms F :=
  bz_body (by decide) (Nat.le_of_ble_eq_true rfl) (fun κ hl => g_X12_findWays_0 hl a0 h (hP κ mc ms hl))
def w_X12_finding_0 (G : bz_G) (l : Launch) (d : Nat) (F : Option bz_V → bz_H → Prop) (a0 : Nat) (x1 : Int32) (h : bz_H) : Prop := bz_rR h a0 12 3 (fun r_1 => bz_nn r_1 (fun a_2 => bz_rA h a_2 x1 (fun x_3 => bz_wA h a_2 x1 (x_3 + 1) (fun h_4 => F (some (.inl ((-1000001) - x1))) h_4))))
set_option maxRecDepth 20000 in
set_option maxHeartbeats 4000000 in
theorem g_X12_finding_0 {G : bz_G} {κ : bz_K} {l : Launch} {d : Nat} {F : Option bz_V → bz_H → Prop} {bc bs : Nat} (hl : κ.2.1 = l) (a0 : Nat) (x1 : Int32) (h : bz_H) (hP0 : w_X12_finding_0 G l d F a0 x1 h) : bz_J G κ kX12_finding (d + 1) F bc bs 0 [some (.inr (some a0)), some (.inl x1)] [] h := by
  subst hl
  unfold w_X12_finding_0 at hP0
  refine bz_aload_n (pc := 0) dX12_finding_0 rfl rfl ?_
  refine bz_rw_rR (pc := 1) dX12_finding_1 fl_X12_16 hP0 (fun r_1 hP1 => ?_)
  clear hP0
  refine bz_iload_n (pc := 4) dX12_finding_4 rfl rfl ?_
  refine bz_dup2 (pc := 5) dX12_finding_5 ?_
  obtain ⟨a_2, rfl, hP2⟩ := hP1
  refine bz_rw_rA (pc := 6) dX12_finding_6 hP2 (fun x_3 hP3 => ?_)
  clear hP2
  refine bz_iconst (pc := 7) dX12_finding_7 ci_1 ?_
  refine bz_iadd (pc := 8) dX12_finding_8 ?_
  refine bz_rw_wA (pc := 9) dX12_finding_9 hP3 (fun h_4 hP4 => ?_)
  clear hP3
  refine bz_ldc (pc := 10) dX12_finding_10 ct_X12_64 ?_
  refine bz_iload_n (pc := 12) dX12_finding_12 rfl rfl ?_
  refine bz_isub (pc := 13) dX12_finding_13 ?_
  exact bz_retI (pc := 14) dX12_finding_14 rfl rfl hP4
theorem m_X12_finding {G : bz_G} {l : Launch} {d mc ms : Nat} {F : Option bz_V → bz_H → Prop} (a0 : Nat) (x1 : Int32) (h : bz_H) (hP : w_X12_finding_0 G l d F a0 x1 h) : bz_Call G l (d + 1) kX12_finding [.inr (some a0), .inl x1] h mc ms F :=
  bz_body (by decide) (Nat.le_of_ble_eq_true rfl) (fun κ hl => g_X12_finding_0 hl a0 x1 h hP)
def w_X12_force_0 (G : bz_G) (l : Launch) (d : Nat) (F : Option bz_V → bz_H → Prop) (a0 : Nat) (x1 : Int32) (x2 : Int32) (h : bz_H) : Prop := bz_cI G l d kX12_in [.inl x1, .inl 0, .inl 1] h 0 0 (fun x_1 h_2 => (x_1 = 0 → bz_rc h_2 a0 12 (bz_cI G l d kX12_finding [.inr (some a0), .inl 0] h_2 0 0 (fun x_3 h_4 => F (some (.inl x_3)) h_4))) ∧ (¬ (x_1 = 0) → (x2 = (-1) → bz_rc h_2 a0 12 (bz_cI G l d kX12_become [.inr (some a0), .inl (5 + x1), .inl x2] h_2 0 0 (fun x_5 h_6 => F (some (.inl x_5)) h_6))) ∧ (¬ (x2 = (-1)) → bz_rc h_2 a0 12 (bz_cI G l d kX12_isText [.inr (some a0), .inl x2] h_2 0 0 (fun x_7 h_8 => (x_7 = 0 → bz_rc h_8 a0 12 (bz_cI G l d kX12_finding [.inr (some a0), .inl 0] h_8 0 0 (fun x_9 h_10 => F (some (.inl x_9)) h_10))) ∧ (¬ (x_7 = 0) → bz_rc h_8 a0 12 (bz_cI G l d kX12_become [.inr (some a0), .inl (5 + x1), .inl x2] h_8 0 0 (fun x_11 h_12 => F (some (.inl x_11)) h_12))))))))
set_option maxRecDepth 20000 in
set_option maxHeartbeats 4000000 in
theorem g_X12_force_0 {G : bz_G} {κ : bz_K} {l : Launch} {d : Nat} {F : Option bz_V → bz_H → Prop} {bc bs : Nat} (hl : κ.2.1 = l) (a0 : Nat) (x1 : Int32) (x2 : Int32) (h : bz_H) (hP0 : w_X12_force_0 G l d F a0 x1 x2 h) : bz_J G κ kX12_force (d + 1) F bc bs 0 [some (.inr (some a0)), some (.inl x1), some (.inl x2)] [] h := by
  subst hl
  unfold w_X12_force_0 at hP0
  refine bz_iload_n (pc := 0) dX12_force_0 rfl rfl ?_
  refine bz_iconst (pc := 1) dX12_force_1 ci_0 ?_
  refine bz_iconst (pc := 2) dX12_force_2 ci_1 ?_
  refine bz_kIS (as := [.inl x1, .inl 0, .inl 1]) (st := []) (n := 3) (mc := 0) (ms := 0) (bc := bc) (bs := bs) (yc := kX12_in) (pc := 3) dX12_force_3 sc_X12_in ml_X12_65 ss_X12_in rfl (Nat.le_of_ble_eq_true rfl) hP0 (fun x_1 h_2 hP1 => ?_)
  clear hP0
  refine bz_if_eq (tgt := 33) (pc := 6) dX12_force_6 rfl (fun c => ?_) (fun c => ?_)
  · have hP2 := hP1.1 c
    clear hP1
    refine bz_aload_n (pc := 33) dX12_force_33 rfl rfl ?_
    refine bz_iconst (pc := 34) dX12_force_34 ci_0 ?_
    refine bz_kIV (as := [.inl 0]) (st := []) (ci := 12) (n := 1) (mc := 0) (ms := 0) (bc := bc) (bs := bs) (yc := kX12_finding) (q := (RX12, TX12, 34)) (b := a0) (pc := 35) dX12_force_35 sc_X12_finding ml_X12_73 im_X12_finding se_X12_finding rfl rfl rfl (Nat.le_of_ble_eq_true rfl) hP2 (fun x_3 h_4 hP3 => ?_)
    clear hP2
    exact bz_retI (pc := 38) dX12_force_38 rfl rfl hP3
  · have hP4 := hP1.2 c
    clear hP1
    refine bz_iload_n (pc := 9) dX12_force_9 rfl rfl ?_
    refine bz_iconst (pc := 10) dX12_force_10 ci_m1 ?_
    refine bz_icmp_eq (tgt := 22) (pc := 11) dX12_force_11 rfl (fun c => ?_) (fun c => ?_)
    · have hP5 := hP4.1 c
      clear hP4
      refine bz_aload_n (pc := 22) dX12_force_22 rfl rfl ?_
      refine bz_iconst (pc := 23) dX12_force_23 ci_5 ?_
      refine bz_iload_n (pc := 24) dX12_force_24 rfl rfl ?_
      refine bz_iadd (pc := 25) dX12_force_25 ?_
      refine bz_iload_n (pc := 26) dX12_force_26 rfl rfl ?_
      refine bz_kIV (as := [.inl (5 + x1), .inl x2]) (st := []) (ci := 12) (n := 2) (mc := 0) (ms := 0) (bc := bc) (bs := bs) (yc := kX12_become) (q := (RX12, TX12, 34)) (b := a0) (pc := 27) dX12_force_27 sc_X12_become ml_X12_81 im_X12_become se_X12_become rfl rfl rfl (Nat.le_of_ble_eq_true rfl) hP5 (fun x_5 h_6 hP6 => ?_)
      clear hP5
      refine bz_goto (tgt := 38) (pc := 30) dX12_force_30 rfl ?_
      exact bz_retI (pc := 38) dX12_force_38 rfl rfl hP6
    · have hP7 := hP4.2 c
      clear hP4
      refine bz_aload_n (pc := 14) dX12_force_14 rfl rfl ?_
      refine bz_iload_n (pc := 15) dX12_force_15 rfl rfl ?_
      refine bz_kIV (as := [.inl x2]) (st := []) (ci := 12) (n := 1) (mc := 0) (ms := 0) (bc := bc) (bs := bs) (yc := kX12_isText) (q := (RX12, TX12, 34)) (b := a0) (pc := 16) dX12_force_16 sc_X12_isText ml_X12_296 im_X12_isText se_X12_isText rfl rfl rfl (Nat.le_of_ble_eq_true rfl) hP7 (fun x_7 h_8 hP8 => ?_)
      clear hP7
      refine bz_if_eq (tgt := 33) (pc := 19) dX12_force_19 rfl (fun c => ?_) (fun c => ?_)
      · have hP9 := hP8.1 c
        clear hP8
        refine bz_aload_n (pc := 33) dX12_force_33 rfl rfl ?_
        refine bz_iconst (pc := 34) dX12_force_34 ci_0 ?_
        refine bz_kIV (as := [.inl 0]) (st := []) (ci := 12) (n := 1) (mc := 0) (ms := 0) (bc := bc) (bs := bs) (yc := kX12_finding) (q := (RX12, TX12, 34)) (b := a0) (pc := 35) dX12_force_35 sc_X12_finding ml_X12_73 im_X12_finding se_X12_finding rfl rfl rfl (Nat.le_of_ble_eq_true rfl) hP9 (fun x_9 h_10 hP10 => ?_)
        clear hP9
        exact bz_retI (pc := 38) dX12_force_38 rfl rfl hP10
      · have hP11 := hP8.2 c
        clear hP8
        refine bz_aload_n (pc := 22) dX12_force_22 rfl rfl ?_
        refine bz_iconst (pc := 23) dX12_force_23 ci_5 ?_
        refine bz_iload_n (pc := 24) dX12_force_24 rfl rfl ?_
        refine bz_iadd (pc := 25) dX12_force_25 ?_
        refine bz_iload_n (pc := 26) dX12_force_26 rfl rfl ?_
        refine bz_kIV (as := [.inl (5 + x1), .inl x2]) (st := []) (ci := 12) (n := 2) (mc := 0) (ms := 0) (bc := bc) (bs := bs) (yc := kX12_become) (q := (RX12, TX12, 34)) (b := a0) (pc := 27) dX12_force_27 sc_X12_become ml_X12_81 im_X12_become se_X12_become rfl rfl rfl (Nat.le_of_ble_eq_true rfl) hP11 (fun x_11 h_12 hP12 => ?_)
        clear hP11
        refine bz_goto (tgt := 38) (pc := 30) dX12_force_30 rfl ?_
        exact bz_retI (pc := 38) dX12_force_38 rfl rfl hP12
theorem m_X12_force {G : bz_G} {l : Launch} {d mc ms : Nat} {F : Option bz_V → bz_H → Prop} (a0 : Nat) (x1 : Int32) (x2 : Int32) (h : bz_H) (hP : w_X12_force_0 G l d F a0 x1 x2 h) : bz_Call G l (d + 1) kX12_force [.inr (some a0), .inl x1, .inl x2] h mc ms F :=
  bz_body (by decide) (Nat.le_of_ble_eq_true rfl) (fun κ hl => g_X12_force_0 hl a0 x1 x2 h hP)
def w_X12_giveTwo_0 (G : bz_G) (l : Launch) (d : Nat) (F : Option bz_V → bz_H → Prop) (a0 : Nat) (x1 : Int32) (x2 : Int32) (x3 : Int32) (h : bz_H) : Prop := bz_rc h a0 12 (bz_cI G l d kX12_hinders [.inr (some a0), .inl x1, .inl x2, .inl x3] h 0 0 (fun x_1 h_2 => (x_1 < 0 → bz_rc h_2 a0 12 (bz_cI G l d kX12_payFor [.inr (some a0), .inl x1, .inl x2, .inl 0] h_2 0 0 (fun x_3 h_4 => bz_rc h_4 a0 12 (bz_cI G l d kX12_payFor [.inr (some a0), .inl x1, .inl x3, .inl 1] h_4 0 0 (fun x_5 h_6 => bz_rc h_6 a0 12 (bz_cV G l d kX12_ends [.inr (some a0), .inl x1] h_6 0 0 (fun h_8 => bz_rc h_8 a0 12 (bz_cV G l d kX12_becomesGiven [.inr (some a0), .inl x1, .inl x2, .inl 0, .inl x_3] h_8 0 0 (fun h_10 => bz_rc h_10 a0 12 (bz_cV G l d kX12_becomesGiven [.inr (some a0), .inl x1, .inl x3, .inl 1, .inl x_5] h_10 0 0 (fun h_12 => bz_rI h_12 a0 12 7 (fun x_13 => F (some (.inl x_13)) h_12)))))))))))) ∧ (¬ (x_1 < 0) → bz_rc h_2 a0 12 (bz_cI G l d kX12_finding [.inr (some a0), .inl x_1] h_2 0 0 (fun x_14 h_15 => F (some (.inl x_14)) h_15)))))
set_option maxRecDepth 20000 in
set_option maxHeartbeats 4000000 in
theorem g_X12_giveTwo_0 {G : bz_G} {κ : bz_K} {l : Launch} {d : Nat} {F : Option bz_V → bz_H → Prop} {bc bs : Nat} (hl : κ.2.1 = l) (a0 : Nat) (x1 : Int32) (x2 : Int32) (x3 : Int32) (h : bz_H) (hP0 : w_X12_giveTwo_0 G l d F a0 x1 x2 x3 h) : bz_J G κ kX12_giveTwo (d + 1) F bc bs 0 [some (.inr (some a0)), some (.inl x1), some (.inl x2), some (.inl x3), none, none, none] [] h := by
  subst hl
  unfold w_X12_giveTwo_0 at hP0
  refine bz_aload_n (pc := 0) dX12_giveTwo_0 rfl rfl ?_
  refine bz_iload_n (pc := 1) dX12_giveTwo_1 rfl rfl ?_
  refine bz_iload_n (pc := 2) dX12_giveTwo_2 rfl rfl ?_
  refine bz_iload_n (pc := 3) dX12_giveTwo_3 rfl rfl ?_
  refine bz_kIV (as := [.inl x1, .inl x2, .inl x3]) (st := []) (ci := 12) (n := 3) (mc := 0) (ms := 0) (bc := bc) (bs := bs) (yc := kX12_hinders) (q := (RX12, TX12, 34)) (b := a0) (pc := 4) dX12_giveTwo_4 sc_X12_hinders ml_X12_212 im_X12_hinders se_X12_hinders rfl rfl rfl (Nat.le_of_ble_eq_true rfl) hP0 (fun x_1 h_2 hP1 => ?_)
  clear hP0
  refine bz_s_istore (pc := 7) dX12_giveTwo_7 (Nat.le_of_ble_eq_true rfl) [some (.inr (some a0)), some (.inl x1), some (.inl x2), some (.inl x3), some (.inl x_1), none, none] rfl ?_
  refine bz_iload (pc := 9) dX12_giveTwo_9 rfl ?_
  refine bz_if_lt (tgt := 21) (pc := 11) dX12_giveTwo_11 rfl (fun c => ?_) (fun c => ?_)
  · have hP2 := hP1.1 c
    clear hP1
    refine bz_aload_n (pc := 21) dX12_giveTwo_21 rfl rfl ?_
    refine bz_iload_n (pc := 22) dX12_giveTwo_22 rfl rfl ?_
    refine bz_iload_n (pc := 23) dX12_giveTwo_23 rfl rfl ?_
    refine bz_iconst (pc := 24) dX12_giveTwo_24 ci_0 ?_
    refine bz_kIV (as := [.inl x1, .inl x2, .inl 0]) (st := []) (ci := 12) (n := 3) (mc := 0) (ms := 0) (bc := bc) (bs := bs) (yc := kX12_payFor) (q := (RX12, TX12, 34)) (b := a0) (pc := 25) dX12_giveTwo_25 sc_X12_payFor ml_X12_221 im_X12_payFor se_X12_payFor rfl rfl rfl (Nat.le_of_ble_eq_true rfl) hP2 (fun x_3 h_4 hP3 => ?_)
    clear hP2
    refine bz_s_istore (pc := 28) dX12_giveTwo_28 (Nat.le_of_ble_eq_true rfl) [some (.inr (some a0)), some (.inl x1), some (.inl x2), some (.inl x3), some (.inl x_1), some (.inl x_3), none] rfl ?_
    refine bz_aload_n (pc := 30) dX12_giveTwo_30 rfl rfl ?_
    refine bz_iload_n (pc := 31) dX12_giveTwo_31 rfl rfl ?_
    refine bz_iload_n (pc := 32) dX12_giveTwo_32 rfl rfl ?_
    refine bz_iconst (pc := 33) dX12_giveTwo_33 ci_1 ?_
    refine bz_kIV (as := [.inl x1, .inl x3, .inl 1]) (st := []) (ci := 12) (n := 3) (mc := 0) (ms := 0) (bc := bc) (bs := bs) (yc := kX12_payFor) (q := (RX12, TX12, 34)) (b := a0) (pc := 34) dX12_giveTwo_34 sc_X12_payFor ml_X12_221 im_X12_payFor se_X12_payFor rfl rfl rfl (Nat.le_of_ble_eq_true rfl) hP3 (fun x_5 h_6 hP4 => ?_)
    clear hP3
    refine bz_s_istore (pc := 37) dX12_giveTwo_37 (Nat.le_of_ble_eq_true rfl) [some (.inr (some a0)), some (.inl x1), some (.inl x2), some (.inl x3), some (.inl x_1), some (.inl x_3), some (.inl x_5)] rfl ?_
    refine bz_aload_n (pc := 39) dX12_giveTwo_39 rfl rfl ?_
    refine bz_iload_n (pc := 40) dX12_giveTwo_40 rfl rfl ?_
    refine bz_kVV (as := [.inl x1]) (st := []) (ci := 12) (n := 1) (mc := 0) (ms := 0) (bc := bc) (bs := bs) (yc := kX12_ends) (q := (RX12, TX12, 34)) (b := a0) (pc := 41) dX12_giveTwo_41 sc_X12_ends ml_X12_224 im_X12_ends se_X12_ends rfl rfl rfl (Nat.le_of_ble_eq_true rfl) hP4 (fun h_8 hP5 => ?_)
    clear hP4
    refine bz_aload_n (pc := 44) dX12_giveTwo_44 rfl rfl ?_
    refine bz_iload_n (pc := 45) dX12_giveTwo_45 rfl rfl ?_
    refine bz_iload_n (pc := 46) dX12_giveTwo_46 rfl rfl ?_
    refine bz_iconst (pc := 47) dX12_giveTwo_47 ci_0 ?_
    refine bz_iload (pc := 48) dX12_giveTwo_48 rfl ?_
    refine bz_kVV (as := [.inl x1, .inl x2, .inl 0, .inl x_3]) (st := []) (ci := 12) (n := 4) (mc := 0) (ms := 0) (bc := bc) (bs := bs) (yc := kX12_becomesGiven) (q := (RX12, TX12, 34)) (b := a0) (pc := 50) dX12_giveTwo_50 sc_X12_becomesGiven ml_X12_228 im_X12_becomesGiven se_X12_becomesGiven rfl rfl rfl (Nat.le_of_ble_eq_true rfl) hP5 (fun h_10 hP6 => ?_)
    clear hP5
    refine bz_aload_n (pc := 53) dX12_giveTwo_53 rfl rfl ?_
    refine bz_iload_n (pc := 54) dX12_giveTwo_54 rfl rfl ?_
    refine bz_iload_n (pc := 55) dX12_giveTwo_55 rfl rfl ?_
    refine bz_iconst (pc := 56) dX12_giveTwo_56 ci_1 ?_
    refine bz_iload (pc := 57) dX12_giveTwo_57 rfl ?_
    refine bz_kVV (as := [.inl x1, .inl x3, .inl 1, .inl x_5]) (st := []) (ci := 12) (n := 4) (mc := 0) (ms := 0) (bc := bc) (bs := bs) (yc := kX12_becomesGiven) (q := (RX12, TX12, 34)) (b := a0) (pc := 59) dX12_giveTwo_59 sc_X12_becomesGiven ml_X12_228 im_X12_becomesGiven se_X12_becomesGiven rfl rfl rfl (Nat.le_of_ble_eq_true rfl) hP6 (fun h_12 hP7 => ?_)
    clear hP6
    refine bz_aload_n (pc := 62) dX12_giveTwo_62 rfl rfl ?_
    refine bz_rw_rI (pc := 63) dX12_giveTwo_63 fl_X12_167 hP7 (fun x_13 hP8 => ?_)
    clear hP7
    exact bz_retI (pc := 66) dX12_giveTwo_66 rfl rfl hP8
  · have hP9 := hP1.2 c
    clear hP1
    refine bz_aload_n (pc := 14) dX12_giveTwo_14 rfl rfl ?_
    refine bz_iload (pc := 15) dX12_giveTwo_15 rfl ?_
    refine bz_kIV (as := [.inl x_1]) (st := []) (ci := 12) (n := 1) (mc := 0) (ms := 0) (bc := bc) (bs := bs) (yc := kX12_finding) (q := (RX12, TX12, 34)) (b := a0) (pc := 17) dX12_giveTwo_17 sc_X12_finding ml_X12_73 im_X12_finding se_X12_finding rfl rfl rfl (Nat.le_of_ble_eq_true rfl) hP9 (fun x_14 h_15 hP10 => ?_)
    clear hP9
    exact bz_retI (pc := 20) dX12_giveTwo_20 rfl rfl hP10
theorem m_X12_giveTwo {G : bz_G} {l : Launch} {d mc ms : Nat} {F : Option bz_V → bz_H → Prop} (a0 : Nat) (x1 : Int32) (x2 : Int32) (x3 : Int32) (h : bz_H) (hP : w_X12_giveTwo_0 G l d F a0 x1 x2 x3 h) : bz_Call G l (d + 1) kX12_giveTwo [.inr (some a0), .inl x1, .inl x2, .inl x3] h mc ms F :=
  bz_body (by decide) (Nat.le_of_ble_eq_true rfl) (fun κ hl => g_X12_giveTwo_0 hl a0 x1 x2 x3 h hP)
def w_X12_give_0 (G : bz_G) (l : Launch) (d : Nat) (F : Option bz_V → bz_H → Prop) (a0 : Nat) (x1 : Int32) (x2 : Int32) (h : bz_H) : Prop := bz_rc h a0 12 (bz_cI G l d kX12_isRider [.inr (some a0), .inl x1] h 0 0 (fun x_1 h_2 => (x_1 = 0 → bz_rc h_2 a0 12 (bz_cI G l d kX12_finding [.inr (some a0), .inl 0] h_2 0 0 (fun x_3 h_4 => F (some (.inl x_3)) h_4))) ∧ (¬ (x_1 = 0) → bz_rc h_2 a0 12 (bz_cI G l d kX12_isOrder [.inr (some a0), .inl x2] h_2 0 0 (fun x_5 h_6 => (¬ x_5 = 0 → bz_rc h_6 a0 12 (bz_cI G l d kX12_isWaiting [.inr (some a0), .inl x2] h_6 0 0 (fun x_7 h_8 => (¬ x_7 = 0 → bz_rc h_8 a0 12 (bz_cI G l d kX12_tripNow [.inr (some a0), .inl x1, .inl x2] h_8 0 0 (fun x_9 h_10 => (x_9 = 0 → bz_rc h_10 a0 12 (bz_cI G l d kX12_finding [.inr (some a0), .inl 3] h_10 0 0 (fun x_11 h_12 => F (some (.inl x_11)) h_12))) ∧ (¬ (x_9 = 0) → bz_rc h_10 a0 12 (bz_cI G l d kX12_gives [.inr (some a0), .inl x1, .inl x2] h_10 0 0 (fun x_13 h_14 => F (some (.inl x_13)) h_14)))))) ∧ (x_7 = 0 → bz_rc h_8 a0 12 (bz_cI G l d kX12_finding [.inr (some a0), .inl 4] h_8 0 0 (fun x_15 h_16 => F (some (.inl x_15)) h_16)))))) ∧ (x_5 = 0 → bz_rc h_6 a0 12 (bz_cI G l d kX12_finding [.inr (some a0), .inl 0] h_6 0 0 (fun x_17 h_18 => F (some (.inl x_17)) h_18))))))))
set_option maxRecDepth 20000 in
set_option maxHeartbeats 4000000 in
theorem g_X12_give_0 {G : bz_G} {κ : bz_K} {l : Launch} {d : Nat} {F : Option bz_V → bz_H → Prop} {bc bs : Nat} (hl : κ.2.1 = l) (a0 : Nat) (x1 : Int32) (x2 : Int32) (h : bz_H) (hP0 : w_X12_give_0 G l d F a0 x1 x2 h) : bz_J G κ kX12_give (d + 1) F bc bs 0 [some (.inr (some a0)), some (.inl x1), some (.inl x2)] [] h := by
  subst hl
  unfold w_X12_give_0 at hP0
  refine bz_aload_n (pc := 0) dX12_give_0 rfl rfl ?_
  refine bz_iload_n (pc := 1) dX12_give_1 rfl rfl ?_
  refine bz_kIV (as := [.inl x1]) (st := []) (ci := 12) (n := 1) (mc := 0) (ms := 0) (bc := bc) (bs := bs) (yc := kX12_isRider) (q := (RX12, TX12, 34)) (b := a0) (pc := 2) dX12_give_2 sc_X12_isRider ml_X12_139 im_X12_isRider se_X12_isRider rfl rfl rfl (Nat.le_of_ble_eq_true rfl) hP0 (fun x_1 h_2 hP1 => ?_)
  clear hP0
  refine bz_if_eq (tgt := 16) (pc := 5) dX12_give_5 rfl (fun c => ?_) (fun c => ?_)
  · have hP2 := hP1.1 c
    clear hP1
    refine bz_aload_n (pc := 16) dX12_give_16 rfl rfl ?_
    refine bz_iconst (pc := 17) dX12_give_17 ci_0 ?_
    refine bz_kIV (as := [.inl 0]) (st := []) (ci := 12) (n := 1) (mc := 0) (ms := 0) (bc := bc) (bs := bs) (yc := kX12_finding) (q := (RX12, TX12, 34)) (b := a0) (pc := 18) dX12_give_18 sc_X12_finding ml_X12_73 im_X12_finding se_X12_finding rfl rfl rfl (Nat.le_of_ble_eq_true rfl) hP2 (fun x_3 h_4 hP3 => ?_)
    clear hP2
    exact bz_retI (pc := 21) dX12_give_21 rfl rfl hP3
  · have hP4 := hP1.2 c
    clear hP1
    refine bz_aload_n (pc := 8) dX12_give_8 rfl rfl ?_
    refine bz_iload_n (pc := 9) dX12_give_9 rfl rfl ?_
    refine bz_kIV (as := [.inl x2]) (st := []) (ci := 12) (n := 1) (mc := 0) (ms := 0) (bc := bc) (bs := bs) (yc := kX12_isOrder) (q := (RX12, TX12, 34)) (b := a0) (pc := 10) dX12_give_10 sc_X12_isOrder ml_X12_117 im_X12_isOrder se_X12_isOrder rfl rfl rfl (Nat.le_of_ble_eq_true rfl) hP4 (fun x_5 h_6 hP5 => ?_)
    clear hP4
    refine bz_if_ne (tgt := 22) (pc := 13) dX12_give_13 rfl (fun c => ?_) (fun c => ?_)
    · have hP6 := hP5.1 c
      clear hP5
      refine bz_aload_n (pc := 22) dX12_give_22 rfl rfl ?_
      refine bz_iload_n (pc := 23) dX12_give_23 rfl rfl ?_
      refine bz_kIV (as := [.inl x2]) (st := []) (ci := 12) (n := 1) (mc := 0) (ms := 0) (bc := bc) (bs := bs) (yc := kX12_isWaiting) (q := (RX12, TX12, 34)) (b := a0) (pc := 24) dX12_give_24 sc_X12_isWaiting ml_X12_129 im_X12_isWaiting se_X12_isWaiting rfl rfl rfl (Nat.le_of_ble_eq_true rfl) hP6 (fun x_7 h_8 hP7 => ?_)
      clear hP6
      refine bz_if_ne (tgt := 36) (pc := 27) dX12_give_27 rfl (fun c => ?_) (fun c => ?_)
      · have hP8 := hP7.1 c
        clear hP7
        refine bz_aload_n (pc := 36) dX12_give_36 rfl rfl ?_
        refine bz_iload_n (pc := 37) dX12_give_37 rfl rfl ?_
        refine bz_iload_n (pc := 38) dX12_give_38 rfl rfl ?_
        refine bz_kIV (as := [.inl x1, .inl x2]) (st := []) (ci := 12) (n := 2) (mc := 0) (ms := 0) (bc := bc) (bs := bs) (yc := kX12_tripNow) (q := (RX12, TX12, 34)) (b := a0) (pc := 39) dX12_give_39 sc_X12_tripNow ml_X12_194 im_X12_tripNow se_X12_tripNow rfl rfl rfl (Nat.le_of_ble_eq_true rfl) hP8 (fun x_9 h_10 hP9 => ?_)
        clear hP8
        refine bz_if_eq (tgt := 54) (pc := 42) dX12_give_42 rfl (fun c => ?_) (fun c => ?_)
        · have hP10 := hP9.1 c
          clear hP9
          refine bz_aload_n (pc := 54) dX12_give_54 rfl rfl ?_
          refine bz_iconst (pc := 55) dX12_give_55 ci_3 ?_
          refine bz_kIV (as := [.inl 3]) (st := []) (ci := 12) (n := 1) (mc := 0) (ms := 0) (bc := bc) (bs := bs) (yc := kX12_finding) (q := (RX12, TX12, 34)) (b := a0) (pc := 56) dX12_give_56 sc_X12_finding ml_X12_73 im_X12_finding se_X12_finding rfl rfl rfl (Nat.le_of_ble_eq_true rfl) hP10 (fun x_11 h_12 hP11 => ?_)
          clear hP10
          exact bz_retI (pc := 59) dX12_give_59 rfl rfl hP11
        · have hP12 := hP9.2 c
          clear hP9
          refine bz_aload_n (pc := 45) dX12_give_45 rfl rfl ?_
          refine bz_iload_n (pc := 46) dX12_give_46 rfl rfl ?_
          refine bz_iload_n (pc := 47) dX12_give_47 rfl rfl ?_
          refine bz_kIV (as := [.inl x1, .inl x2]) (st := []) (ci := 12) (n := 2) (mc := 0) (ms := 0) (bc := bc) (bs := bs) (yc := kX12_gives) (q := (RX12, TX12, 34)) (b := a0) (pc := 48) dX12_give_48 sc_X12_gives ml_X12_232 im_X12_gives se_X12_gives rfl rfl rfl (Nat.le_of_ble_eq_true rfl) hP12 (fun x_13 h_14 hP13 => ?_)
          clear hP12
          refine bz_goto (tgt := 59) (pc := 51) dX12_give_51 rfl ?_
          exact bz_retI (pc := 59) dX12_give_59 rfl rfl hP13
      · have hP14 := hP7.2 c
        clear hP7
        refine bz_aload_n (pc := 30) dX12_give_30 rfl rfl ?_
        refine bz_iconst (pc := 31) dX12_give_31 ci_4 ?_
        refine bz_kIV (as := [.inl 4]) (st := []) (ci := 12) (n := 1) (mc := 0) (ms := 0) (bc := bc) (bs := bs) (yc := kX12_finding) (q := (RX12, TX12, 34)) (b := a0) (pc := 32) dX12_give_32 sc_X12_finding ml_X12_73 im_X12_finding se_X12_finding rfl rfl rfl (Nat.le_of_ble_eq_true rfl) hP14 (fun x_15 h_16 hP15 => ?_)
        clear hP14
        exact bz_retI (pc := 35) dX12_give_35 rfl rfl hP15
    · have hP16 := hP5.2 c
      clear hP5
      refine bz_aload_n (pc := 16) dX12_give_16 rfl rfl ?_
      refine bz_iconst (pc := 17) dX12_give_17 ci_0 ?_
      refine bz_kIV (as := [.inl 0]) (st := []) (ci := 12) (n := 1) (mc := 0) (ms := 0) (bc := bc) (bs := bs) (yc := kX12_finding) (q := (RX12, TX12, 34)) (b := a0) (pc := 18) dX12_give_18 sc_X12_finding ml_X12_73 im_X12_finding se_X12_finding rfl rfl rfl (Nat.le_of_ble_eq_true rfl) hP16 (fun x_17 h_18 hP17 => ?_)
      clear hP16
      exact bz_retI (pc := 21) dX12_give_21 rfl rfl hP17
theorem m_X12_give {G : bz_G} {l : Launch} {d mc ms : Nat} {F : Option bz_V → bz_H → Prop} (a0 : Nat) (x1 : Int32) (x2 : Int32) (h : bz_H) (hP : w_X12_give_0 G l d F a0 x1 x2 h) : bz_Call G l (d + 1) kX12_give [.inr (some a0), .inl x1, .inl x2] h mc ms F :=
  bz_body (by decide) (Nat.le_of_ble_eq_true rfl) (fun κ hl => g_X12_give_0 hl a0 x1 x2 h hP)
def w_X12_gives_0 (G : bz_G) (l : Launch) (d : Nat) (F : Option bz_V → bz_H → Prop) (a0 : Nat) (x1 : Int32) (x2 : Int32) (h : bz_H) : Prop := bz_rc h a0 12 (bz_cI G l d kX12_payFor [.inr (some a0), .inl x1, .inl x2, .inl 0] h 0 0 (fun x_1 h_2 => bz_rc h_2 a0 12 (bz_cV G l d kX12_ends [.inr (some a0), .inl x1] h_2 0 0 (fun h_4 => bz_rc h_4 a0 12 (bz_cV G l d kX12_becomesGiven [.inr (some a0), .inl x1, .inl x2, .inl 0, .inl x_1] h_4 0 0 (fun h_6 => bz_rR h_6 a0 12 10 (fun r_7 => bz_nn r_7 (fun a_8 => bz_rA h_6 a_8 0 (fun x_9 => F (some (.inl x_9)) h_6)))))))))
set_option maxRecDepth 20000 in
set_option maxHeartbeats 4000000 in
theorem g_X12_gives_0 {G : bz_G} {κ : bz_K} {l : Launch} {d : Nat} {F : Option bz_V → bz_H → Prop} {bc bs : Nat} (hl : κ.2.1 = l) (a0 : Nat) (x1 : Int32) (x2 : Int32) (h : bz_H) (hP0 : w_X12_gives_0 G l d F a0 x1 x2 h) : bz_J G κ kX12_gives (d + 1) F bc bs 0 [some (.inr (some a0)), some (.inl x1), some (.inl x2), none] [] h := by
  subst hl
  unfold w_X12_gives_0 at hP0
  refine bz_aload_n (pc := 0) dX12_gives_0 rfl rfl ?_
  refine bz_iload_n (pc := 1) dX12_gives_1 rfl rfl ?_
  refine bz_iload_n (pc := 2) dX12_gives_2 rfl rfl ?_
  refine bz_iconst (pc := 3) dX12_gives_3 ci_0 ?_
  refine bz_kIV (as := [.inl x1, .inl x2, .inl 0]) (st := []) (ci := 12) (n := 3) (mc := 0) (ms := 0) (bc := bc) (bs := bs) (yc := kX12_payFor) (q := (RX12, TX12, 34)) (b := a0) (pc := 4) dX12_gives_4 sc_X12_payFor ml_X12_221 im_X12_payFor se_X12_payFor rfl rfl rfl (Nat.le_of_ble_eq_true rfl) hP0 (fun x_1 h_2 hP1 => ?_)
  clear hP0
  refine bz_s_istore_n (pc := 7) dX12_gives_7 rfl (Nat.le_of_ble_eq_true rfl) [some (.inr (some a0)), some (.inl x1), some (.inl x2), some (.inl x_1)] rfl ?_
  refine bz_aload_n (pc := 8) dX12_gives_8 rfl rfl ?_
  refine bz_iload_n (pc := 9) dX12_gives_9 rfl rfl ?_
  refine bz_kVV (as := [.inl x1]) (st := []) (ci := 12) (n := 1) (mc := 0) (ms := 0) (bc := bc) (bs := bs) (yc := kX12_ends) (q := (RX12, TX12, 34)) (b := a0) (pc := 10) dX12_gives_10 sc_X12_ends ml_X12_224 im_X12_ends se_X12_ends rfl rfl rfl (Nat.le_of_ble_eq_true rfl) hP1 (fun h_4 hP2 => ?_)
  clear hP1
  refine bz_aload_n (pc := 13) dX12_gives_13 rfl rfl ?_
  refine bz_iload_n (pc := 14) dX12_gives_14 rfl rfl ?_
  refine bz_iload_n (pc := 15) dX12_gives_15 rfl rfl ?_
  refine bz_iconst (pc := 16) dX12_gives_16 ci_0 ?_
  refine bz_iload_n (pc := 17) dX12_gives_17 rfl rfl ?_
  refine bz_kVV (as := [.inl x1, .inl x2, .inl 0, .inl x_1]) (st := []) (ci := 12) (n := 4) (mc := 0) (ms := 0) (bc := bc) (bs := bs) (yc := kX12_becomesGiven) (q := (RX12, TX12, 34)) (b := a0) (pc := 18) dX12_gives_18 sc_X12_becomesGiven ml_X12_228 im_X12_becomesGiven se_X12_becomesGiven rfl rfl rfl (Nat.le_of_ble_eq_true rfl) hP2 (fun h_6 hP3 => ?_)
  clear hP2
  refine bz_aload_n (pc := 21) dX12_gives_21 rfl rfl ?_
  refine bz_rw_rR (pc := 22) dX12_gives_22 fl_X12_25 hP3 (fun r_7 hP4 => ?_)
  clear hP3
  refine bz_iconst (pc := 25) dX12_gives_25 ci_0 ?_
  obtain ⟨a_8, rfl, hP5⟩ := hP4
  refine bz_rw_rA (pc := 26) dX12_gives_26 hP5 (fun x_9 hP6 => ?_)
  clear hP5
  exact bz_retI (pc := 27) dX12_gives_27 rfl rfl hP6
theorem m_X12_gives {G : bz_G} {l : Launch} {d mc ms : Nat} {F : Option bz_V → bz_H → Prop} (a0 : Nat) (x1 : Int32) (x2 : Int32) (h : bz_H) (hP : w_X12_gives_0 G l d F a0 x1 x2 h) : bz_Call G l (d + 1) kX12_gives [.inr (some a0), .inl x1, .inl x2] h mc ms F :=
  bz_body (by decide) (Nat.le_of_ble_eq_true rfl) (fun κ hl => g_X12_gives_0 hl a0 x1 x2 h hP)
def w_X12_goesNight_0 (G : bz_G) (κ : bz_K) (l : Launch) (d : Nat) (F : Option bz_V → bz_H → Prop) (bc bs : Nat) (a0 : Nat) (x1 : Int32) (h : bz_H) : Prop := bz_J G κ kX12_goesNight (d + 1) F bc bs 2 [some (.inr (some a0)), some (.inl x1), some (.inl 0), none] [] h
set_option maxRecDepth 20000 in
set_option maxHeartbeats 4000000 in
theorem g_X12_goesNight_0 {G : bz_G} {κ : bz_K} {l : Launch} {d : Nat} {F : Option bz_V → bz_H → Prop} {bc bs : Nat} (hl : κ.2.1 = l) (a0 : Nat) (x1 : Int32) (h : bz_H) (hP0 : w_X12_goesNight_0 G κ l d F bc bs a0 x1 h) : bz_J G κ kX12_goesNight (d + 1) F bc bs 0 [some (.inr (some a0)), some (.inl x1), none, none] [] h := by
  subst hl
  unfold w_X12_goesNight_0 at hP0
  refine bz_iconst (pc := 0) dX12_goesNight_0 ci_0 ?_
  refine bz_s_istore_n (pc := 1) dX12_goesNight_1 rfl (Nat.le_of_ble_eq_true rfl) [some (.inr (some a0)), some (.inl x1), some (.inl 0), none] rfl ?_
  exact hP0
def w_X12_goesNight_2 (G : bz_G) (κ : bz_K) (l : Launch) (d : Nat) (F : Option bz_V → bz_H → Prop) (bc bs : Nat) (a0 : Nat) (x1 : Int32) (x2 : Int32) (u3 : Option bz_V) (h : bz_H) : Prop := bz_rR h a0 12 0 (fun r_1 => bz_nn r_1 (fun a_2 => bz_rA h a_2 3 (fun x_3 => (x_3 ≤ x2 → bz_wI h a0 12 28 0 (fun h_4 => bz_wI h_4 a0 12 29 0 (fun h_5 => bz_J G κ kX12_goesNight (d + 1) F bc bs 61 [some (.inr (some a0)), some (.inl x1), some (.inl 0), u3] [] h_5))) ∧ (¬ (x_3 ≤ x2) → bz_rR h a0 12 24 (fun r_6 => bz_rc h a0 12 (bz_cI G l d kX12_ofRider [.inr (some a0), .inl x2, .inl 4] h 0 0 (fun x_7 h_8 => bz_nn r_6 (fun a_9 => bz_wA h_8 a_9 x2 x_7 (fun h_10 => bz_rR h_10 a0 12 25 (fun r_11 => bz_rc h_10 a0 12 (bz_cI G l d kX12_ofRider [.inr (some a0), .inl x2, .inl 5] h_10 0 0 (fun x_12 h_13 => bz_nn r_11 (fun a_14 => bz_wA h_13 a_14 x2 x_12 (fun h_15 => bz_rR h_15 a0 12 26 (fun r_16 => bz_nn r_16 (fun a_17 => bz_wA h_15 a_17 x2 0 (fun h_18 => bz_J G κ kX12_goesNight (d + 1) F bc bs 2 [some (.inr (some a0)), some (.inl x1), some (.inl (x2 + 1)), u3] [] h_18)))))))))))))))))
set_option maxRecDepth 20000 in
set_option maxHeartbeats 4000000 in
theorem g_X12_goesNight_2 {G : bz_G} {κ : bz_K} {l : Launch} {d : Nat} {F : Option bz_V → bz_H → Prop} {bc bs : Nat} (hl : κ.2.1 = l) (a0 : Nat) (x1 : Int32) (x2 : Int32) (u3 : Option bz_V) (h : bz_H) (hP0 : w_X12_goesNight_2 G κ l d F bc bs a0 x1 x2 u3 h) : bz_J G κ kX12_goesNight (d + 1) F bc bs 2 [some (.inr (some a0)), some (.inl x1), some (.inl x2), u3] [] h := by
  subst hl
  unfold w_X12_goesNight_2 at hP0
  refine bz_iload_n (pc := 2) dX12_goesNight_2 rfl rfl ?_
  refine bz_aload_n (pc := 3) dX12_goesNight_3 rfl rfl ?_
  refine bz_rw_rR (pc := 4) dX12_goesNight_4 fl_X12_7 hP0 (fun r_1 hP1 => ?_)
  clear hP0
  refine bz_iconst (pc := 7) dX12_goesNight_7 ci_3 ?_
  obtain ⟨a_2, rfl, hP2⟩ := hP1
  refine bz_rw_rA (pc := 8) dX12_goesNight_8 hP2 (fun x_3 hP3 => ?_)
  clear hP2
  refine bz_icmp_ge (tgt := 49) (pc := 9) dX12_goesNight_9 rfl (fun c => ?_) (fun c => ?_)
  · have hP4 := hP3.1 c
    clear hP3
    refine bz_aload_n (pc := 49) dX12_goesNight_49 rfl rfl ?_
    refine bz_iconst (pc := 50) dX12_goesNight_50 ci_0 ?_
    refine bz_rw_wI (pc := 51) dX12_goesNight_51 fl_X12_323 (fun q h9 => by cases h9; rfl) rfl hP4 (fun h_4 hP5 => ?_)
    clear hP4
    refine bz_aload_n (pc := 54) dX12_goesNight_54 rfl rfl ?_
    refine bz_iconst (pc := 55) dX12_goesNight_55 ci_0 ?_
    refine bz_rw_wI (pc := 56) dX12_goesNight_56 fl_X12_326 (fun q h9 => by cases h9; rfl) rfl hP5 (fun h_5 hP6 => ?_)
    clear hP5
    refine bz_iconst (pc := 59) dX12_goesNight_59 ci_0 ?_
    refine bz_s_istore_n (pc := 60) dX12_goesNight_60 rfl (Nat.le_of_ble_eq_true rfl) [some (.inr (some a0)), some (.inl x1), some (.inl 0), u3] rfl ?_
    exact hP6
  · have hP7 := hP3.2 c
    clear hP3
    refine bz_aload_n (pc := 12) dX12_goesNight_12 rfl rfl ?_
    refine bz_rw_rR (pc := 13) dX12_goesNight_13 fl_X12_40 hP7 (fun r_6 hP8 => ?_)
    clear hP7
    refine bz_iload_n (pc := 16) dX12_goesNight_16 rfl rfl ?_
    refine bz_aload_n (pc := 17) dX12_goesNight_17 rfl rfl ?_
    refine bz_iload_n (pc := 18) dX12_goesNight_18 rfl rfl ?_
    refine bz_iconst (pc := 19) dX12_goesNight_19 ci_4 ?_
    refine bz_kIV (as := [.inl x2, .inl 4]) (st := [.inl x2, .inr r_6]) (ci := 12) (n := 2) (mc := 0) (ms := 0) (bc := bc) (bs := bs) (yc := kX12_ofRider) (q := (RX12, TX12, 34)) (b := a0) (pc := 20) dX12_goesNight_20 sc_X12_ofRider ml_X12_136 im_X12_ofRider se_X12_ofRider rfl rfl rfl (Nat.le_of_ble_eq_true rfl) hP8 (fun x_7 h_8 hP9 => ?_)
    clear hP8
    obtain ⟨a_9, rfl, hP10⟩ := hP9
    refine bz_rw_wA (pc := 23) dX12_goesNight_23 hP10 (fun h_10 hP11 => ?_)
    clear hP10
    refine bz_aload_n (pc := 24) dX12_goesNight_24 rfl rfl ?_
    refine bz_rw_rR (pc := 25) dX12_goesNight_25 fl_X12_43 hP11 (fun r_11 hP12 => ?_)
    clear hP11
    refine bz_iload_n (pc := 28) dX12_goesNight_28 rfl rfl ?_
    refine bz_aload_n (pc := 29) dX12_goesNight_29 rfl rfl ?_
    refine bz_iload_n (pc := 30) dX12_goesNight_30 rfl rfl ?_
    refine bz_iconst (pc := 31) dX12_goesNight_31 ci_5 ?_
    refine bz_kIV (as := [.inl x2, .inl 5]) (st := [.inl x2, .inr r_11]) (ci := 12) (n := 2) (mc := 0) (ms := 0) (bc := bc) (bs := bs) (yc := kX12_ofRider) (q := (RX12, TX12, 34)) (b := a0) (pc := 32) dX12_goesNight_32 sc_X12_ofRider ml_X12_136 im_X12_ofRider se_X12_ofRider rfl rfl rfl (Nat.le_of_ble_eq_true rfl) hP12 (fun x_12 h_13 hP13 => ?_)
    clear hP12
    obtain ⟨a_14, rfl, hP14⟩ := hP13
    refine bz_rw_wA (pc := 35) dX12_goesNight_35 hP14 (fun h_15 hP15 => ?_)
    clear hP14
    refine bz_aload_n (pc := 36) dX12_goesNight_36 rfl rfl ?_
    refine bz_rw_rR (pc := 37) dX12_goesNight_37 fl_X12_46 hP15 (fun r_16 hP16 => ?_)
    clear hP15
    refine bz_iload_n (pc := 40) dX12_goesNight_40 rfl rfl ?_
    refine bz_iconst (pc := 41) dX12_goesNight_41 ci_0 ?_
    obtain ⟨a_17, rfl, hP17⟩ := hP16
    refine bz_rw_wA (pc := 42) dX12_goesNight_42 hP17 (fun h_18 hP18 => ?_)
    clear hP17
    refine bz_s_iinc (pc := 43) dX12_goesNight_43 (Nat.le_of_ble_eq_true rfl) rfl rfl [some (.inr (some a0)), some (.inl x1), some (.inl (x2 + 1)), u3] rfl ?_
    refine bz_goto (tgt := 2) (pc := 46) dX12_goesNight_46 rfl ?_
    exact hP18
def w_X12_goesNight_61 (G : bz_G) (κ : bz_K) (l : Launch) (d : Nat) (F : Option bz_V → bz_H → Prop) (bc bs : Nat) (a0 : Nat) (x1 : Int32) (x2 : Int32) (u3 : Option bz_V) (h : bz_H) : Prop := bz_rR h a0 12 0 (fun r_19 => bz_nn r_19 (fun a_20 => bz_rA h a_20 2 (fun x_21 => (x_21 ≤ x2 → F none h) ∧ (¬ (x_21 ≤ x2) → bz_rR h a0 12 27 (fun r_22 => bz_rc h a0 12 (bz_cI G l d kX12_ofOrder [.inr (some a0), .inl x2, .inl 5] h 0 0 (fun x_23 h_24 => (¬ x_23 = 2 → bz_rc h_24 a0 12 (bz_cI G l d kX12_nightRider [.inr (some a0), .inl x1, .inl x2] h_24 0 0 (fun x_25 h_26 => bz_J G κ kX12_goesNight (d + 1) F bc bs 96 [some (.inr (some a0)), some (.inl x1), some (.inl x2), u3] [.inl x_25, .inl x2, .inr r_22] h_26))) ∧ (x_23 = 2 → bz_J G κ kX12_goesNight (d + 1) F bc bs 96 [some (.inr (some a0)), some (.inl x1), some (.inl x2), u3] [.inl (-1), .inl x2, .inr r_22] h_24))))))))
set_option maxRecDepth 20000 in
set_option maxHeartbeats 4000000 in
theorem g_X12_goesNight_61 {G : bz_G} {κ : bz_K} {l : Launch} {d : Nat} {F : Option bz_V → bz_H → Prop} {bc bs : Nat} (hl : κ.2.1 = l) (a0 : Nat) (x1 : Int32) (x2 : Int32) (u3 : Option bz_V) (h : bz_H) (hP0 : w_X12_goesNight_61 G κ l d F bc bs a0 x1 x2 u3 h) : bz_J G κ kX12_goesNight (d + 1) F bc bs 61 [some (.inr (some a0)), some (.inl x1), some (.inl x2), u3] [] h := by
  subst hl
  unfold w_X12_goesNight_61 at hP0
  refine bz_iload_n (pc := 61) dX12_goesNight_61 rfl rfl ?_
  refine bz_aload_n (pc := 62) dX12_goesNight_62 rfl rfl ?_
  refine bz_rw_rR (pc := 63) dX12_goesNight_63 fl_X12_7 hP0 (fun r_19 hP1 => ?_)
  clear hP0
  refine bz_iconst (pc := 66) dX12_goesNight_66 ci_2 ?_
  obtain ⟨a_20, rfl, hP2⟩ := hP1
  refine bz_rw_rA (pc := 67) dX12_goesNight_67 hP2 (fun x_21 hP3 => ?_)
  clear hP2
  refine bz_icmp_ge (tgt := 209) (pc := 68) dX12_goesNight_68 rfl (fun c => ?_) (fun c => ?_)
  · have hP4 := hP3.1 c
    clear hP3
    exact bz_retV (pc := 209) dX12_goesNight_209 rfl hP4
  · have hP5 := hP3.2 c
    clear hP3
    refine bz_aload_n (pc := 71) dX12_goesNight_71 rfl rfl ?_
    refine bz_rw_rR (pc := 72) dX12_goesNight_72 fl_X12_49 hP5 (fun r_22 hP6 => ?_)
    clear hP5
    refine bz_iload_n (pc := 75) dX12_goesNight_75 rfl rfl ?_
    refine bz_aload_n (pc := 76) dX12_goesNight_76 rfl rfl ?_
    refine bz_iload_n (pc := 77) dX12_goesNight_77 rfl rfl ?_
    refine bz_iconst (pc := 78) dX12_goesNight_78 ci_5 ?_
    refine bz_kIV (as := [.inl x2, .inl 5]) (st := [.inl x2, .inr r_22]) (ci := 12) (n := 2) (mc := 0) (ms := 0) (bc := bc) (bs := bs) (yc := kX12_ofOrder) (q := (RX12, TX12, 34)) (b := a0) (pc := 79) dX12_goesNight_79 sc_X12_ofOrder ml_X12_99 im_X12_ofOrder se_X12_ofOrder rfl rfl rfl (Nat.le_of_ble_eq_true rfl) hP6 (fun x_23 h_24 hP7 => ?_)
    clear hP6
    refine bz_iconst (pc := 82) dX12_goesNight_82 ci_2 ?_
    refine bz_icmp_ne (tgt := 90) (pc := 83) dX12_goesNight_83 rfl (fun c => ?_) (fun c => ?_)
    · have hP8 := hP7.1 c
      clear hP7
      refine bz_aload_n (pc := 90) dX12_goesNight_90 rfl rfl ?_
      refine bz_iload_n (pc := 91) dX12_goesNight_91 rfl rfl ?_
      refine bz_iload_n (pc := 92) dX12_goesNight_92 rfl rfl ?_
      refine bz_kIV (as := [.inl x1, .inl x2]) (st := [.inl x2, .inr r_22]) (ci := 12) (n := 2) (mc := 0) (ms := 0) (bc := bc) (bs := bs) (yc := kX12_nightRider) (q := (RX12, TX12, 34)) (b := a0) (pc := 93) dX12_goesNight_93 sc_X12_nightRider ml_X12_329 im_X12_nightRider se_X12_nightRider rfl rfl rfl (Nat.le_of_ble_eq_true rfl) hP8 (fun x_25 h_26 hP9 => ?_)
      clear hP8
      exact hP9
    · have hP10 := hP7.2 c
      clear hP7
      refine bz_iconst (pc := 86) dX12_goesNight_86 ci_m1 ?_
      refine bz_goto (tgt := 96) (pc := 87) dX12_goesNight_87 rfl ?_
      exact hP10
def w_X12_goesNight_96 (G : bz_G) (κ : bz_K) (l : Launch) (d : Nat) (F : Option bz_V → bz_H → Prop) (bc bs : Nat) (a0 : Nat) (x1 : Int32) (x2 : Int32) (u3 : Option bz_V) (y0 : Int32) (y1 : Int32) (q2 : Option Nat) (h : bz_H) : Prop := bz_nn q2 (fun a_27 => bz_wA h a_27 y1 y0 (fun h_28 => bz_rR h_28 a0 12 27 (fun r_29 => bz_nn r_29 (fun a_30 => bz_rA h_28 a_30 x2 (fun x_31 => (x_31 < 0 → bz_J G κ kX12_goesNight (d + 1) F bc bs 61 [some (.inr (some a0)), some (.inl x1), some (.inl (x2 + 1)), u3] [] h_28) ∧ (¬ (x_31 < 0) → bz_rR h_28 a0 12 27 (fun r_32 => bz_nn r_32 (fun a_33 => bz_rA h_28 a_33 x2 (fun x_34 => bz_rc h_28 a0 12 (bz_cI G l d kX12_nightTrip [.inr (some a0), .inl x_34, .inl x2] h_28 0 0 (fun x_35 h_36 => (x_35 = 0 → bz_J G κ kX12_goesNight (d + 1) F bc bs 61 [some (.inr (some a0)), some (.inl x1), some (.inl (x2 + 1)), u3] [] h_36) ∧ (¬ (x_35 = 0) → bz_rR h_36 a0 12 27 (fun r_37 => bz_nn r_37 (fun a_38 => bz_rA h_36 a_38 x2 (fun x_39 => bz_rR h_36 a0 12 24 (fun r_40 => bz_rI h_36 a0 12 6 (fun x_41 => bz_nn r_40 (fun a_42 => bz_wA h_36 a_42 x_39 x_41 (fun h_43 => bz_rR h_43 a0 12 25 (fun r_44 => bz_rI h_43 a0 12 7 (fun x_45 => bz_nn r_44 (fun a_46 => bz_wA h_43 a_46 x_39 x_45 (fun h_47 => bz_rR h_47 a0 12 26 (fun r_48 => bz_nn r_48 (fun a_49 => bz_rA h_47 a_49 x_39 (fun x_50 => bz_wA h_47 a_49 x_39 (x_50 + 1) (fun h_51 => bz_rI h_51 a0 12 28 (fun x_52 => bz_rR h_51 a0 12 10 (fun r_53 => bz_nn r_53 (fun a_54 => bz_rA h_51 a_54 0 (fun x_55 => bz_rc h_51 a0 12 (bz_cI G l d kX12_lateBy [.inr (some a0), .inl x2, .inl x_55] h_51 0 0 (fun x_56 h_57 => bz_wI h_57 a0 12 28 (x_52 + x_56) (fun h_58 => bz_rI h_58 a0 12 7 (fun x_59 => bz_rI h_58 a0 12 29 (fun x_60 => (x_59 ≤ x_60 → bz_rI h_58 a0 12 29 (fun x_61 => bz_wI h_58 a0 12 29 x_61 (fun h_62 => bz_J G κ kX12_goesNight (d + 1) F bc bs 61 [some (.inr (some a0)), some (.inl x1), some (.inl (x2 + 1)), some (.inl x_39)] [] h_62))) ∧ (¬ (x_59 ≤ x_60) → bz_rI h_58 a0 12 7 (fun x_63 => bz_wI h_58 a0 12 29 x_63 (fun h_64 => bz_J G κ kX12_goesNight (d + 1) F bc bs 61 [some (.inr (some a0)), some (.inl x1), some (.inl (x2 + 1)), some (.inl x_39)] [] h_64)))))))))))))))))))))))))))))))))))))))
set_option maxRecDepth 20000 in
set_option maxHeartbeats 4000000 in
theorem g_X12_goesNight_96 {G : bz_G} {κ : bz_K} {l : Launch} {d : Nat} {F : Option bz_V → bz_H → Prop} {bc bs : Nat} (hl : κ.2.1 = l) (a0 : Nat) (x1 : Int32) (x2 : Int32) (u3 : Option bz_V) (y0 : Int32) (y1 : Int32) (q2 : Option Nat) (h : bz_H) (hP0 : w_X12_goesNight_96 G κ l d F bc bs a0 x1 x2 u3 y0 y1 q2 h) : bz_J G κ kX12_goesNight (d + 1) F bc bs 96 [some (.inr (some a0)), some (.inl x1), some (.inl x2), u3] [.inl y0, .inl y1, .inr q2] h := by
  subst hl
  unfold w_X12_goesNight_96 at hP0
  obtain ⟨a_27, rfl, hP1⟩ := hP0
  refine bz_rw_wA (pc := 96) dX12_goesNight_96 hP1 (fun h_28 hP2 => ?_)
  clear hP1
  refine bz_aload_n (pc := 97) dX12_goesNight_97 rfl rfl ?_
  refine bz_rw_rR (pc := 98) dX12_goesNight_98 fl_X12_49 hP2 (fun r_29 hP3 => ?_)
  clear hP2
  refine bz_iload_n (pc := 101) dX12_goesNight_101 rfl rfl ?_
  obtain ⟨a_30, rfl, hP4⟩ := hP3
  refine bz_rw_rA (pc := 102) dX12_goesNight_102 hP4 (fun x_31 hP5 => ?_)
  clear hP4
  refine bz_if_lt (tgt := 203) (pc := 103) dX12_goesNight_103 rfl (fun c => ?_) (fun c => ?_)
  · have hP6 := hP5.1 c
    clear hP5
    refine bz_s_iinc (pc := 203) dX12_goesNight_203 (Nat.le_of_ble_eq_true rfl) rfl rfl [some (.inr (some a0)), some (.inl x1), some (.inl (x2 + 1)), u3] rfl ?_
    refine bz_goto (tgt := 61) (pc := 206) dX12_goesNight_206 rfl ?_
    exact hP6
  · have hP7 := hP5.2 c
    clear hP5
    refine bz_aload_n (pc := 106) dX12_goesNight_106 rfl rfl ?_
    refine bz_aload_n (pc := 107) dX12_goesNight_107 rfl rfl ?_
    refine bz_rw_rR (pc := 108) dX12_goesNight_108 fl_X12_49 hP7 (fun r_32 hP8 => ?_)
    clear hP7
    refine bz_iload_n (pc := 111) dX12_goesNight_111 rfl rfl ?_
    obtain ⟨a_33, rfl, hP9⟩ := hP8
    refine bz_rw_rA (pc := 112) dX12_goesNight_112 hP9 (fun x_34 hP10 => ?_)
    clear hP9
    refine bz_iload_n (pc := 113) dX12_goesNight_113 rfl rfl ?_
    refine bz_kIV (as := [.inl x_34, .inl x2]) (st := []) (ci := 12) (n := 2) (mc := 0) (ms := 0) (bc := bc) (bs := bs) (yc := kX12_nightTrip) (q := (RX12, TX12, 34)) (b := a0) (pc := 114) dX12_goesNight_114 sc_X12_nightTrip ml_X12_320 im_X12_nightTrip se_X12_nightTrip rfl rfl rfl (Nat.le_of_ble_eq_true rfl) hP10 (fun x_35 h_36 hP11 => ?_)
    clear hP10
    refine bz_if_eq (tgt := 203) (pc := 117) dX12_goesNight_117 rfl (fun c => ?_) (fun c => ?_)
    · have hP12 := hP11.1 c
      clear hP11
      refine bz_s_iinc (pc := 203) dX12_goesNight_203 (Nat.le_of_ble_eq_true rfl) rfl rfl [some (.inr (some a0)), some (.inl x1), some (.inl (x2 + 1)), u3] rfl ?_
      refine bz_goto (tgt := 61) (pc := 206) dX12_goesNight_206 rfl ?_
      exact hP12
    · have hP13 := hP11.2 c
      clear hP11
      refine bz_aload_n (pc := 120) dX12_goesNight_120 rfl rfl ?_
      refine bz_rw_rR (pc := 121) dX12_goesNight_121 fl_X12_49 hP13 (fun r_37 hP14 => ?_)
      clear hP13
      refine bz_iload_n (pc := 124) dX12_goesNight_124 rfl rfl ?_
      obtain ⟨a_38, rfl, hP15⟩ := hP14
      refine bz_rw_rA (pc := 125) dX12_goesNight_125 hP15 (fun x_39 hP16 => ?_)
      clear hP15
      refine bz_s_istore_n (pc := 126) dX12_goesNight_126 rfl (Nat.le_of_ble_eq_true rfl) [some (.inr (some a0)), some (.inl x1), some (.inl x2), some (.inl x_39)] rfl ?_
      refine bz_aload_n (pc := 127) dX12_goesNight_127 rfl rfl ?_
      refine bz_rw_rR (pc := 128) dX12_goesNight_128 fl_X12_40 hP16 (fun r_40 hP17 => ?_)
      clear hP16
      refine bz_iload_n (pc := 131) dX12_goesNight_131 rfl rfl ?_
      refine bz_aload_n (pc := 132) dX12_goesNight_132 rfl rfl ?_
      refine bz_rw_rI (pc := 133) dX12_goesNight_133 fl_X12_163 hP17 (fun x_41 hP18 => ?_)
      clear hP17
      obtain ⟨a_42, rfl, hP19⟩ := hP18
      refine bz_rw_wA (pc := 136) dX12_goesNight_136 hP19 (fun h_43 hP20 => ?_)
      clear hP19
      refine bz_aload_n (pc := 137) dX12_goesNight_137 rfl rfl ?_
      refine bz_rw_rR (pc := 138) dX12_goesNight_138 fl_X12_43 hP20 (fun r_44 hP21 => ?_)
      clear hP20
      refine bz_iload_n (pc := 141) dX12_goesNight_141 rfl rfl ?_
      refine bz_aload_n (pc := 142) dX12_goesNight_142 rfl rfl ?_
      refine bz_rw_rI (pc := 143) dX12_goesNight_143 fl_X12_167 hP21 (fun x_45 hP22 => ?_)
      clear hP21
      obtain ⟨a_46, rfl, hP23⟩ := hP22
      refine bz_rw_wA (pc := 146) dX12_goesNight_146 hP23 (fun h_47 hP24 => ?_)
      clear hP23
      refine bz_aload_n (pc := 147) dX12_goesNight_147 rfl rfl ?_
      refine bz_rw_rR (pc := 148) dX12_goesNight_148 fl_X12_46 hP24 (fun r_48 hP25 => ?_)
      clear hP24
      refine bz_iload_n (pc := 151) dX12_goesNight_151 rfl rfl ?_
      refine bz_dup2 (pc := 152) dX12_goesNight_152 ?_
      obtain ⟨a_49, rfl, hP26⟩ := hP25
      refine bz_rw_rA (pc := 153) dX12_goesNight_153 hP26 (fun x_50 hP27 => ?_)
      clear hP26
      refine bz_iconst (pc := 154) dX12_goesNight_154 ci_1 ?_
      refine bz_iadd (pc := 155) dX12_goesNight_155 ?_
      refine bz_rw_wA (pc := 156) dX12_goesNight_156 hP27 (fun h_51 hP28 => ?_)
      clear hP27
      refine bz_aload_n (pc := 157) dX12_goesNight_157 rfl rfl ?_
      refine bz_dup (pc := 158) dX12_goesNight_158 ?_
      refine bz_rw_rI (pc := 159) dX12_goesNight_159 fl_X12_323 hP28 (fun x_52 hP29 => ?_)
      clear hP28
      refine bz_aload_n (pc := 162) dX12_goesNight_162 rfl rfl ?_
      refine bz_iload_n (pc := 163) dX12_goesNight_163 rfl rfl ?_
      refine bz_aload_n (pc := 164) dX12_goesNight_164 rfl rfl ?_
      refine bz_rw_rR (pc := 165) dX12_goesNight_165 fl_X12_25 hP29 (fun r_53 hP30 => ?_)
      clear hP29
      refine bz_iconst (pc := 168) dX12_goesNight_168 ci_0 ?_
      obtain ⟨a_54, rfl, hP31⟩ := hP30
      refine bz_rw_rA (pc := 169) dX12_goesNight_169 hP31 (fun x_55 hP32 => ?_)
      clear hP31
      refine bz_kIV (as := [.inl x2, .inl x_55]) (st := [.inl x_52, .inr (some a0)]) (ci := 12) (n := 2) (mc := 0) (ms := 0) (bc := bc) (bs := bs) (yc := kX12_lateBy) (q := (RX12, TX12, 34)) (b := a0) (pc := 170) dX12_goesNight_170 sc_X12_lateBy ml_X12_102 im_X12_lateBy se_X12_lateBy rfl rfl rfl (Nat.le_of_ble_eq_true rfl) hP32 (fun x_56 h_57 hP33 => ?_)
      clear hP32
      refine bz_iadd (pc := 173) dX12_goesNight_173 ?_
      refine bz_rw_wI (pc := 174) dX12_goesNight_174 fl_X12_323 (fun q h9 => by cases h9; rfl) rfl hP33 (fun h_58 hP34 => ?_)
      clear hP33
      refine bz_aload_n (pc := 177) dX12_goesNight_177 rfl rfl ?_
      refine bz_aload_n (pc := 178) dX12_goesNight_178 rfl rfl ?_
      refine bz_rw_rI (pc := 179) dX12_goesNight_179 fl_X12_167 hP34 (fun x_59 hP35 => ?_)
      clear hP34
      refine bz_aload_n (pc := 182) dX12_goesNight_182 rfl rfl ?_
      refine bz_rw_rI (pc := 183) dX12_goesNight_183 fl_X12_326 hP35 (fun x_60 hP36 => ?_)
      clear hP35
      refine bz_icmp_le (tgt := 196) (pc := 186) dX12_goesNight_186 rfl (fun c => ?_) (fun c => ?_)
      · have hP37 := hP36.1 c
        clear hP36
        refine bz_aload_n (pc := 196) dX12_goesNight_196 rfl rfl ?_
        refine bz_rw_rI (pc := 197) dX12_goesNight_197 fl_X12_326 hP37 (fun x_61 hP38 => ?_)
        clear hP37
        refine bz_rw_wI (pc := 200) dX12_goesNight_200 fl_X12_326 (fun q h9 => by cases h9; rfl) rfl hP38 (fun h_62 hP39 => ?_)
        clear hP38
        refine bz_s_iinc (pc := 203) dX12_goesNight_203 (Nat.le_of_ble_eq_true rfl) rfl rfl [some (.inr (some a0)), some (.inl x1), some (.inl (x2 + 1)), some (.inl x_39)] rfl ?_
        refine bz_goto (tgt := 61) (pc := 206) dX12_goesNight_206 rfl ?_
        exact hP39
      · have hP40 := hP36.2 c
        clear hP36
        refine bz_aload_n (pc := 189) dX12_goesNight_189 rfl rfl ?_
        refine bz_rw_rI (pc := 190) dX12_goesNight_190 fl_X12_167 hP40 (fun x_63 hP41 => ?_)
        clear hP40
        refine bz_goto (tgt := 200) (pc := 193) dX12_goesNight_193 rfl ?_
        refine bz_rw_wI (pc := 200) dX12_goesNight_200 fl_X12_326 (fun q h9 => by cases h9; rfl) rfl hP41 (fun h_64 hP42 => ?_)
        clear hP41
        refine bz_s_iinc (pc := 203) dX12_goesNight_203 (Nat.le_of_ble_eq_true rfl) rfl rfl [some (.inr (some a0)), some (.inl x1), some (.inl (x2 + 1)), some (.inl x_39)] rfl ?_
        refine bz_goto (tgt := 61) (pc := 206) dX12_goesNight_206 rfl ?_
        exact hP42
theorem m_X12_goesNight {G : bz_G} {l : Launch} {d mc ms : Nat} {F : Option bz_V → bz_H → Prop} (a0 : Nat) (x1 : Int32) (h : bz_H) (hP : ∀ (κ : bz_K) (bc bs : Nat), κ.2.1 = l → w_X12_goesNight_0 G κ l d F bc bs a0 x1 h) : bz_Call G l (d + 1) kX12_goesNight [.inr (some a0), .inl x1] h mc ms F :=
  bz_body (by decide) (Nat.le_of_ble_eq_true rfl) (fun κ hl => g_X12_goesNight_0 hl a0 x1 h (hP κ mc ms hl))
def w_X12_goesOf_0 (G : bz_G) (l : Launch) (d : Nat) (F : Option bz_V → bz_H → Prop) (a0 : Nat) (x1 : Int32) (x2 : Int32) (x3 : Int32) (h : bz_H) : Prop := bz_rc h a0 12 (bz_cI G l d kX12_wayOf [.inr (some a0), .inl x2, .inl x3] h 0 0 (fun x_1 h_2 => bz_cI G l d kX12_minutesFor [.inl x1, .inl x_1] h_2 0 0 (fun x_3 h_4 => F (some (.inl x_3)) h_4)))
set_option maxRecDepth 20000 in
set_option maxHeartbeats 4000000 in
theorem g_X12_goesOf_0 {G : bz_G} {κ : bz_K} {l : Launch} {d : Nat} {F : Option bz_V → bz_H → Prop} {bc bs : Nat} (hl : κ.2.1 = l) (a0 : Nat) (x1 : Int32) (x2 : Int32) (x3 : Int32) (h : bz_H) (hP0 : w_X12_goesOf_0 G l d F a0 x1 x2 x3 h) : bz_J G κ kX12_goesOf (d + 1) F bc bs 0 [some (.inr (some a0)), some (.inl x1), some (.inl x2), some (.inl x3)] [] h := by
  subst hl
  unfold w_X12_goesOf_0 at hP0
  refine bz_iload_n (pc := 0) dX12_goesOf_0 rfl rfl ?_
  refine bz_aload_n (pc := 1) dX12_goesOf_1 rfl rfl ?_
  refine bz_iload_n (pc := 2) dX12_goesOf_2 rfl rfl ?_
  refine bz_iload_n (pc := 3) dX12_goesOf_3 rfl rfl ?_
  refine bz_kIV (as := [.inl x2, .inl x3]) (st := [.inl x1]) (ci := 12) (n := 2) (mc := 0) (ms := 0) (bc := bc) (bs := bs) (yc := kX12_wayOf) (q := (RX12, TX12, 34)) (b := a0) (pc := 4) dX12_goesOf_4 sc_X12_wayOf ml_X12_96 im_X12_wayOf se_X12_wayOf rfl rfl rfl (Nat.le_of_ble_eq_true rfl) hP0 (fun x_1 h_2 hP1 => ?_)
  clear hP0
  refine bz_kIS (as := [.inl x1, .inl x_1]) (st := []) (n := 2) (mc := 0) (ms := 0) (bc := bc) (bs := bs) (yc := kX12_minutesFor) (pc := 7) dX12_goesOf_7 sc_X12_minutesFor ml_X12_154 ss_X12_minutesFor rfl (Nat.le_of_ble_eq_true rfl) hP1 (fun x_3 h_4 hP2 => ?_)
  clear hP1
  exact bz_retI (pc := 10) dX12_goesOf_10 rfl rfl hP2
theorem m_X12_goesOf {G : bz_G} {l : Launch} {d mc ms : Nat} {F : Option bz_V → bz_H → Prop} (a0 : Nat) (x1 : Int32) (x2 : Int32) (x3 : Int32) (h : bz_H) (hP : w_X12_goesOf_0 G l d F a0 x1 x2 x3 h) : bz_Call G l (d + 1) kX12_goesOf [.inr (some a0), .inl x1, .inl x2, .inl x3] h mc ms F :=
  bz_body (by decide) (Nat.le_of_ble_eq_true rfl) (fun κ hl => g_X12_goesOf_0 hl a0 x1 x2 x3 h hP)
def w_X12_goesWay_0 (G : bz_G) (κ : bz_K) (l : Launch) (d : Nat) (F : Option bz_V → bz_H → Prop) (bc bs : Nat) (a0 : Nat) (x1 : Int32) (x2 : Int32) (x3 : Int32) (x4 : Int32) (h : bz_H) : Prop := bz_rc h a0 12 (bz_cI G l d kX12_ofRider [.inr (some a0), .inl x1, .inl 0] h 0 0 (fun x_1 h_2 => bz_rc h_2 a0 12 (bz_cI G l d kX12_ofRider [.inr (some a0), .inl x1, .inl 1] h_2 0 0 (fun x_3 h_4 => bz_rc h_4 a0 12 (bz_cI G l d kX12_beginsAt [.inr (some a0), .inl x1] h_4 0 0 (fun x_5 h_6 => bz_rc h_6 a0 12 (bz_cV G l d kX12_begin [.inr (some a0), .inl x_3, .inl x_5] h_6 0 0 (fun h_8 => bz_J G κ kX12_goesWay (d + 1) F bc bs 26 [some (.inr (some a0)), some (.inl x1), some (.inl x2), some (.inl x3), some (.inl x4), some (.inl x_1), some (.inl 0), none, none] [] h_8))))))))
set_option maxRecDepth 20000 in
set_option maxHeartbeats 4000000 in
theorem g_X12_goesWay_0 {G : bz_G} {κ : bz_K} {l : Launch} {d : Nat} {F : Option bz_V → bz_H → Prop} {bc bs : Nat} (hl : κ.2.1 = l) (a0 : Nat) (x1 : Int32) (x2 : Int32) (x3 : Int32) (x4 : Int32) (h : bz_H) (hP0 : w_X12_goesWay_0 G κ l d F bc bs a0 x1 x2 x3 x4 h) : bz_J G κ kX12_goesWay (d + 1) F bc bs 0 [some (.inr (some a0)), some (.inl x1), some (.inl x2), some (.inl x3), some (.inl x4), none, none, none, none] [] h := by
  subst hl
  unfold w_X12_goesWay_0 at hP0
  refine bz_aload_n (pc := 0) dX12_goesWay_0 rfl rfl ?_
  refine bz_iload_n (pc := 1) dX12_goesWay_1 rfl rfl ?_
  refine bz_iconst (pc := 2) dX12_goesWay_2 ci_0 ?_
  refine bz_kIV (as := [.inl x1, .inl 0]) (st := []) (ci := 12) (n := 2) (mc := 0) (ms := 0) (bc := bc) (bs := bs) (yc := kX12_ofRider) (q := (RX12, TX12, 34)) (b := a0) (pc := 3) dX12_goesWay_3 sc_X12_ofRider ml_X12_136 im_X12_ofRider se_X12_ofRider rfl rfl rfl (Nat.le_of_ble_eq_true rfl) hP0 (fun x_1 h_2 hP1 => ?_)
  clear hP0
  refine bz_s_istore (pc := 6) dX12_goesWay_6 (Nat.le_of_ble_eq_true rfl) [some (.inr (some a0)), some (.inl x1), some (.inl x2), some (.inl x3), some (.inl x4), some (.inl x_1), none, none, none] rfl ?_
  refine bz_aload_n (pc := 8) dX12_goesWay_8 rfl rfl ?_
  refine bz_aload_n (pc := 9) dX12_goesWay_9 rfl rfl ?_
  refine bz_iload_n (pc := 10) dX12_goesWay_10 rfl rfl ?_
  refine bz_iconst (pc := 11) dX12_goesWay_11 ci_1 ?_
  refine bz_kIV (as := [.inl x1, .inl 1]) (st := [.inr (some a0)]) (ci := 12) (n := 2) (mc := 0) (ms := 0) (bc := bc) (bs := bs) (yc := kX12_ofRider) (q := (RX12, TX12, 34)) (b := a0) (pc := 12) dX12_goesWay_12 sc_X12_ofRider ml_X12_136 im_X12_ofRider se_X12_ofRider rfl rfl rfl (Nat.le_of_ble_eq_true rfl) hP1 (fun x_3 h_4 hP2 => ?_)
  clear hP1
  refine bz_aload_n (pc := 15) dX12_goesWay_15 rfl rfl ?_
  refine bz_iload_n (pc := 16) dX12_goesWay_16 rfl rfl ?_
  refine bz_kIV (as := [.inl x1]) (st := [.inl x_3, .inr (some a0)]) (ci := 12) (n := 1) (mc := 0) (ms := 0) (bc := bc) (bs := bs) (yc := kX12_beginsAt) (q := (RX12, TX12, 34)) (b := a0) (pc := 17) dX12_goesWay_17 sc_X12_beginsAt ml_X12_187 im_X12_beginsAt se_X12_beginsAt rfl rfl rfl (Nat.le_of_ble_eq_true rfl) hP2 (fun x_5 h_6 hP3 => ?_)
  clear hP2
  refine bz_kVV (as := [.inl x_3, .inl x_5]) (st := []) (ci := 12) (n := 2) (mc := 0) (ms := 0) (bc := bc) (bs := bs) (yc := kX12_begin) (q := (RX12, TX12, 34)) (b := a0) (pc := 20) dX12_goesWay_20 sc_X12_begin ml_X12_177 im_X12_begin se_X12_begin rfl rfl rfl (Nat.le_of_ble_eq_true rfl) hP3 (fun h_8 hP4 => ?_)
  clear hP3
  refine bz_iconst (pc := 23) dX12_goesWay_23 ci_0 ?_
  refine bz_s_istore (pc := 24) dX12_goesWay_24 (Nat.le_of_ble_eq_true rfl) [some (.inr (some a0)), some (.inl x1), some (.inl x2), some (.inl x3), some (.inl x4), some (.inl x_1), some (.inl 0), none, none] rfl ?_
  exact hP4
def w_X12_goesWay_26 (G : bz_G) (κ : bz_K) (l : Launch) (d : Nat) (F : Option bz_V → bz_H → Prop) (bc bs : Nat) (a0 : Nat) (x1 : Int32) (x2 : Int32) (x3 : Int32) (x4 : Int32) (x5 : Int32) (x6 : Int32) (u7 : Option bz_V) (u8 : Option bz_V) (h : bz_H) : Prop := (4 ≤ x6 → bz_rI h a0 12 8 (fun x_9 => (x_9 = 0 → F (some (.inl 0)) h) ∧ (¬ (x_9 = 0) → bz_rI h a0 12 7 (fun x_10 => F (some (.inl (if 1439 < x_10 then 0 else 1))) h)))) ∧ (¬ (4 ≤ x6) → bz_cI G l d kX12_stepOf [.inl x4, .inl x6] h 0 0 (fun x_11 h_12 => (2 ≤ x_11 → bz_rc h_12 a0 12 (bz_cV G l d kX12_bring [.inr (some a0), .inl x5, .inl (if (x_11 - x_11 / 2 * 2) = 0 then x2 else x3), .inl (x_11 - 2)] h_12 0 0 (fun h_14 => bz_J G κ kX12_goesWay (d + 1) F bc bs 26 [some (.inr (some a0)), some (.inl x1), some (.inl x2), some (.inl x3), some (.inl x4), some (.inl x5), some (.inl (x6 + 1)), some (.inl x_11), some (.inl (if (x_11 - x_11 / 2 * 2) = 0 then x2 else x3))] [] h_14))) ∧ (¬ (2 ≤ x_11) → bz_rc h_12 a0 12 (bz_cV G l d kX12_pickUp [.inr (some a0), .inl x5, .inl (if (x_11 - x_11 / 2 * 2) = 0 then x2 else x3), .inl x_11] h_12 0 0 (fun h_16 => bz_J G κ kX12_goesWay (d + 1) F bc bs 26 [some (.inr (some a0)), some (.inl x1), some (.inl x2), some (.inl x3), some (.inl x4), some (.inl x5), some (.inl (x6 + 1)), some (.inl x_11), some (.inl (if (x_11 - x_11 / 2 * 2) = 0 then x2 else x3))] [] h_16)))))
set_option maxRecDepth 20000 in
set_option maxHeartbeats 4000000 in
theorem g_X12_goesWay_26 {G : bz_G} {κ : bz_K} {l : Launch} {d : Nat} {F : Option bz_V → bz_H → Prop} {bc bs : Nat} (hl : κ.2.1 = l) (a0 : Nat) (x1 : Int32) (x2 : Int32) (x3 : Int32) (x4 : Int32) (x5 : Int32) (x6 : Int32) (u7 : Option bz_V) (u8 : Option bz_V) (h : bz_H) (hP0 : w_X12_goesWay_26 G κ l d F bc bs a0 x1 x2 x3 x4 x5 x6 u7 u8 h) : bz_J G κ kX12_goesWay (d + 1) F bc bs 26 [some (.inr (some a0)), some (.inl x1), some (.inl x2), some (.inl x3), some (.inl x4), some (.inl x5), some (.inl x6), u7, u8] [] h := by
  subst hl
  unfold w_X12_goesWay_26 at hP0
  refine bz_iload (pc := 26) dX12_goesWay_26 rfl ?_
  refine bz_iconst (pc := 28) dX12_goesWay_28 ci_4 ?_
  refine bz_icmp_ge (tgt := 92) (pc := 29) dX12_goesWay_29 rfl (fun c => ?_) (fun c => ?_)
  · have hP1 := hP0.1 c
    clear hP0
    refine bz_aload_n (pc := 92) dX12_goesWay_92 rfl rfl ?_
    refine bz_rw_rI (pc := 93) dX12_goesWay_93 fl_X12_160 hP1 (fun x_9 hP2 => ?_)
    clear hP1
    refine bz_if_eq (tgt := 113) (pc := 96) dX12_goesWay_96 rfl (fun c => ?_) (fun c => ?_)
    · have hP3 := hP2.1 c
      clear hP2
      refine bz_iconst (pc := 113) dX12_goesWay_113 ci_0 ?_
      exact bz_retI (pc := 114) dX12_goesWay_114 rfl rfl hP3
    · have hP4 := hP2.2 c
      clear hP2
      refine bz_aload_n (pc := 99) dX12_goesWay_99 rfl rfl ?_
      refine bz_rw_rI (pc := 100) dX12_goesWay_100 fl_X12_167 hP4 (fun x_10 hP5 => ?_)
      clear hP4
      refine bz_sipush (pc := 103) dX12_goesWay_103 cs_1439 ?_
      have hJ : bz_J G κ kX12_goesWay (d + 1) F bc bs 114 [some (.inr (some a0)), some (.inl x1), some (.inl x2), some (.inl x3), some (.inl x4), some (.inl x5), some (.inl x6), u7, u8] [.inl (if 1439 < x_10 then 0 else 1)] h := by
        exact bz_retI (pc := 114) dX12_goesWay_114 rfl (by (repeat' split) <;> rfl) hP5
      refine bz_icmp_gt (tgt := 113) (pc := 106) dX12_goesWay_106 rfl (fun c => ?_) (fun c => ?_)
      · have e9 : ((if 1439 < x_10 then 0 else 1) : Int32) = (0) := if_pos c
        rw [e9] at hJ
        refine bz_iconst (pc := 113) dX12_goesWay_113 ci_0 ?_
        exact hJ
      · have e9 : ((if 1439 < x_10 then 0 else 1) : Int32) = (1) := if_neg c
        rw [e9] at hJ
        refine bz_iconst (pc := 109) dX12_goesWay_109 ci_1 ?_
        refine bz_goto (tgt := 114) (pc := 110) dX12_goesWay_110 rfl ?_
        exact hJ
  · have hP6 := hP0.2 c
    clear hP0
    refine bz_iload (pc := 32) dX12_goesWay_32 rfl ?_
    refine bz_iload (pc := 34) dX12_goesWay_34 rfl ?_
    refine bz_kIS (as := [.inl x4, .inl x6]) (st := []) (n := 2) (mc := 0) (ms := 0) (bc := bc) (bs := bs) (yc := kX12_stepOf) (pc := 36) dX12_goesWay_36 sc_X12_stepOf ml_X12_197 ss_X12_stepOf rfl (Nat.le_of_ble_eq_true rfl) hP6 (fun x_11 h_12 hP7 => ?_)
    clear hP6
    refine bz_s_istore (pc := 39) dX12_goesWay_39 (Nat.le_of_ble_eq_true rfl) [some (.inr (some a0)), some (.inl x1), some (.inl x2), some (.inl x3), some (.inl x4), some (.inl x5), some (.inl x6), some (.inl x_11), u8] rfl ?_
    refine bz_iload (pc := 41) dX12_goesWay_41 rfl ?_
    refine bz_iconst (pc := 43) dX12_goesWay_43 ci_2 ?_
    refine bz_irem (pc := 44) dX12_goesWay_44 (by decide) ?_
    have hJ : bz_J G κ kX12_goesWay (d + 1) F bc bs 53 [some (.inr (some a0)), some (.inl x1), some (.inl x2), some (.inl x3), some (.inl x4), some (.inl x5), some (.inl x6), some (.inl x_11), u8] [.inl (if (x_11 - x_11 / 2 * 2) = 0 then x2 else x3)] h_12 := by
      refine bz_s_istore (pc := 53) dX12_goesWay_53 (Nat.le_of_ble_eq_true rfl) [some (.inr (some a0)), some (.inl x1), some (.inl x2), some (.inl x3), some (.inl x4), some (.inl x5), some (.inl x6), some (.inl x_11), some (.inl (if (x_11 - x_11 / 2 * 2) = 0 then x2 else x3))] rfl ?_
      refine bz_iload (pc := 55) dX12_goesWay_55 rfl ?_
      refine bz_iconst (pc := 57) dX12_goesWay_57 ci_2 ?_
      refine bz_icmp_ge (tgt := 74) (pc := 58) dX12_goesWay_58 rfl (fun c => ?_) (fun c => ?_)
      · have hP8 := hP7.1 c
        clear hP7
        refine bz_aload_n (pc := 74) dX12_goesWay_74 rfl rfl ?_
        refine bz_iload (pc := 75) dX12_goesWay_75 rfl ?_
        refine bz_iload (pc := 77) dX12_goesWay_77 rfl ?_
        refine bz_iload (pc := 79) dX12_goesWay_79 rfl ?_
        refine bz_iconst (pc := 81) dX12_goesWay_81 ci_2 ?_
        refine bz_isub (pc := 82) dX12_goesWay_82 ?_
        refine bz_kVV (as := [.inl x5, .inl (if (x_11 - x_11 / 2 * 2) = 0 then x2 else x3), .inl (x_11 - 2)]) (st := []) (ci := 12) (n := 3) (mc := 0) (ms := 0) (bc := bc) (bs := bs) (yc := kX12_bring) (q := (RX12, TX12, 34)) (b := a0) (pc := 83) dX12_goesWay_83 sc_X12_bring ml_X12_184 im_X12_bring se_X12_bring rfl rfl rfl (Nat.le_of_ble_eq_true rfl) hP8 (fun h_14 hP9 => ?_)
        clear hP8
        refine bz_s_iinc (pc := 86) dX12_goesWay_86 (Nat.le_of_ble_eq_true rfl) rfl rfl [some (.inr (some a0)), some (.inl x1), some (.inl x2), some (.inl x3), some (.inl x4), some (.inl x5), some (.inl (x6 + 1)), some (.inl x_11), some (.inl (if (x_11 - x_11 / 2 * 2) = 0 then x2 else x3))] rfl ?_
        refine bz_goto (tgt := 26) (pc := 89) dX12_goesWay_89 rfl ?_
        exact hP9
      · have hP10 := hP7.2 c
        clear hP7
        refine bz_aload_n (pc := 61) dX12_goesWay_61 rfl rfl ?_
        refine bz_iload (pc := 62) dX12_goesWay_62 rfl ?_
        refine bz_iload (pc := 64) dX12_goesWay_64 rfl ?_
        refine bz_iload (pc := 66) dX12_goesWay_66 rfl ?_
        refine bz_kVV (as := [.inl x5, .inl (if (x_11 - x_11 / 2 * 2) = 0 then x2 else x3), .inl x_11]) (st := []) (ci := 12) (n := 3) (mc := 0) (ms := 0) (bc := bc) (bs := bs) (yc := kX12_pickUp) (q := (RX12, TX12, 34)) (b := a0) (pc := 68) dX12_goesWay_68 sc_X12_pickUp ml_X12_180 im_X12_pickUp se_X12_pickUp rfl rfl rfl (Nat.le_of_ble_eq_true rfl) hP10 (fun h_16 hP11 => ?_)
        clear hP10
        refine bz_goto (tgt := 86) (pc := 71) dX12_goesWay_71 rfl ?_
        refine bz_s_iinc (pc := 86) dX12_goesWay_86 (Nat.le_of_ble_eq_true rfl) rfl rfl [some (.inr (some a0)), some (.inl x1), some (.inl x2), some (.inl x3), some (.inl x4), some (.inl x5), some (.inl (x6 + 1)), some (.inl x_11), some (.inl (if (x_11 - x_11 / 2 * 2) = 0 then x2 else x3))] rfl ?_
        refine bz_goto (tgt := 26) (pc := 89) dX12_goesWay_89 rfl ?_
        exact hP11
    refine bz_if_ne (tgt := 52) (pc := 45) dX12_goesWay_45 rfl (fun c => ?_) (fun c => ?_)
    · have e9 : ((if (x_11 - x_11 / 2 * 2) = 0 then x2 else x3) : Int32) = (x3) := if_neg c
      rw [e9] at hJ
      refine bz_iload_n (pc := 52) dX12_goesWay_52 rfl rfl ?_
      exact hJ
    · have e9 : ((if (x_11 - x_11 / 2 * 2) = 0 then x2 else x3) : Int32) = (x2) := if_pos c
      rw [e9] at hJ
      refine bz_iload_n (pc := 48) dX12_goesWay_48 rfl rfl ?_
      refine bz_goto (tgt := 53) (pc := 49) dX12_goesWay_49 rfl ?_
      exact hJ
theorem m_X12_goesWay {G : bz_G} {l : Launch} {d mc ms : Nat} {F : Option bz_V → bz_H → Prop} (a0 : Nat) (x1 : Int32) (x2 : Int32) (x3 : Int32) (x4 : Int32) (h : bz_H) (hP : ∀ (κ : bz_K) (bc bs : Nat), κ.2.1 = l → w_X12_goesWay_0 G κ l d F bc bs a0 x1 x2 x3 x4 h) : bz_Call G l (d + 1) kX12_goesWay [.inr (some a0), .inl x1, .inl x2, .inl x3, .inl x4] h mc ms F :=
  bz_body (by decide) (Nat.le_of_ble_eq_true rfl) (fun κ hl => g_X12_goesWay_0 hl a0 x1 x2 x3 x4 h (hP κ mc ms hl))
def w_X12_goes_0 (G : bz_G) (l : Launch) (d : Nat) (F : Option bz_V → bz_H → Prop) (a0 : Nat) (x1 : Int32) (x2 : Int32) (x3 : Int32) (h : bz_H) : Prop := bz_rc h a0 12 (bz_cI G l d kX12_isRider [.inr (some a0), .inl x1] h 0 0 (fun x_1 h_2 => (x_1 = 0 → bz_rc h_2 a0 12 (bz_cI G l d kX12_finding [.inr (some a0), .inl 0] h_2 0 0 (fun x_3 h_4 => F (some (.inl x_3)) h_4))) ∧ (¬ (x_1 = 0) → bz_cI G l d kX12_isCrossing [.inl x2] h_2 0 0 (fun x_5 h_6 => (x_5 = 0 → bz_rc h_6 a0 12 (bz_cI G l d kX12_finding [.inr (some a0), .inl 0] h_6 0 0 (fun x_7 h_8 => F (some (.inl x_7)) h_8))) ∧ (¬ (x_5 = 0) → bz_cI G l d kX12_isCrossing [.inl x3] h_6 0 0 (fun x_9 h_10 => (¬ x_9 = 0 → bz_rc h_10 a0 12 (bz_cI G l d kX12_ofRider [.inr (some a0), .inl x1, .inl 0] h_10 0 0 (fun x_11 h_12 => bz_rc h_12 a0 12 (bz_cI G l d kX12_goesOf [.inr (some a0), .inl x_11, .inl x2, .inl x3] h_12 0 0 (fun x_13 h_14 => bz_rc h_14 a0 12 (bz_cI G l d kX12_wayOf [.inr (some a0), .inl x2, .inl x3] h_14 0 0 (fun x_15 h_16 => (0 ≤ x_15 → F (some (.inl x_13)) h_16) ∧ (¬ (0 ≤ x_15) → bz_rc h_16 a0 12 (bz_cI G l d kX12_finding [.inr (some a0), .inl 3] h_16 0 0 (fun x_17 h_18 => F (some (.inl x_17)) h_18)))))))))) ∧ (x_9 = 0 → bz_rc h_10 a0 12 (bz_cI G l d kX12_finding [.inr (some a0), .inl 0] h_10 0 0 (fun x_19 h_20 => F (some (.inl x_19)) h_20)))))))))
set_option maxRecDepth 20000 in
set_option maxHeartbeats 4000000 in
theorem g_X12_goes_0 {G : bz_G} {κ : bz_K} {l : Launch} {d : Nat} {F : Option bz_V → bz_H → Prop} {bc bs : Nat} (hl : κ.2.1 = l) (a0 : Nat) (x1 : Int32) (x2 : Int32) (x3 : Int32) (h : bz_H) (hP0 : w_X12_goes_0 G l d F a0 x1 x2 x3 h) : bz_J G κ kX12_goes (d + 1) F bc bs 0 [some (.inr (some a0)), some (.inl x1), some (.inl x2), some (.inl x3), none] [] h := by
  subst hl
  unfold w_X12_goes_0 at hP0
  refine bz_aload_n (pc := 0) dX12_goes_0 rfl rfl ?_
  refine bz_iload_n (pc := 1) dX12_goes_1 rfl rfl ?_
  refine bz_kIV (as := [.inl x1]) (st := []) (ci := 12) (n := 1) (mc := 0) (ms := 0) (bc := bc) (bs := bs) (yc := kX12_isRider) (q := (RX12, TX12, 34)) (b := a0) (pc := 2) dX12_goes_2 sc_X12_isRider ml_X12_139 im_X12_isRider se_X12_isRider rfl rfl rfl (Nat.le_of_ble_eq_true rfl) hP0 (fun x_1 h_2 hP1 => ?_)
  clear hP0
  refine bz_if_eq (tgt := 22) (pc := 5) dX12_goes_5 rfl (fun c => ?_) (fun c => ?_)
  · have hP2 := hP1.1 c
    clear hP1
    refine bz_aload_n (pc := 22) dX12_goes_22 rfl rfl ?_
    refine bz_iconst (pc := 23) dX12_goes_23 ci_0 ?_
    refine bz_kIV (as := [.inl 0]) (st := []) (ci := 12) (n := 1) (mc := 0) (ms := 0) (bc := bc) (bs := bs) (yc := kX12_finding) (q := (RX12, TX12, 34)) (b := a0) (pc := 24) dX12_goes_24 sc_X12_finding ml_X12_73 im_X12_finding se_X12_finding rfl rfl rfl (Nat.le_of_ble_eq_true rfl) hP2 (fun x_3 h_4 hP3 => ?_)
    clear hP2
    exact bz_retI (pc := 27) dX12_goes_27 rfl rfl hP3
  · have hP4 := hP1.2 c
    clear hP1
    refine bz_iload_n (pc := 8) dX12_goes_8 rfl rfl ?_
    refine bz_kIS (as := [.inl x2]) (st := []) (n := 1) (mc := 0) (ms := 0) (bc := bc) (bs := bs) (yc := kX12_isCrossing) (pc := 9) dX12_goes_9 sc_X12_isCrossing ml_X12_69 ss_X12_isCrossing rfl (Nat.le_of_ble_eq_true rfl) hP4 (fun x_5 h_6 hP5 => ?_)
    clear hP4
    refine bz_if_eq (tgt := 22) (pc := 12) dX12_goes_12 rfl (fun c => ?_) (fun c => ?_)
    · have hP6 := hP5.1 c
      clear hP5
      refine bz_aload_n (pc := 22) dX12_goes_22 rfl rfl ?_
      refine bz_iconst (pc := 23) dX12_goes_23 ci_0 ?_
      refine bz_kIV (as := [.inl 0]) (st := []) (ci := 12) (n := 1) (mc := 0) (ms := 0) (bc := bc) (bs := bs) (yc := kX12_finding) (q := (RX12, TX12, 34)) (b := a0) (pc := 24) dX12_goes_24 sc_X12_finding ml_X12_73 im_X12_finding se_X12_finding rfl rfl rfl (Nat.le_of_ble_eq_true rfl) hP6 (fun x_7 h_8 hP7 => ?_)
      clear hP6
      exact bz_retI (pc := 27) dX12_goes_27 rfl rfl hP7
    · have hP8 := hP5.2 c
      clear hP5
      refine bz_iload_n (pc := 15) dX12_goes_15 rfl rfl ?_
      refine bz_kIS (as := [.inl x3]) (st := []) (n := 1) (mc := 0) (ms := 0) (bc := bc) (bs := bs) (yc := kX12_isCrossing) (pc := 16) dX12_goes_16 sc_X12_isCrossing ml_X12_69 ss_X12_isCrossing rfl (Nat.le_of_ble_eq_true rfl) hP8 (fun x_9 h_10 hP9 => ?_)
      clear hP8
      refine bz_if_ne (tgt := 28) (pc := 19) dX12_goes_19 rfl (fun c => ?_) (fun c => ?_)
      · have hP10 := hP9.1 c
        clear hP9
        refine bz_aload_n (pc := 28) dX12_goes_28 rfl rfl ?_
        refine bz_aload_n (pc := 29) dX12_goes_29 rfl rfl ?_
        refine bz_iload_n (pc := 30) dX12_goes_30 rfl rfl ?_
        refine bz_iconst (pc := 31) dX12_goes_31 ci_0 ?_
        refine bz_kIV (as := [.inl x1, .inl 0]) (st := [.inr (some a0)]) (ci := 12) (n := 2) (mc := 0) (ms := 0) (bc := bc) (bs := bs) (yc := kX12_ofRider) (q := (RX12, TX12, 34)) (b := a0) (pc := 32) dX12_goes_32 sc_X12_ofRider ml_X12_136 im_X12_ofRider se_X12_ofRider rfl rfl rfl (Nat.le_of_ble_eq_true rfl) hP10 (fun x_11 h_12 hP11 => ?_)
        clear hP10
        refine bz_iload_n (pc := 35) dX12_goes_35 rfl rfl ?_
        refine bz_iload_n (pc := 36) dX12_goes_36 rfl rfl ?_
        refine bz_kIV (as := [.inl x_11, .inl x2, .inl x3]) (st := []) (ci := 12) (n := 3) (mc := 0) (ms := 0) (bc := bc) (bs := bs) (yc := kX12_goesOf) (q := (RX12, TX12, 34)) (b := a0) (pc := 37) dX12_goes_37 sc_X12_goesOf ml_X12_157 im_X12_goesOf se_X12_goesOf rfl rfl rfl (Nat.le_of_ble_eq_true rfl) hP11 (fun x_13 h_14 hP12 => ?_)
        clear hP11
        refine bz_s_istore (pc := 40) dX12_goes_40 (Nat.le_of_ble_eq_true rfl) [some (.inr (some a0)), some (.inl x1), some (.inl x2), some (.inl x3), some (.inl x_13)] rfl ?_
        refine bz_aload_n (pc := 42) dX12_goes_42 rfl rfl ?_
        refine bz_iload_n (pc := 43) dX12_goes_43 rfl rfl ?_
        refine bz_iload_n (pc := 44) dX12_goes_44 rfl rfl ?_
        refine bz_kIV (as := [.inl x2, .inl x3]) (st := []) (ci := 12) (n := 2) (mc := 0) (ms := 0) (bc := bc) (bs := bs) (yc := kX12_wayOf) (q := (RX12, TX12, 34)) (b := a0) (pc := 45) dX12_goes_45 sc_X12_wayOf ml_X12_96 im_X12_wayOf se_X12_wayOf rfl rfl rfl (Nat.le_of_ble_eq_true rfl) hP12 (fun x_15 h_16 hP13 => ?_)
        clear hP12
        refine bz_if_ge (tgt := 59) (pc := 48) dX12_goes_48 rfl (fun c => ?_) (fun c => ?_)
        · have hP14 := hP13.1 c
          clear hP13
          refine bz_iload (pc := 59) dX12_goes_59 rfl ?_
          exact bz_retI (pc := 61) dX12_goes_61 rfl rfl hP14
        · have hP15 := hP13.2 c
          clear hP13
          refine bz_aload_n (pc := 51) dX12_goes_51 rfl rfl ?_
          refine bz_iconst (pc := 52) dX12_goes_52 ci_3 ?_
          refine bz_kIV (as := [.inl 3]) (st := []) (ci := 12) (n := 1) (mc := 0) (ms := 0) (bc := bc) (bs := bs) (yc := kX12_finding) (q := (RX12, TX12, 34)) (b := a0) (pc := 53) dX12_goes_53 sc_X12_finding ml_X12_73 im_X12_finding se_X12_finding rfl rfl rfl (Nat.le_of_ble_eq_true rfl) hP15 (fun x_17 h_18 hP16 => ?_)
          clear hP15
          refine bz_goto (tgt := 61) (pc := 56) dX12_goes_56 rfl ?_
          exact bz_retI (pc := 61) dX12_goes_61 rfl rfl hP16
      · have hP17 := hP9.2 c
        clear hP9
        refine bz_aload_n (pc := 22) dX12_goes_22 rfl rfl ?_
        refine bz_iconst (pc := 23) dX12_goes_23 ci_0 ?_
        refine bz_kIV (as := [.inl 0]) (st := []) (ci := 12) (n := 1) (mc := 0) (ms := 0) (bc := bc) (bs := bs) (yc := kX12_finding) (q := (RX12, TX12, 34)) (b := a0) (pc := 24) dX12_goes_24 sc_X12_finding ml_X12_73 im_X12_finding se_X12_finding rfl rfl rfl (Nat.le_of_ble_eq_true rfl) hP17 (fun x_19 h_20 hP18 => ?_)
        clear hP17
        exact bz_retI (pc := 27) dX12_goes_27 rfl rfl hP18
theorem m_X12_goes {G : bz_G} {l : Launch} {d mc ms : Nat} {F : Option bz_V → bz_H → Prop} (a0 : Nat) (x1 : Int32) (x2 : Int32) (x3 : Int32) (h : bz_H) (hP : w_X12_goes_0 G l d F a0 x1 x2 x3 h) : bz_Call G l (d + 1) kX12_goes [.inr (some a0), .inl x1, .inl x2, .inl x3] h mc ms F :=
  bz_body (by decide) (Nat.le_of_ble_eq_true rfl) (fun κ hl => g_X12_goes_0 hl a0 x1 x2 x3 h hP)
def w_X12_hinders_0 (G : bz_G) (l : Launch) (d : Nat) (F : Option bz_V → bz_H → Prop) (a0 : Nat) (x1 : Int32) (x2 : Int32) (x3 : Int32) (h : bz_H) : Prop := bz_rc h a0 12 (bz_cI G l d kX12_isRider [.inr (some a0), .inl x1] h 0 0 (fun x_1 h_2 => (x_1 = 0 → F (some (.inl 0)) h_2) ∧ (¬ (x_1 = 0) → bz_rc h_2 a0 12 (bz_cI G l d kX12_isOrder [.inr (some a0), .inl x2] h_2 0 0 (fun x_3 h_4 => (x_3 = 0 → F (some (.inl 0)) h_4) ∧ (¬ (x_3 = 0) → bz_rc h_4 a0 12 (bz_cI G l d kX12_isOrder [.inr (some a0), .inl x3] h_4 0 0 (fun x_5 h_6 => (x_5 = 0 → F (some (.inl 0)) h_6) ∧ (¬ (x_5 = 0) → (¬ x2 = x3 → bz_rc h_6 a0 12 (bz_cI G l d kX12_isWaiting [.inr (some a0), .inl x2] h_6 0 0 (fun x_7 h_8 => (x_7 = 0 → F (some (.inl 4)) h_8) ∧ (¬ (x_7 = 0) → bz_rc h_8 a0 12 (bz_cI G l d kX12_isWaiting [.inr (some a0), .inl x3] h_8 0 0 (fun x_9 h_10 => (¬ x_9 = 0 → bz_rc h_10 a0 12 (bz_cI G l d kX12_joins [.inr (some a0), .inl x1, .inl x2, .inl x3] h_10 0 0 (fun x_11 h_12 => F (some (.inl (if x_11 = 0 then 3 else (-1)))) h_12))) ∧ (x_9 = 0 → F (some (.inl 4)) h_10))))))) ∧ (x2 = x3 → F (some (.inl 0)) h_6))))))))))
set_option maxRecDepth 20000 in
set_option maxHeartbeats 4000000 in
theorem g_X12_hinders_0 {G : bz_G} {κ : bz_K} {l : Launch} {d : Nat} {F : Option bz_V → bz_H → Prop} {bc bs : Nat} (hl : κ.2.1 = l) (a0 : Nat) (x1 : Int32) (x2 : Int32) (x3 : Int32) (h : bz_H) (hP0 : w_X12_hinders_0 G l d F a0 x1 x2 x3 h) : bz_J G κ kX12_hinders (d + 1) F bc bs 0 [some (.inr (some a0)), some (.inl x1), some (.inl x2), some (.inl x3)] [] h := by
  subst hl
  unfold w_X12_hinders_0 at hP0
  refine bz_aload_n (pc := 0) dX12_hinders_0 rfl rfl ?_
  refine bz_iload_n (pc := 1) dX12_hinders_1 rfl rfl ?_
  refine bz_kIV (as := [.inl x1]) (st := []) (ci := 12) (n := 1) (mc := 0) (ms := 0) (bc := bc) (bs := bs) (yc := kX12_isRider) (q := (RX12, TX12, 34)) (b := a0) (pc := 2) dX12_hinders_2 sc_X12_isRider ml_X12_139 im_X12_isRider se_X12_isRider rfl rfl rfl (Nat.le_of_ble_eq_true rfl) hP0 (fun x_1 h_2 hP1 => ?_)
  clear hP0
  refine bz_if_eq (tgt := 29) (pc := 5) dX12_hinders_5 rfl (fun c => ?_) (fun c => ?_)
  · have hP2 := hP1.1 c
    clear hP1
    refine bz_iconst (pc := 29) dX12_hinders_29 ci_0 ?_
    exact bz_retI (pc := 30) dX12_hinders_30 rfl rfl hP2
  · have hP3 := hP1.2 c
    clear hP1
    refine bz_aload_n (pc := 8) dX12_hinders_8 rfl rfl ?_
    refine bz_iload_n (pc := 9) dX12_hinders_9 rfl rfl ?_
    refine bz_kIV (as := [.inl x2]) (st := []) (ci := 12) (n := 1) (mc := 0) (ms := 0) (bc := bc) (bs := bs) (yc := kX12_isOrder) (q := (RX12, TX12, 34)) (b := a0) (pc := 10) dX12_hinders_10 sc_X12_isOrder ml_X12_117 im_X12_isOrder se_X12_isOrder rfl rfl rfl (Nat.le_of_ble_eq_true rfl) hP3 (fun x_3 h_4 hP4 => ?_)
    clear hP3
    refine bz_if_eq (tgt := 29) (pc := 13) dX12_hinders_13 rfl (fun c => ?_) (fun c => ?_)
    · have hP5 := hP4.1 c
      clear hP4
      refine bz_iconst (pc := 29) dX12_hinders_29 ci_0 ?_
      exact bz_retI (pc := 30) dX12_hinders_30 rfl rfl hP5
    · have hP6 := hP4.2 c
      clear hP4
      refine bz_aload_n (pc := 16) dX12_hinders_16 rfl rfl ?_
      refine bz_iload_n (pc := 17) dX12_hinders_17 rfl rfl ?_
      refine bz_kIV (as := [.inl x3]) (st := []) (ci := 12) (n := 1) (mc := 0) (ms := 0) (bc := bc) (bs := bs) (yc := kX12_isOrder) (q := (RX12, TX12, 34)) (b := a0) (pc := 18) dX12_hinders_18 sc_X12_isOrder ml_X12_117 im_X12_isOrder se_X12_isOrder rfl rfl rfl (Nat.le_of_ble_eq_true rfl) hP6 (fun x_5 h_6 hP7 => ?_)
      clear hP6
      refine bz_if_eq (tgt := 29) (pc := 21) dX12_hinders_21 rfl (fun c => ?_) (fun c => ?_)
      · have hP8 := hP7.1 c
        clear hP7
        refine bz_iconst (pc := 29) dX12_hinders_29 ci_0 ?_
        exact bz_retI (pc := 30) dX12_hinders_30 rfl rfl hP8
      · have hP9 := hP7.2 c
        clear hP7
        refine bz_iload_n (pc := 24) dX12_hinders_24 rfl rfl ?_
        refine bz_iload_n (pc := 25) dX12_hinders_25 rfl rfl ?_
        refine bz_icmp_ne (tgt := 31) (pc := 26) dX12_hinders_26 rfl (fun c => ?_) (fun c => ?_)
        · have hP10 := hP9.1 c
          clear hP9
          refine bz_aload_n (pc := 31) dX12_hinders_31 rfl rfl ?_
          refine bz_iload_n (pc := 32) dX12_hinders_32 rfl rfl ?_
          refine bz_kIV (as := [.inl x2]) (st := []) (ci := 12) (n := 1) (mc := 0) (ms := 0) (bc := bc) (bs := bs) (yc := kX12_isWaiting) (q := (RX12, TX12, 34)) (b := a0) (pc := 33) dX12_hinders_33 sc_X12_isWaiting ml_X12_129 im_X12_isWaiting se_X12_isWaiting rfl rfl rfl (Nat.le_of_ble_eq_true rfl) hP10 (fun x_7 h_8 hP11 => ?_)
          clear hP10
          refine bz_if_eq (tgt := 47) (pc := 36) dX12_hinders_36 rfl (fun c => ?_) (fun c => ?_)
          · have hP12 := hP11.1 c
            clear hP11
            refine bz_iconst (pc := 47) dX12_hinders_47 ci_4 ?_
            refine bz_goto (tgt := 66) (pc := 48) dX12_hinders_48 rfl ?_
            exact bz_retI (pc := 66) dX12_hinders_66 rfl rfl hP12
          · have hP13 := hP11.2 c
            clear hP11
            refine bz_aload_n (pc := 39) dX12_hinders_39 rfl rfl ?_
            refine bz_iload_n (pc := 40) dX12_hinders_40 rfl rfl ?_
            refine bz_kIV (as := [.inl x3]) (st := []) (ci := 12) (n := 1) (mc := 0) (ms := 0) (bc := bc) (bs := bs) (yc := kX12_isWaiting) (q := (RX12, TX12, 34)) (b := a0) (pc := 41) dX12_hinders_41 sc_X12_isWaiting ml_X12_129 im_X12_isWaiting se_X12_isWaiting rfl rfl rfl (Nat.le_of_ble_eq_true rfl) hP13 (fun x_9 h_10 hP14 => ?_)
            clear hP13
            refine bz_if_ne (tgt := 51) (pc := 44) dX12_hinders_44 rfl (fun c => ?_) (fun c => ?_)
            · have hP15 := hP14.1 c
              clear hP14
              refine bz_aload_n (pc := 51) dX12_hinders_51 rfl rfl ?_
              refine bz_iload_n (pc := 52) dX12_hinders_52 rfl rfl ?_
              refine bz_iload_n (pc := 53) dX12_hinders_53 rfl rfl ?_
              refine bz_iload_n (pc := 54) dX12_hinders_54 rfl rfl ?_
              refine bz_kIV (as := [.inl x1, .inl x2, .inl x3]) (st := []) (ci := 12) (n := 3) (mc := 0) (ms := 0) (bc := bc) (bs := bs) (yc := kX12_joins) (q := (RX12, TX12, 34)) (b := a0) (pc := 55) dX12_hinders_55 sc_X12_joins ml_X12_209 im_X12_joins se_X12_joins rfl rfl rfl (Nat.le_of_ble_eq_true rfl) hP15 (fun x_11 h_12 hP16 => ?_)
              clear hP15
              have hJ : bz_J G κ kX12_hinders (d + 1) F bc bs 66 [some (.inr (some a0)), some (.inl x1), some (.inl x2), some (.inl x3)] [.inl (if x_11 = 0 then 3 else (-1))] h_12 := by
                exact bz_retI (pc := 66) dX12_hinders_66 rfl rfl hP16
              refine bz_if_eq (tgt := 65) (pc := 58) dX12_hinders_58 rfl (fun c => ?_) (fun c => ?_)
              · have e9 : ((if x_11 = 0 then 3 else (-1)) : Int32) = (3) := if_pos c
                rw [e9] at hJ
                refine bz_iconst (pc := 65) dX12_hinders_65 ci_3 ?_
                exact hJ
              · have e9 : ((if x_11 = 0 then 3 else (-1)) : Int32) = ((-1)) := if_neg c
                rw [e9] at hJ
                refine bz_iconst (pc := 61) dX12_hinders_61 ci_m1 ?_
                refine bz_goto (tgt := 66) (pc := 62) dX12_hinders_62 rfl ?_
                exact hJ
            · have hP17 := hP14.2 c
              clear hP14
              refine bz_iconst (pc := 47) dX12_hinders_47 ci_4 ?_
              refine bz_goto (tgt := 66) (pc := 48) dX12_hinders_48 rfl ?_
              exact bz_retI (pc := 66) dX12_hinders_66 rfl rfl hP17
        · have hP18 := hP9.2 c
          clear hP9
          refine bz_iconst (pc := 29) dX12_hinders_29 ci_0 ?_
          exact bz_retI (pc := 30) dX12_hinders_30 rfl rfl hP18
theorem m_X12_hinders {G : bz_G} {l : Launch} {d mc ms : Nat} {F : Option bz_V → bz_H → Prop} (a0 : Nat) (x1 : Int32) (x2 : Int32) (x3 : Int32) (h : bz_H) (hP : w_X12_hinders_0 G l d F a0 x1 x2 x3 h) : bz_Call G l (d + 1) kX12_hinders [.inr (some a0), .inl x1, .inl x2, .inl x3] h mc ms F :=
  bz_body (by decide) (Nat.le_of_ble_eq_true rfl) (fun κ hl => g_X12_hinders_0 hl a0 x1 x2 x3 h hP)
def w_X12_hold_0 (G : bz_G) (l : Launch) (d : Nat) (F : Option bz_V → bz_H → Prop) (a0 : Nat) (x1 : Int32) (x2 : Int32) (h : bz_H) : Prop := bz_cI G l d kX12_isSpot [.inl x1] h 0 0 (fun x_1 h_2 => (x_1 = 0 → bz_rc h_2 a0 12 (bz_cI G l d kX12_finding [.inr (some a0), .inl 0] h_2 0 0 (fun x_3 h_4 => F (some (.inl x_3)) h_4))) ∧ (¬ (x_1 = 0) → (x2 = (-1) → bz_rR h_2 a0 12 0 (fun r_5 => bz_nn r_5 (fun a_6 => bz_wA h_2 a_6 (966 + x1) x2 (fun h_7 => F (some (.inl 1)) h_7)))) ∧ (¬ (x2 = (-1)) → bz_rc h_2 a0 12 (bz_cI G l d kX12_isRider [.inr (some a0), .inl x2] h_2 0 0 (fun x_8 h_9 => (¬ x_8 = 0 → bz_rR h_9 a0 12 0 (fun r_10 => bz_nn r_10 (fun a_11 => bz_wA h_9 a_11 (966 + x1) x2 (fun h_12 => F (some (.inl 1)) h_12)))) ∧ (x_8 = 0 → bz_rc h_9 a0 12 (bz_cI G l d kX12_finding [.inr (some a0), .inl 0] h_9 0 0 (fun x_13 h_14 => F (some (.inl x_13)) h_14))))))))
set_option maxRecDepth 20000 in
set_option maxHeartbeats 4000000 in
theorem g_X12_hold_0 {G : bz_G} {κ : bz_K} {l : Launch} {d : Nat} {F : Option bz_V → bz_H → Prop} {bc bs : Nat} (hl : κ.2.1 = l) (a0 : Nat) (x1 : Int32) (x2 : Int32) (h : bz_H) (hP0 : w_X12_hold_0 G l d F a0 x1 x2 h) : bz_J G κ kX12_hold (d + 1) F bc bs 0 [some (.inr (some a0)), some (.inl x1), some (.inl x2)] [] h := by
  subst hl
  unfold w_X12_hold_0 at hP0
  refine bz_iload_n (pc := 0) dX12_hold_0 rfl rfl ?_
  refine bz_kIS (as := [.inl x1]) (st := []) (n := 1) (mc := 0) (ms := 0) (bc := bc) (bs := bs) (yc := kX12_isSpot) (pc := 1) dX12_hold_1 sc_X12_isSpot ml_X12_335 ss_X12_isSpot rfl (Nat.le_of_ble_eq_true rfl) hP0 (fun x_1 h_2 hP1 => ?_)
  clear hP0
  refine bz_if_eq (tgt := 20) (pc := 4) dX12_hold_4 rfl (fun c => ?_) (fun c => ?_)
  · have hP2 := hP1.1 c
    clear hP1
    refine bz_aload_n (pc := 20) dX12_hold_20 rfl rfl ?_
    refine bz_iconst (pc := 21) dX12_hold_21 ci_0 ?_
    refine bz_kIV (as := [.inl 0]) (st := []) (ci := 12) (n := 1) (mc := 0) (ms := 0) (bc := bc) (bs := bs) (yc := kX12_finding) (q := (RX12, TX12, 34)) (b := a0) (pc := 22) dX12_hold_22 sc_X12_finding ml_X12_73 im_X12_finding se_X12_finding rfl rfl rfl (Nat.le_of_ble_eq_true rfl) hP2 (fun x_3 h_4 hP3 => ?_)
    clear hP2
    exact bz_retI (pc := 25) dX12_hold_25 rfl rfl hP3
  · have hP4 := hP1.2 c
    clear hP1
    refine bz_iload_n (pc := 7) dX12_hold_7 rfl rfl ?_
    refine bz_iconst (pc := 8) dX12_hold_8 ci_m1 ?_
    refine bz_icmp_eq (tgt := 26) (pc := 9) dX12_hold_9 rfl (fun c => ?_) (fun c => ?_)
    · have hP5 := hP4.1 c
      clear hP4
      refine bz_aload_n (pc := 26) dX12_hold_26 rfl rfl ?_
      refine bz_rw_rR (pc := 27) dX12_hold_27 fl_X12_7 hP5 (fun r_5 hP6 => ?_)
      clear hP5
      refine bz_sipush (pc := 30) dX12_hold_30 cs_966 ?_
      refine bz_iload_n (pc := 33) dX12_hold_33 rfl rfl ?_
      refine bz_iadd (pc := 34) dX12_hold_34 ?_
      refine bz_iload_n (pc := 35) dX12_hold_35 rfl rfl ?_
      obtain ⟨a_6, rfl, hP7⟩ := hP6
      refine bz_rw_wA (pc := 36) dX12_hold_36 hP7 (fun h_7 hP8 => ?_)
      clear hP7
      refine bz_iconst (pc := 37) dX12_hold_37 ci_1 ?_
      exact bz_retI (pc := 38) dX12_hold_38 rfl rfl hP8
    · have hP9 := hP4.2 c
      clear hP4
      refine bz_aload_n (pc := 12) dX12_hold_12 rfl rfl ?_
      refine bz_iload_n (pc := 13) dX12_hold_13 rfl rfl ?_
      refine bz_kIV (as := [.inl x2]) (st := []) (ci := 12) (n := 1) (mc := 0) (ms := 0) (bc := bc) (bs := bs) (yc := kX12_isRider) (q := (RX12, TX12, 34)) (b := a0) (pc := 14) dX12_hold_14 sc_X12_isRider ml_X12_139 im_X12_isRider se_X12_isRider rfl rfl rfl (Nat.le_of_ble_eq_true rfl) hP9 (fun x_8 h_9 hP10 => ?_)
      clear hP9
      refine bz_if_ne (tgt := 26) (pc := 17) dX12_hold_17 rfl (fun c => ?_) (fun c => ?_)
      · have hP11 := hP10.1 c
        clear hP10
        refine bz_aload_n (pc := 26) dX12_hold_26 rfl rfl ?_
        refine bz_rw_rR (pc := 27) dX12_hold_27 fl_X12_7 hP11 (fun r_10 hP12 => ?_)
        clear hP11
        refine bz_sipush (pc := 30) dX12_hold_30 cs_966 ?_
        refine bz_iload_n (pc := 33) dX12_hold_33 rfl rfl ?_
        refine bz_iadd (pc := 34) dX12_hold_34 ?_
        refine bz_iload_n (pc := 35) dX12_hold_35 rfl rfl ?_
        obtain ⟨a_11, rfl, hP13⟩ := hP12
        refine bz_rw_wA (pc := 36) dX12_hold_36 hP13 (fun h_12 hP14 => ?_)
        clear hP13
        refine bz_iconst (pc := 37) dX12_hold_37 ci_1 ?_
        exact bz_retI (pc := 38) dX12_hold_38 rfl rfl hP14
      · have hP15 := hP10.2 c
        clear hP10
        refine bz_aload_n (pc := 20) dX12_hold_20 rfl rfl ?_
        refine bz_iconst (pc := 21) dX12_hold_21 ci_0 ?_
        refine bz_kIV (as := [.inl 0]) (st := []) (ci := 12) (n := 1) (mc := 0) (ms := 0) (bc := bc) (bs := bs) (yc := kX12_finding) (q := (RX12, TX12, 34)) (b := a0) (pc := 22) dX12_hold_22 sc_X12_finding ml_X12_73 im_X12_finding se_X12_finding rfl rfl rfl (Nat.le_of_ble_eq_true rfl) hP15 (fun x_13 h_14 hP16 => ?_)
        clear hP15
        exact bz_retI (pc := 25) dX12_hold_25 rfl rfl hP16
theorem m_X12_hold {G : bz_G} {l : Launch} {d mc ms : Nat} {F : Option bz_V → bz_H → Prop} (a0 : Nat) (x1 : Int32) (x2 : Int32) (h : bz_H) (hP : w_X12_hold_0 G l d F a0 x1 x2 h) : bz_Call G l (d + 1) kX12_hold [.inr (some a0), .inl x1, .inl x2] h mc ms F :=
  bz_body (by decide) (Nat.le_of_ble_eq_true rfl) (fun κ hl => g_X12_hold_0 hl a0 x1 x2 h hP)
def w_X12_image_0 (G : bz_G) (κ : bz_K) (l : Launch) (d : Nat) (F : Option bz_V → bz_H → Prop) (bc bs : Nat) (a0 : Nat) (h : bz_H) : Prop := bz_J G κ kX12_image (d + 1) F bc bs 2 [some (.inr (some a0)), some (.inl 0)] [] h
set_option maxRecDepth 20000 in
set_option maxHeartbeats 4000000 in
theorem g_X12_image_0 {G : bz_G} {κ : bz_K} {l : Launch} {d : Nat} {F : Option bz_V → bz_H → Prop} {bc bs : Nat} (hl : κ.2.1 = l) (a0 : Nat) (h : bz_H) (hP0 : w_X12_image_0 G κ l d F bc bs a0 h) : bz_J G κ kX12_image (d + 1) F bc bs 0 [some (.inr (some a0)), none] [] h := by
  subst hl
  unfold w_X12_image_0 at hP0
  refine bz_iconst (pc := 0) dX12_image_0 ci_0 ?_
  refine bz_s_istore_n (pc := 1) dX12_image_1 rfl (Nat.le_of_ble_eq_true rfl) [some (.inr (some a0)), some (.inl 0)] rfl ?_
  exact hP0
def w_X12_image_2 (G : bz_G) (κ : bz_K) (l : Launch) (d : Nat) (F : Option bz_V → bz_H → Prop) (bc bs : Nat) (a0 : Nat) (x1 : Int32) (h : bz_H) : Prop := (2296 ≤ x1 → bz_b 1 (bz_wI h a0 12 2 1 (fun h_1 => F (some (.inl 1)) h_1))) ∧ (¬ (2296 ≤ x1) → bz_rR h a0 12 1 (fun r_2 => bz_rR h a0 12 0 (fun r_3 => bz_nn r_3 (fun a_4 => bz_rA h a_4 x1 (fun x_5 => bz_nn r_2 (fun a_6 => bz_wA h a_6 x1 x_5 (fun h_7 => bz_J G κ kX12_image (d + 1) F bc bs 2 [some (.inr (some a0)), some (.inl (x1 + 1))] [] h_7)))))))
set_option maxRecDepth 20000 in
set_option maxHeartbeats 4000000 in
theorem g_X12_image_2 {G : bz_G} {κ : bz_K} {l : Launch} {d : Nat} {F : Option bz_V → bz_H → Prop} {bc bs : Nat} (hl : κ.2.1 = l) (a0 : Nat) (x1 : Int32) (h : bz_H) (hP0 : w_X12_image_2 G κ l d F bc bs a0 x1 h) : bz_J G κ kX12_image (d + 1) F bc bs 2 [some (.inr (some a0)), some (.inl x1)] [] h := by
  subst hl
  unfold w_X12_image_2 at hP0
  refine bz_iload_n (pc := 2) dX12_image_2 rfl rfl ?_
  refine bz_sipush (pc := 3) dX12_image_3 cs_2296 ?_
  refine bz_icmp_ge (tgt := 27) (pc := 6) dX12_image_6 rfl (fun c => ?_) (fun c => ?_)
  · have hP1 := hP0.1 c
    clear hP0
    refine bz_aload_n (pc := 27) dX12_image_27 rfl rfl ?_
    refine bz_iconst (pc := 28) dX12_image_28 ci_1 ?_
    refine bz_rw_wZ (pc := 29) dX12_image_29 fl_X12_344 (fun q h9 => by cases h9; rfl) rfl hP1 (fun h_1 hP2 => ?_)
    clear hP1
    refine bz_iconst (pc := 32) dX12_image_32 ci_1 ?_
    exact bz_retI (pc := 33) dX12_image_33 rfl rfl hP2
  · have hP3 := hP0.2 c
    clear hP0
    refine bz_aload_n (pc := 9) dX12_image_9 rfl rfl ?_
    refine bz_rw_rR (pc := 10) dX12_image_10 fl_X12_13 hP3 (fun r_2 hP4 => ?_)
    clear hP3
    refine bz_iload_n (pc := 13) dX12_image_13 rfl rfl ?_
    refine bz_aload_n (pc := 14) dX12_image_14 rfl rfl ?_
    refine bz_rw_rR (pc := 15) dX12_image_15 fl_X12_7 hP4 (fun r_3 hP5 => ?_)
    clear hP4
    refine bz_iload_n (pc := 18) dX12_image_18 rfl rfl ?_
    obtain ⟨a_4, rfl, hP6⟩ := hP5
    refine bz_rw_rA (pc := 19) dX12_image_19 hP6 (fun x_5 hP7 => ?_)
    clear hP6
    obtain ⟨a_6, rfl, hP8⟩ := hP7
    refine bz_rw_wA (pc := 20) dX12_image_20 hP8 (fun h_7 hP9 => ?_)
    clear hP8
    refine bz_s_iinc (pc := 21) dX12_image_21 (Nat.le_of_ble_eq_true rfl) rfl rfl [some (.inr (some a0)), some (.inl (x1 + 1))] rfl ?_
    refine bz_goto (tgt := 2) (pc := 24) dX12_image_24 rfl ?_
    exact hP9
theorem m_X12_image {G : bz_G} {l : Launch} {d mc ms : Nat} {F : Option bz_V → bz_H → Prop} (a0 : Nat) (h : bz_H) (hP : ∀ (κ : bz_K) (bc bs : Nat), κ.2.1 = l → w_X12_image_0 G κ l d F bc bs a0 h) : bz_Call G l (d + 1) kX12_image [.inr (some a0)] h mc ms F :=
  bz_body (by decide) (Nat.le_of_ble_eq_true rfl) (fun κ hl => g_X12_image_0 hl a0 h (hP κ mc ms hl))
def w_X12_in_0 (G : bz_G) (l : Launch) (d : Nat) (F : Option bz_V → bz_H → Prop) (x0 : Int32) (x1 : Int32) (x2 : Int32) (h : bz_H) : Prop := F (some (.inl (if x0 < x1 then 0 else if x2 < x0 then 0 else 1))) h
set_option maxRecDepth 20000 in
set_option maxHeartbeats 4000000 in
theorem g_X12_in_0 {G : bz_G} {κ : bz_K} {l : Launch} {d : Nat} {F : Option bz_V → bz_H → Prop} {bc bs : Nat} (hl : κ.2.1 = l) (x0 : Int32) (x1 : Int32) (x2 : Int32) (h : bz_H) (hP0 : w_X12_in_0 G l d F x0 x1 x2 h) : bz_J G κ kX12_in (d + 1) F bc bs 0 [some (.inl x0), some (.inl x1), some (.inl x2)] [] h := by
  subst hl
  unfold w_X12_in_0 at hP0
  refine bz_iload_n (pc := 0) dX12_in_0 rfl rfl ?_
  refine bz_iload_n (pc := 1) dX12_in_1 rfl rfl ?_
  have hJ : bz_J G κ kX12_in (d + 1) F bc bs 15 [some (.inl x0), some (.inl x1), some (.inl x2)] [.inl (if x0 < x1 then 0 else if x2 < x0 then 0 else 1)] h := by
    exact bz_retI (pc := 15) dX12_in_15 rfl (by (repeat' split) <;> rfl) hP0
  refine bz_icmp_lt (tgt := 14) (pc := 2) dX12_in_2 rfl (fun c => ?_) (fun c => ?_)
  · have e9 : ((if x0 < x1 then 0 else if x2 < x0 then 0 else 1) : Int32) = (0) := if_pos c
    rw [e9] at hJ
    refine bz_iconst (pc := 14) dX12_in_14 ci_0 ?_
    exact hJ
  · have e9 : ((if x0 < x1 then 0 else if x2 < x0 then 0 else 1) : Int32) = (if x2 < x0 then 0 else 1) := if_neg c
    rw [e9] at hJ
    refine bz_iload_n (pc := 5) dX12_in_5 rfl rfl ?_
    refine bz_iload_n (pc := 6) dX12_in_6 rfl rfl ?_
    refine bz_icmp_gt (tgt := 14) (pc := 7) dX12_in_7 rfl (fun c => ?_) (fun c => ?_)
    · have e9 : ((if x2 < x0 then 0 else 1) : Int32) = (0) := if_pos c
      rw [e9] at hJ
      refine bz_iconst (pc := 14) dX12_in_14 ci_0 ?_
      exact hJ
    · have e9 : ((if x2 < x0 then 0 else 1) : Int32) = (1) := if_neg c
      rw [e9] at hJ
      refine bz_iconst (pc := 10) dX12_in_10 ci_1 ?_
      refine bz_goto (tgt := 15) (pc := 11) dX12_in_11 rfl ?_
      exact hJ
theorem m_X12_in {G : bz_G} {l : Launch} {d mc ms : Nat} {F : Option bz_V → bz_H → Prop} (x0 : Int32) (x1 : Int32) (x2 : Int32) (h : bz_H) (hP : w_X12_in_0 G l d F x0 x1 x2 h) : bz_Call G l (d + 1) kX12_in [.inl x0, .inl x1, .inl x2] h mc ms F :=
  bz_body (by decide) (Nat.le_of_ble_eq_true rfl) (fun κ hl => g_X12_in_0 hl x0 x1 x2 h hP)
def w_X12_isCrossing_0 (G : bz_G) (l : Launch) (d : Nat) (F : Option bz_V → bz_H → Prop) (x0 : Int32) (h : bz_H) : Prop := bz_cI G l d kX12_in [.inl x0, .inl 0, .inl 15] h 0 0 (fun x_1 h_2 => bz_b x_1 (F (some (.inl x_1)) h_2))
set_option maxRecDepth 20000 in
set_option maxHeartbeats 4000000 in
theorem g_X12_isCrossing_0 {G : bz_G} {κ : bz_K} {l : Launch} {d : Nat} {F : Option bz_V → bz_H → Prop} {bc bs : Nat} (hl : κ.2.1 = l) (x0 : Int32) (h : bz_H) (hP0 : w_X12_isCrossing_0 G l d F x0 h) : bz_J G κ kX12_isCrossing (d + 1) F bc bs 0 [some (.inl x0)] [] h := by
  subst hl
  unfold w_X12_isCrossing_0 at hP0
  refine bz_iload_n (pc := 0) dX12_isCrossing_0 rfl rfl ?_
  refine bz_iconst (pc := 1) dX12_isCrossing_1 ci_0 ?_
  refine bz_bipush (pc := 2) dX12_isCrossing_2 cb_15 ?_
  refine bz_kIS (as := [.inl x0, .inl 0, .inl 15]) (st := []) (n := 3) (mc := 0) (ms := 0) (bc := bc) (bs := bs) (yc := kX12_in) (pc := 4) dX12_isCrossing_4 sc_X12_in ml_X12_65 ss_X12_in rfl (Nat.le_of_ble_eq_true rfl) hP0 (fun x_1 h_2 hP1 => ?_)
  clear hP0
  obtain ⟨hb, hP2⟩ := hP1
  exact bz_retI (pc := 7) dX12_isCrossing_7 rfl (by rcases hb with hb | hb <;> rw [hb] <;> rfl) hP2
theorem m_X12_isCrossing {G : bz_G} {l : Launch} {d mc ms : Nat} {F : Option bz_V → bz_H → Prop} (x0 : Int32) (h : bz_H) (hP : w_X12_isCrossing_0 G l d F x0 h) : bz_Call G l (d + 1) kX12_isCrossing [.inl x0] h mc ms F :=
  bz_body (by decide) (Nat.le_of_ble_eq_true rfl) (fun κ hl => g_X12_isCrossing_0 hl x0 h hP)
def w_X12_isDigit_0 (G : bz_G) (l : Launch) (d : Nat) (F : Option bz_V → bz_H → Prop) (a0 : Nat) (x1 : Int32) (h : bz_H) : Prop := bz_rI h a0 12 14 (fun x_1 => (x_1 ≤ x1 → F (some (.inl 0)) h) ∧ (¬ (x_1 ≤ x1) → bz_rR h a0 12 13 (fun r_2 => bz_nn r_2 (fun a_3 => bz_rA h a_3 x1 (fun x_4 => bz_cI G l d kX12_in [.inl x_4, .inl 48, .inl 57] h 0 0 (fun x_5 h_6 => F (some (.inl (if x_5 = 0 then 0 else 1))) h_6))))))
set_option maxRecDepth 20000 in
set_option maxHeartbeats 4000000 in
theorem g_X12_isDigit_0 {G : bz_G} {κ : bz_K} {l : Launch} {d : Nat} {F : Option bz_V → bz_H → Prop} {bc bs : Nat} (hl : κ.2.1 = l) (a0 : Nat) (x1 : Int32) (h : bz_H) (hP0 : w_X12_isDigit_0 G l d F a0 x1 h) : bz_J G κ kX12_isDigit (d + 1) F bc bs 0 [some (.inr (some a0)), some (.inl x1)] [] h := by
  subst hl
  unfold w_X12_isDigit_0 at hP0
  refine bz_iload_n (pc := 0) dX12_isDigit_0 rfl rfl ?_
  refine bz_aload_n (pc := 1) dX12_isDigit_1 rfl rfl ?_
  refine bz_rw_rI (pc := 2) dX12_isDigit_2 fl_X12_235 hP0 (fun x_1 hP1 => ?_)
  clear hP0
  refine bz_icmp_ge (tgt := 28) (pc := 5) dX12_isDigit_5 rfl (fun c => ?_) (fun c => ?_)
  · have hP2 := hP1.1 c
    clear hP1
    refine bz_iconst (pc := 28) dX12_isDigit_28 ci_0 ?_
    exact bz_retI (pc := 29) dX12_isDigit_29 rfl rfl hP2
  · have hP3 := hP1.2 c
    clear hP1
    refine bz_aload_n (pc := 8) dX12_isDigit_8 rfl rfl ?_
    refine bz_rw_rR (pc := 9) dX12_isDigit_9 fl_X12_28 hP3 (fun r_2 hP4 => ?_)
    clear hP3
    refine bz_iload_n (pc := 12) dX12_isDigit_12 rfl rfl ?_
    obtain ⟨a_3, rfl, hP5⟩ := hP4
    refine bz_rw_rA (pc := 13) dX12_isDigit_13 hP5 (fun x_4 hP6 => ?_)
    clear hP5
    refine bz_bipush (pc := 14) dX12_isDigit_14 cb_48 ?_
    refine bz_bipush (pc := 16) dX12_isDigit_16 cb_57 ?_
    refine bz_kIS (as := [.inl x_4, .inl 48, .inl 57]) (st := []) (n := 3) (mc := 0) (ms := 0) (bc := bc) (bs := bs) (yc := kX12_in) (pc := 18) dX12_isDigit_18 sc_X12_in ml_X12_65 ss_X12_in rfl (Nat.le_of_ble_eq_true rfl) hP6 (fun x_5 h_6 hP7 => ?_)
    clear hP6
    have hJ : bz_J G κ kX12_isDigit (d + 1) F bc bs 29 [some (.inr (some a0)), some (.inl x1)] [.inl (if x_5 = 0 then 0 else 1)] h_6 := by
      exact bz_retI (pc := 29) dX12_isDigit_29 rfl (by (repeat' split) <;> rfl) hP7
    refine bz_if_eq (tgt := 28) (pc := 21) dX12_isDigit_21 rfl (fun c => ?_) (fun c => ?_)
    · have e9 : ((if x_5 = 0 then 0 else 1) : Int32) = (0) := if_pos c
      rw [e9] at hJ
      refine bz_iconst (pc := 28) dX12_isDigit_28 ci_0 ?_
      exact hJ
    · have e9 : ((if x_5 = 0 then 0 else 1) : Int32) = (1) := if_neg c
      rw [e9] at hJ
      refine bz_iconst (pc := 24) dX12_isDigit_24 ci_1 ?_
      refine bz_goto (tgt := 29) (pc := 25) dX12_isDigit_25 rfl ?_
      exact hJ
theorem m_X12_isDigit {G : bz_G} {l : Launch} {d mc ms : Nat} {F : Option bz_V → bz_H → Prop} (a0 : Nat) (x1 : Int32) (h : bz_H) (hP : w_X12_isDigit_0 G l d F a0 x1 h) : bz_Call G l (d + 1) kX12_isDigit [.inr (some a0), .inl x1] h mc ms F :=
  bz_body (by decide) (Nat.le_of_ble_eq_true rfl) (fun κ hl => g_X12_isDigit_0 hl a0 x1 h hP)
def w_X12_isDouble_0 (G : bz_G) (κ : bz_K) (l : Launch) (d : Nat) (F : Option bz_V → bz_H → Prop) (bc bs : Nat) (a0 : Nat) (x1 : Int32) (x2 : Int32) (h : bz_H) : Prop := bz_rR h a0 12 0 (fun r_1 => bz_nn r_1 (fun a_2 => bz_rA h a_2 ((834 + (3 * x2)) + 2) (fun x_3 => bz_rR h a0 12 0 (fun r_4 => bz_nn r_4 (fun a_5 => bz_rA h a_5 ((834 + (3 * x1)) + 2) (fun x_6 => bz_J G κ kX12_isDouble (d + 1) F bc bs 42 [some (.inr (some a0)), some (.inl x1), some (.inl x2), some (.inl (834 + (3 * x1))), some (.inl (834 + (3 * x2))), none, none, none] [.inl (if x_6 ≤ x_3 then 0 else 1)] h))))))
set_option maxRecDepth 20000 in
set_option maxHeartbeats 4000000 in
theorem g_X12_isDouble_0 {G : bz_G} {κ : bz_K} {l : Launch} {d : Nat} {F : Option bz_V → bz_H → Prop} {bc bs : Nat} (hl : κ.2.1 = l) (a0 : Nat) (x1 : Int32) (x2 : Int32) (h : bz_H) (hP0 : w_X12_isDouble_0 G κ l d F bc bs a0 x1 x2 h) : bz_J G κ kX12_isDouble (d + 1) F bc bs 0 [some (.inr (some a0)), some (.inl x1), some (.inl x2), none, none, none, none, none] [] h := by
  subst hl
  unfold w_X12_isDouble_0 at hP0
  refine bz_sipush (pc := 0) dX12_isDouble_0 cs_834 ?_
  refine bz_iconst (pc := 3) dX12_isDouble_3 ci_3 ?_
  refine bz_iload_n (pc := 4) dX12_isDouble_4 rfl rfl ?_
  refine bz_imul (pc := 5) dX12_isDouble_5 ?_
  refine bz_iadd (pc := 6) dX12_isDouble_6 ?_
  refine bz_s_istore_n (pc := 7) dX12_isDouble_7 rfl (Nat.le_of_ble_eq_true rfl) [some (.inr (some a0)), some (.inl x1), some (.inl x2), some (.inl (834 + (3 * x1))), none, none, none, none] rfl ?_
  refine bz_sipush (pc := 8) dX12_isDouble_8 cs_834 ?_
  refine bz_iconst (pc := 11) dX12_isDouble_11 ci_3 ?_
  refine bz_iload_n (pc := 12) dX12_isDouble_12 rfl rfl ?_
  refine bz_imul (pc := 13) dX12_isDouble_13 ?_
  refine bz_iadd (pc := 14) dX12_isDouble_14 ?_
  refine bz_s_istore (pc := 15) dX12_isDouble_15 (Nat.le_of_ble_eq_true rfl) [some (.inr (some a0)), some (.inl x1), some (.inl x2), some (.inl (834 + (3 * x1))), some (.inl (834 + (3 * x2))), none, none, none] rfl ?_
  refine bz_aload_n (pc := 17) dX12_isDouble_17 rfl rfl ?_
  refine bz_rw_rR (pc := 18) dX12_isDouble_18 fl_X12_7 hP0 (fun r_1 hP1 => ?_)
  clear hP0
  refine bz_iload (pc := 21) dX12_isDouble_21 rfl ?_
  refine bz_iconst (pc := 23) dX12_isDouble_23 ci_2 ?_
  refine bz_iadd (pc := 24) dX12_isDouble_24 ?_
  obtain ⟨a_2, rfl, hP2⟩ := hP1
  refine bz_rw_rA (pc := 25) dX12_isDouble_25 hP2 (fun x_3 hP3 => ?_)
  clear hP2
  refine bz_aload_n (pc := 26) dX12_isDouble_26 rfl rfl ?_
  refine bz_rw_rR (pc := 27) dX12_isDouble_27 fl_X12_7 hP3 (fun r_4 hP4 => ?_)
  clear hP3
  refine bz_iload_n (pc := 30) dX12_isDouble_30 rfl rfl ?_
  refine bz_iconst (pc := 31) dX12_isDouble_31 ci_2 ?_
  refine bz_iadd (pc := 32) dX12_isDouble_32 ?_
  obtain ⟨a_5, rfl, hP5⟩ := hP4
  refine bz_rw_rA (pc := 33) dX12_isDouble_33 hP5 (fun x_6 hP6 => ?_)
  clear hP5
  have hJ : bz_J G κ kX12_isDouble (d + 1) F bc bs 42 [some (.inr (some a0)), some (.inl x1), some (.inl x2), some (.inl (834 + (3 * x1))), some (.inl (834 + (3 * x2))), none, none, none] [.inl (if x_6 ≤ x_3 then 0 else 1)] h := by
    exact hP6
  refine bz_icmp_ge (tgt := 41) (pc := 34) dX12_isDouble_34 rfl (fun c => ?_) (fun c => ?_)
  · have e9 : ((if x_6 ≤ x_3 then 0 else 1) : Int32) = (0) := if_pos c
    rw [e9] at hJ
    refine bz_iconst (pc := 41) dX12_isDouble_41 ci_0 ?_
    exact hJ
  · have e9 : ((if x_6 ≤ x_3 then 0 else 1) : Int32) = (1) := if_neg c
    rw [e9] at hJ
    refine bz_iconst (pc := 37) dX12_isDouble_37 ci_1 ?_
    refine bz_goto (tgt := 42) (pc := 38) dX12_isDouble_38 rfl ?_
    exact hJ
def w_X12_isDouble_42 (G : bz_G) (κ : bz_K) (l : Launch) (d : Nat) (F : Option bz_V → bz_H → Prop) (bc bs : Nat) (a0 : Nat) (x1 : Int32) (x2 : Int32) (x3 : Int32) (x4 : Int32) (u5 : Option bz_V) (u6 : Option bz_V) (u7 : Option bz_V) (y0 : Int32) (h : bz_H) : Prop := (y0 = 0 → bz_rR h a0 12 0 (fun r_7 => bz_nn r_7 (fun a_8 => bz_rA h a_8 (x3 + 1) (fun x_9 => bz_rR h a0 12 0 (fun r_10 => bz_nn r_10 (fun a_11 => bz_rA h a_11 (x4 + 1) (fun x_12 => bz_rc h a0 12 (bz_cI G l d kX12_wayOf [.inr (some a0), .inl x_9, .inl x_12] h 0 0 (fun x_13 h_14 => bz_J G κ kX12_isDouble (d + 1) F bc bs 94 [some (.inr (some a0)), some (.inl x1), some (.inl x2), some (.inl x3), some (.inl x4), some (.inl y0), u6, u7] [.inl x_13] h_14))))))))) ∧ (¬ (y0 = 0) → bz_rR h a0 12 0 (fun r_15 => bz_nn r_15 (fun a_16 => bz_rA h a_16 (x4 + 1) (fun x_17 => bz_rR h a0 12 0 (fun r_18 => bz_nn r_18 (fun a_19 => bz_rA h a_19 (x3 + 1) (fun x_20 => bz_rc h a0 12 (bz_cI G l d kX12_wayOf [.inr (some a0), .inl x_17, .inl x_20] h 0 0 (fun x_21 h_22 => bz_J G κ kX12_isDouble (d + 1) F bc bs 94 [some (.inr (some a0)), some (.inl x1), some (.inl x2), some (.inl x3), some (.inl x4), some (.inl y0), u6, u7] [.inl x_21] h_22)))))))))
set_option maxRecDepth 20000 in
set_option maxHeartbeats 4000000 in
theorem g_X12_isDouble_42 {G : bz_G} {κ : bz_K} {l : Launch} {d : Nat} {F : Option bz_V → bz_H → Prop} {bc bs : Nat} (hl : κ.2.1 = l) (a0 : Nat) (x1 : Int32) (x2 : Int32) (x3 : Int32) (x4 : Int32) (u5 : Option bz_V) (u6 : Option bz_V) (u7 : Option bz_V) (y0 : Int32) (h : bz_H) (hP0 : w_X12_isDouble_42 G κ l d F bc bs a0 x1 x2 x3 x4 u5 u6 u7 y0 h) : bz_J G κ kX12_isDouble (d + 1) F bc bs 42 [some (.inr (some a0)), some (.inl x1), some (.inl x2), some (.inl x3), some (.inl x4), u5, u6, u7] [.inl y0] h := by
  subst hl
  unfold w_X12_isDouble_42 at hP0
  refine bz_s_istore (pc := 42) dX12_isDouble_42 (Nat.le_of_ble_eq_true rfl) [some (.inr (some a0)), some (.inl x1), some (.inl x2), some (.inl x3), some (.inl x4), some (.inl y0), u6, u7] rfl ?_
  refine bz_iload (pc := 44) dX12_isDouble_44 rfl ?_
  refine bz_if_eq (tgt := 73) (pc := 46) dX12_isDouble_46 rfl (fun c => ?_) (fun c => ?_)
  · have hP1 := hP0.1 c
    clear hP0
    refine bz_aload_n (pc := 73) dX12_isDouble_73 rfl rfl ?_
    refine bz_aload_n (pc := 74) dX12_isDouble_74 rfl rfl ?_
    refine bz_rw_rR (pc := 75) dX12_isDouble_75 fl_X12_7 hP1 (fun r_7 hP2 => ?_)
    clear hP1
    refine bz_iload_n (pc := 78) dX12_isDouble_78 rfl rfl ?_
    refine bz_iconst (pc := 79) dX12_isDouble_79 ci_1 ?_
    refine bz_iadd (pc := 80) dX12_isDouble_80 ?_
    obtain ⟨a_8, rfl, hP3⟩ := hP2
    refine bz_rw_rA (pc := 81) dX12_isDouble_81 hP3 (fun x_9 hP4 => ?_)
    clear hP3
    refine bz_aload_n (pc := 82) dX12_isDouble_82 rfl rfl ?_
    refine bz_rw_rR (pc := 83) dX12_isDouble_83 fl_X12_7 hP4 (fun r_10 hP5 => ?_)
    clear hP4
    refine bz_iload (pc := 86) dX12_isDouble_86 rfl ?_
    refine bz_iconst (pc := 88) dX12_isDouble_88 ci_1 ?_
    refine bz_iadd (pc := 89) dX12_isDouble_89 ?_
    obtain ⟨a_11, rfl, hP6⟩ := hP5
    refine bz_rw_rA (pc := 90) dX12_isDouble_90 hP6 (fun x_12 hP7 => ?_)
    clear hP6
    refine bz_kIV (as := [.inl x_9, .inl x_12]) (st := []) (ci := 12) (n := 2) (mc := 0) (ms := 0) (bc := bc) (bs := bs) (yc := kX12_wayOf) (q := (RX12, TX12, 34)) (b := a0) (pc := 91) dX12_isDouble_91 sc_X12_wayOf ml_X12_96 im_X12_wayOf se_X12_wayOf rfl rfl rfl (Nat.le_of_ble_eq_true rfl) hP7 (fun x_13 h_14 hP8 => ?_)
    clear hP7
    exact hP8
  · have hP9 := hP0.2 c
    clear hP0
    refine bz_aload_n (pc := 49) dX12_isDouble_49 rfl rfl ?_
    refine bz_aload_n (pc := 50) dX12_isDouble_50 rfl rfl ?_
    refine bz_rw_rR (pc := 51) dX12_isDouble_51 fl_X12_7 hP9 (fun r_15 hP10 => ?_)
    clear hP9
    refine bz_iload (pc := 54) dX12_isDouble_54 rfl ?_
    refine bz_iconst (pc := 56) dX12_isDouble_56 ci_1 ?_
    refine bz_iadd (pc := 57) dX12_isDouble_57 ?_
    obtain ⟨a_16, rfl, hP11⟩ := hP10
    refine bz_rw_rA (pc := 58) dX12_isDouble_58 hP11 (fun x_17 hP12 => ?_)
    clear hP11
    refine bz_aload_n (pc := 59) dX12_isDouble_59 rfl rfl ?_
    refine bz_rw_rR (pc := 60) dX12_isDouble_60 fl_X12_7 hP12 (fun r_18 hP13 => ?_)
    clear hP12
    refine bz_iload_n (pc := 63) dX12_isDouble_63 rfl rfl ?_
    refine bz_iconst (pc := 64) dX12_isDouble_64 ci_1 ?_
    refine bz_iadd (pc := 65) dX12_isDouble_65 ?_
    obtain ⟨a_19, rfl, hP14⟩ := hP13
    refine bz_rw_rA (pc := 66) dX12_isDouble_66 hP14 (fun x_20 hP15 => ?_)
    clear hP14
    refine bz_kIV (as := [.inl x_17, .inl x_20]) (st := []) (ci := 12) (n := 2) (mc := 0) (ms := 0) (bc := bc) (bs := bs) (yc := kX12_wayOf) (q := (RX12, TX12, 34)) (b := a0) (pc := 67) dX12_isDouble_67 sc_X12_wayOf ml_X12_96 im_X12_wayOf se_X12_wayOf rfl rfl rfl (Nat.le_of_ble_eq_true rfl) hP15 (fun x_21 h_22 hP16 => ?_)
    clear hP15
    refine bz_goto (tgt := 94) (pc := 70) dX12_isDouble_70 rfl ?_
    exact hP16
def w_X12_isDouble_94 (G : bz_G) (l : Launch) (d : Nat) (F : Option bz_V → bz_H → Prop) (a0 : Nat) (x1 : Int32) (x2 : Int32) (x3 : Int32) (x4 : Int32) (x5 : Int32) (u6 : Option bz_V) (u7 : Option bz_V) (y0 : Int32) (h : bz_H) : Prop := (x5 = 0 → bz_rR h a0 12 0 (fun r_23 => bz_nn r_23 (fun a_24 => bz_rA h a_24 (x4 + 2) (fun x_25 => bz_rR h a0 12 0 (fun r_26 => bz_nn r_26 (fun a_27 => bz_rA h a_27 (x3 + 2) (fun x_28 => F (some (.inl (if y0 < 0 then 1 else if y0 ≤ (x_25 - x_28) then 0 else 1))) h))))))) ∧ (¬ (x5 = 0) → bz_rR h a0 12 0 (fun r_29 => bz_nn r_29 (fun a_30 => bz_rA h a_30 (x3 + 2) (fun x_31 => bz_rR h a0 12 0 (fun r_32 => bz_nn r_32 (fun a_33 => bz_rA h a_33 (x4 + 2) (fun x_34 => F (some (.inl (if y0 < 0 then 1 else if y0 ≤ (x_31 - x_34) then 0 else 1))) h)))))))
set_option maxRecDepth 20000 in
set_option maxHeartbeats 4000000 in
theorem g_X12_isDouble_94 {G : bz_G} {κ : bz_K} {l : Launch} {d : Nat} {F : Option bz_V → bz_H → Prop} {bc bs : Nat} (hl : κ.2.1 = l) (a0 : Nat) (x1 : Int32) (x2 : Int32) (x3 : Int32) (x4 : Int32) (x5 : Int32) (u6 : Option bz_V) (u7 : Option bz_V) (y0 : Int32) (h : bz_H) (hP0 : w_X12_isDouble_94 G l d F a0 x1 x2 x3 x4 x5 u6 u7 y0 h) : bz_J G κ kX12_isDouble (d + 1) F bc bs 94 [some (.inr (some a0)), some (.inl x1), some (.inl x2), some (.inl x3), some (.inl x4), some (.inl x5), u6, u7] [.inl y0] h := by
  subst hl
  unfold w_X12_isDouble_94 at hP0
  refine bz_s_istore (pc := 94) dX12_isDouble_94 (Nat.le_of_ble_eq_true rfl) [some (.inr (some a0)), some (.inl x1), some (.inl x2), some (.inl x3), some (.inl x4), some (.inl x5), some (.inl y0), u7] rfl ?_
  refine bz_iload (pc := 96) dX12_isDouble_96 rfl ?_
  refine bz_if_eq (tgt := 122) (pc := 98) dX12_isDouble_98 rfl (fun c => ?_) (fun c => ?_)
  · have hP1 := hP0.1 c
    clear hP0
    refine bz_aload_n (pc := 122) dX12_isDouble_122 rfl rfl ?_
    refine bz_rw_rR (pc := 123) dX12_isDouble_123 fl_X12_7 hP1 (fun r_23 hP2 => ?_)
    clear hP1
    refine bz_iload (pc := 126) dX12_isDouble_126 rfl ?_
    refine bz_iconst (pc := 128) dX12_isDouble_128 ci_2 ?_
    refine bz_iadd (pc := 129) dX12_isDouble_129 ?_
    obtain ⟨a_24, rfl, hP3⟩ := hP2
    refine bz_rw_rA (pc := 130) dX12_isDouble_130 hP3 (fun x_25 hP4 => ?_)
    clear hP3
    refine bz_aload_n (pc := 131) dX12_isDouble_131 rfl rfl ?_
    refine bz_rw_rR (pc := 132) dX12_isDouble_132 fl_X12_7 hP4 (fun r_26 hP5 => ?_)
    clear hP4
    refine bz_iload_n (pc := 135) dX12_isDouble_135 rfl rfl ?_
    refine bz_iconst (pc := 136) dX12_isDouble_136 ci_2 ?_
    refine bz_iadd (pc := 137) dX12_isDouble_137 ?_
    obtain ⟨a_27, rfl, hP6⟩ := hP5
    refine bz_rw_rA (pc := 138) dX12_isDouble_138 hP6 (fun x_28 hP7 => ?_)
    clear hP6
    refine bz_isub (pc := 139) dX12_isDouble_139 ?_
    refine bz_s_istore (pc := 140) dX12_isDouble_140 (Nat.le_of_ble_eq_true rfl) [some (.inr (some a0)), some (.inl x1), some (.inl x2), some (.inl x3), some (.inl x4), some (.inl x5), some (.inl y0), some (.inl (x_25 - x_28))] rfl ?_
    refine bz_iload (pc := 142) dX12_isDouble_142 rfl ?_
    have hJ : bz_J G κ kX12_isDouble (d + 1) F bc bs 159 [some (.inr (some a0)), some (.inl x1), some (.inl x2), some (.inl x3), some (.inl x4), some (.inl x5), some (.inl y0), some (.inl (x_25 - x_28))] [.inl (if y0 < 0 then 1 else if y0 ≤ (x_25 - x_28) then 0 else 1)] h := by
      exact bz_retI (pc := 159) dX12_isDouble_159 rfl (by (repeat' split) <;> rfl) hP7
    refine bz_if_lt (tgt := 154) (pc := 144) dX12_isDouble_144 rfl (fun c => ?_) (fun c => ?_)
    · have e9 : ((if y0 < 0 then 1 else if y0 ≤ (x_25 - x_28) then 0 else 1) : Int32) = (1) := if_pos c
      rw [e9] at hJ
      refine bz_iconst (pc := 154) dX12_isDouble_154 ci_1 ?_
      refine bz_goto (tgt := 159) (pc := 155) dX12_isDouble_155 rfl ?_
      exact hJ
    · have e9 : ((if y0 < 0 then 1 else if y0 ≤ (x_25 - x_28) then 0 else 1) : Int32) = (if y0 ≤ (x_25 - x_28) then 0 else 1) := if_neg c
      rw [e9] at hJ
      refine bz_iload (pc := 147) dX12_isDouble_147 rfl ?_
      refine bz_iload (pc := 149) dX12_isDouble_149 rfl ?_
      refine bz_icmp_le (tgt := 158) (pc := 151) dX12_isDouble_151 rfl (fun c => ?_) (fun c => ?_)
      · have e9 : ((if y0 ≤ (x_25 - x_28) then 0 else 1) : Int32) = (0) := if_pos c
        rw [e9] at hJ
        refine bz_iconst (pc := 158) dX12_isDouble_158 ci_0 ?_
        exact hJ
      · have e9 : ((if y0 ≤ (x_25 - x_28) then 0 else 1) : Int32) = (1) := if_neg c
        rw [e9] at hJ
        refine bz_iconst (pc := 154) dX12_isDouble_154 ci_1 ?_
        refine bz_goto (tgt := 159) (pc := 155) dX12_isDouble_155 rfl ?_
        exact hJ
  · have hP8 := hP0.2 c
    clear hP0
    refine bz_aload_n (pc := 101) dX12_isDouble_101 rfl rfl ?_
    refine bz_rw_rR (pc := 102) dX12_isDouble_102 fl_X12_7 hP8 (fun r_29 hP9 => ?_)
    clear hP8
    refine bz_iload_n (pc := 105) dX12_isDouble_105 rfl rfl ?_
    refine bz_iconst (pc := 106) dX12_isDouble_106 ci_2 ?_
    refine bz_iadd (pc := 107) dX12_isDouble_107 ?_
    obtain ⟨a_30, rfl, hP10⟩ := hP9
    refine bz_rw_rA (pc := 108) dX12_isDouble_108 hP10 (fun x_31 hP11 => ?_)
    clear hP10
    refine bz_aload_n (pc := 109) dX12_isDouble_109 rfl rfl ?_
    refine bz_rw_rR (pc := 110) dX12_isDouble_110 fl_X12_7 hP11 (fun r_32 hP12 => ?_)
    clear hP11
    refine bz_iload (pc := 113) dX12_isDouble_113 rfl ?_
    refine bz_iconst (pc := 115) dX12_isDouble_115 ci_2 ?_
    refine bz_iadd (pc := 116) dX12_isDouble_116 ?_
    obtain ⟨a_33, rfl, hP13⟩ := hP12
    refine bz_rw_rA (pc := 117) dX12_isDouble_117 hP13 (fun x_34 hP14 => ?_)
    clear hP13
    refine bz_isub (pc := 118) dX12_isDouble_118 ?_
    refine bz_goto (tgt := 140) (pc := 119) dX12_isDouble_119 rfl ?_
    refine bz_s_istore (pc := 140) dX12_isDouble_140 (Nat.le_of_ble_eq_true rfl) [some (.inr (some a0)), some (.inl x1), some (.inl x2), some (.inl x3), some (.inl x4), some (.inl x5), some (.inl y0), some (.inl (x_31 - x_34))] rfl ?_
    refine bz_iload (pc := 142) dX12_isDouble_142 rfl ?_
    have hJ : bz_J G κ kX12_isDouble (d + 1) F bc bs 159 [some (.inr (some a0)), some (.inl x1), some (.inl x2), some (.inl x3), some (.inl x4), some (.inl x5), some (.inl y0), some (.inl (x_31 - x_34))] [.inl (if y0 < 0 then 1 else if y0 ≤ (x_31 - x_34) then 0 else 1)] h := by
      exact bz_retI (pc := 159) dX12_isDouble_159 rfl (by (repeat' split) <;> rfl) hP14
    refine bz_if_lt (tgt := 154) (pc := 144) dX12_isDouble_144 rfl (fun c => ?_) (fun c => ?_)
    · have e9 : ((if y0 < 0 then 1 else if y0 ≤ (x_31 - x_34) then 0 else 1) : Int32) = (1) := if_pos c
      rw [e9] at hJ
      refine bz_iconst (pc := 154) dX12_isDouble_154 ci_1 ?_
      refine bz_goto (tgt := 159) (pc := 155) dX12_isDouble_155 rfl ?_
      exact hJ
    · have e9 : ((if y0 < 0 then 1 else if y0 ≤ (x_31 - x_34) then 0 else 1) : Int32) = (if y0 ≤ (x_31 - x_34) then 0 else 1) := if_neg c
      rw [e9] at hJ
      refine bz_iload (pc := 147) dX12_isDouble_147 rfl ?_
      refine bz_iload (pc := 149) dX12_isDouble_149 rfl ?_
      refine bz_icmp_le (tgt := 158) (pc := 151) dX12_isDouble_151 rfl (fun c => ?_) (fun c => ?_)
      · have e9 : ((if y0 ≤ (x_31 - x_34) then 0 else 1) : Int32) = (0) := if_pos c
        rw [e9] at hJ
        refine bz_iconst (pc := 158) dX12_isDouble_158 ci_0 ?_
        exact hJ
      · have e9 : ((if y0 ≤ (x_31 - x_34) then 0 else 1) : Int32) = (1) := if_neg c
        rw [e9] at hJ
        refine bz_iconst (pc := 154) dX12_isDouble_154 ci_1 ?_
        refine bz_goto (tgt := 159) (pc := 155) dX12_isDouble_155 rfl ?_
        exact hJ
theorem m_X12_isDouble {G : bz_G} {l : Launch} {d mc ms : Nat} {F : Option bz_V → bz_H → Prop} (a0 : Nat) (x1 : Int32) (x2 : Int32) (h : bz_H) (hP : ∀ (κ : bz_K) (bc bs : Nat), κ.2.1 = l → w_X12_isDouble_0 G κ l d F bc bs a0 x1 x2 h) : bz_Call G l (d + 1) kX12_isDouble [.inr (some a0), .inl x1, .inl x2] h mc ms F :=
  bz_body (by decide) (Nat.le_of_ble_eq_true rfl) (fun κ hl => g_X12_isDouble_0 hl a0 x1 x2 h (hP κ mc ms hl))
