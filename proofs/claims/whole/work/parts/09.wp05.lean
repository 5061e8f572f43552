def w_X11_starves_0 (G : bz_G) (κ : bz_K) (l : Launch) (d : Nat) (F : Option bz_V → bz_H → Prop) (bc bs : Nat) (a0 : Nat) (x1 : Int32) (h : bz_H) : Prop := bz_cI G l d kX11_isMinute [.inl x1] h 0 0 (fun x_1 h_2 => (¬ x_1 = 0 → bz_J G κ kX11_starves (d + 1) F bc bs 21 [some (.inr (some a0)), some (.inl x1), some (.inl (-1)), some (.inl 0), some (.inl 0), none] [] h_2) ∧ (x_1 = 0 → bz_rc h_2 a0 11 (bz_cI G l d kX11_finding [.inr (some a0), .inl (-1000001)] h_2 0 0 (fun x_3 h_4 => F (some (.inl x_3)) h_4))))
set_option maxRecDepth 20000 in
set_option maxHeartbeats 4000000 in
theorem g_X11_starves_0 {G : bz_G} {κ : bz_K} {l : Launch} {d : Nat} {F : Option bz_V → bz_H → Prop} {bc bs : Nat} (hl : κ.2.1 = l) (a0 : Nat) (x1 : Int32) (h : bz_H) (hP0 : w_X11_starves_0 G κ l d F bc bs a0 x1 h) : bz_J G κ kX11_starves (d + 1) F bc bs 0 [some (.inr (some a0)), some (.inl x1), none, none, none, none] [] h := by
  subst hl
  unfold w_X11_starves_0 at hP0
  refine bz_iload_n (pc := 0) dX11_starves_0 rfl rfl ?_
  refine bz_kIS (as := [.inl x1]) (st := []) (n := 1) (mc := 0) (ms := 0) (bc := bc) (bs := bs) (yc := kX11_isMinute) (pc := 1) dX11_starves_1 sc_X11_isMinute ml_X11_313 ss_X11_isMinute rfl (Nat.le_of_ble_eq_true rfl) hP0 (fun x_1 h_2 hP1 => ?_)
  clear hP0
  refine bz_if_ne (tgt := 14) (pc := 4) dX11_starves_4 rfl (fun c => ?_) (fun c => ?_)
  · have hP2 := hP1.1 c
    clear hP1
    refine bz_iconst (pc := 14) dX11_starves_14 ci_m1 ?_
    refine bz_s_istore_n (pc := 15) dX11_starves_15 rfl (Nat.le_of_ble_eq_true rfl) [some (.inr (some a0)), some (.inl x1), some (.inl (-1)), none, none, none] rfl ?_
    refine bz_iconst (pc := 16) dX11_starves_16 ci_0 ?_
    refine bz_s_istore_n (pc := 17) dX11_starves_17 rfl (Nat.le_of_ble_eq_true rfl) [some (.inr (some a0)), some (.inl x1), some (.inl (-1)), some (.inl 0), none, none] rfl ?_
    refine bz_iconst (pc := 18) dX11_starves_18 ci_0 ?_
    refine bz_s_istore (pc := 19) dX11_starves_19 (Nat.le_of_ble_eq_true rfl) [some (.inr (some a0)), some (.inl x1), some (.inl (-1)), some (.inl 0), some (.inl 0), none] rfl ?_
    exact hP2
  · have hP3 := hP1.2 c
    clear hP1
    refine bz_aload_n (pc := 7) dX11_starves_7 rfl rfl ?_
    refine bz_ldc (pc := 8) dX11_starves_8 ct_X11_78 ?_
    refine bz_kIV (as := [.inl (-1000001)]) (st := []) (ci := 11) (n := 1) (mc := 0) (ms := 0) (bc := bc) (bs := bs) (yc := kX11_finding) (q := (RX11, TX11, 9)) (b := a0) (pc := 10) dX11_starves_10 sc_X11_finding ml_X11_79 im_X11_finding se_X11_finding rfl rfl rfl (Nat.le_of_ble_eq_true rfl) hP3 (fun x_3 h_4 hP4 => ?_)
    clear hP3
    exact bz_retI (pc := 13) dX11_starves_13 rfl rfl hP4
def w_X11_starves_21 (G : bz_G) (κ : bz_K) (l : Launch) (d : Nat) (F : Option bz_V → bz_H → Prop) (bc bs : Nat) (a0 : Nat) (x1 : Int32) (x2 : Int32) (x3 : Int32) (x4 : Int32) (u5 : Option bz_V) (h : bz_H) : Prop := (4 ≤ x4 → (0 ≤ x2 → F (some (.inl x2)) h) ∧ (¬ (0 ≤ x2) → bz_rc h a0 11 (bz_cI G l d kX11_finding [.inr (some a0), .inl (-1000004)] h 0 0 (fun x_5 h_6 => F (some (.inl x_5)) h_6)))) ∧ (¬ (4 ≤ x4) → bz_rR h a0 11 0 (fun r_7 => bz_nn r_7 (fun a_10 => bz_rc h a_10 10 (bz_cI G l d kX10_waitingIn [.inr (some a_10), .inl x4, .inl x1] h 0 0 (fun x_8 h_9 => (x_8 ≤ x3 → bz_J G κ kX11_starves (d + 1) F bc bs 21 [some (.inr (some a0)), some (.inl x1), some (.inl x2), some (.inl x3), some (.inl (x4 + 1)), some (.inl x_8)] [] h_9) ∧ (¬ (x_8 ≤ x3) → bz_J G κ kX11_starves (d + 1) F bc bs 21 [some (.inr (some a0)), some (.inl x1), some (.inl x4), some (.inl x_8), some (.inl (x4 + 1)), some (.inl x_8)] [] h_9))))))
set_option maxRecDepth 20000 in
set_option maxHeartbeats 4000000 in
theorem g_X11_starves_21 {G : bz_G} {κ : bz_K} {l : Launch} {d : Nat} {F : Option bz_V → bz_H → Prop} {bc bs : Nat} (hl : κ.2.1 = l) (a0 : Nat) (x1 : Int32) (x2 : Int32) (x3 : Int32) (x4 : Int32) (u5 : Option bz_V) (h : bz_H) (hP0 : w_X11_starves_21 G κ l d F bc bs a0 x1 x2 x3 x4 u5 h) : bz_J G κ kX11_starves (d + 1) F bc bs 21 [some (.inr (some a0)), some (.inl x1), some (.inl x2), some (.inl x3), some (.inl x4), u5] [] h := by
  subst hl
  unfold w_X11_starves_21 at hP0
  refine bz_iload (pc := 21) dX11_starves_21 rfl ?_
  refine bz_iconst (pc := 23) dX11_starves_23 ci_4 ?_
  refine bz_icmp_ge (tgt := 57) (pc := 24) dX11_starves_24 rfl (fun c => ?_) (fun c => ?_)
  · have hP1 := hP0.1 c
    clear hP0
    refine bz_iload_n (pc := 57) dX11_starves_57 rfl rfl ?_
    refine bz_if_ge (tgt := 70) (pc := 58) dX11_starves_58 rfl (fun c => ?_) (fun c => ?_)
    · have hP2 := hP1.1 c
      clear hP1
      refine bz_iload_n (pc := 70) dX11_starves_70 rfl rfl ?_
      exact bz_retI (pc := 71) dX11_starves_71 rfl rfl hP2
    · have hP3 := hP1.2 c
      clear hP1
      refine bz_aload_n (pc := 61) dX11_starves_61 rfl rfl ?_
      refine bz_ldc (pc := 62) dX11_starves_62 ct_X11_102 ?_
      refine bz_kIV (as := [.inl (-1000004)]) (st := []) (ci := 11) (n := 1) (mc := 0) (ms := 0) (bc := bc) (bs := bs) (yc := kX11_finding) (q := (RX11, TX11, 9)) (b := a0) (pc := 64) dX11_starves_64 sc_X11_finding ml_X11_79 im_X11_finding se_X11_finding rfl rfl rfl (Nat.le_of_ble_eq_true rfl) hP3 (fun x_5 h_6 hP4 => ?_)
      clear hP3
      refine bz_goto (tgt := 71) (pc := 67) dX11_starves_67 rfl ?_
      exact bz_retI (pc := 71) dX11_starves_71 rfl rfl hP4
  · have hP5 := hP0.2 c
    clear hP0
    refine bz_aload_n (pc := 27) dX11_starves_27 rfl rfl ?_
    refine bz_rw_rR (pc := 28) dX11_starves_28 fl_X11_12 hP5 (fun r_7 hP6 => ?_)
    clear hP5
    refine bz_iload (pc := 31) dX11_starves_31 rfl ?_
    refine bz_iload_n (pc := 33) dX11_starves_33 rfl rfl ?_
    obtain ⟨a_10, rfl, hP7⟩ := hP6
    refine bz_kIV (as := [.inl x4, .inl x1]) (st := []) (ci := 10) (n := 2) (mc := 0) (ms := 0) (bc := bc) (bs := bs) (yc := kX10_waitingIn) (q := (RX10, TX10, 16)) (b := a_10) (pc := 34) dX11_starves_34 sc_X10_waitingIn ml_X11_349 im_X10_waitingIn se_X10_waitingIn rfl rfl rfl (Nat.le_of_ble_eq_true rfl) hP7 (fun x_8 h_9 hP8 => ?_)
    clear hP7
    refine bz_s_istore (pc := 37) dX11_starves_37 (Nat.le_of_ble_eq_true rfl) [some (.inr (some a0)), some (.inl x1), some (.inl x2), some (.inl x3), some (.inl x4), some (.inl x_8)] rfl ?_
    refine bz_iload (pc := 39) dX11_starves_39 rfl ?_
    refine bz_iload_n (pc := 41) dX11_starves_41 rfl rfl ?_
    refine bz_icmp_le (tgt := 51) (pc := 42) dX11_starves_42 rfl (fun c => ?_) (fun c => ?_)
    · have hP9 := hP8.1 c
      clear hP8
      refine bz_s_iinc (pc := 51) dX11_starves_51 (Nat.le_of_ble_eq_true rfl) rfl rfl [some (.inr (some a0)), some (.inl x1), some (.inl x2), some (.inl x3), some (.inl (x4 + 1)), some (.inl x_8)] rfl ?_
      refine bz_goto (tgt := 21) (pc := 54) dX11_starves_54 rfl ?_
      exact hP9
    · have hP10 := hP8.2 c
      clear hP8
      refine bz_iload (pc := 45) dX11_starves_45 rfl ?_
      refine bz_s_istore_n (pc := 47) dX11_starves_47 rfl (Nat.le_of_ble_eq_true rfl) [some (.inr (some a0)), some (.inl x1), some (.inl x2), some (.inl x_8), some (.inl x4), some (.inl x_8)] rfl ?_
      refine bz_iload (pc := 48) dX11_starves_48 rfl ?_
      refine bz_s_istore_n (pc := 50) dX11_starves_50 rfl (Nat.le_of_ble_eq_true rfl) [some (.inr (some a0)), some (.inl x1), some (.inl x4), some (.inl x_8), some (.inl x4), some (.inl x_8)] rfl ?_
      refine bz_s_iinc (pc := 51) dX11_starves_51 (Nat.le_of_ble_eq_true rfl) rfl rfl [some (.inr (some a0)), some (.inl x1), some (.inl x4), some (.inl x_8), some (.inl (x4 + 1)), some (.inl x_8)] rfl ?_
      refine bz_goto (tgt := 21) (pc := 54) dX11_starves_54 rfl ?_
      exact hP10
theorem m_X11_starves {G : bz_G} {l : Launch} {d mc ms : Nat} {F : Option bz_V → bz_H → Prop} (a0 : Nat) (x1 : Int32) (h : bz_H) (hP : ∀ (κ : bz_K) (bc bs : Nat), κ.2.1 = l → w_X11_starves_0 G κ l d F bc bs a0 x1 h) : bz_Call G l (d + 1) kX11_starves [.inr (some a0), .inl x1] h mc ms F :=
  bz_body (by decide) (Nat.le_of_ble_eq_true rfl) (fun κ hl => g_X11_starves_0 hl a0 x1 h (hP κ mc ms hl))
def w_X11_status_0 (G : bz_G) (κ : bz_K) (l : Launch) (d : Nat) (F : Option bz_V → bz_H → Prop) (bc bs : Nat) (a0 : Nat) (x1 : Int32) (h : bz_H) : Prop := bz_cI G l d kX11_isWithin [.inl x1, .inl (-1), .inl 6] h 0 0 (fun x_1 h_2 => (¬ x_1 = 0 → (x1 < 0 → bz_J G κ kX11_status (d + 1) F bc bs 32 [some (.inr (some a0)), some (.inl x1), some (.inl 0), some (.inl 0)] [] h_2) ∧ (¬ (x1 < 0) → bz_rR h_2 a0 11 5 (fun r_3 => bz_nn r_3 (fun a_4 => bz_rA h_2 a_4 x1 (fun x_5 => F (some (.inl x_5)) h_2))))) ∧ (x_1 = 0 → bz_rc h_2 a0 11 (bz_cI G l d kX11_finding [.inr (some a0), .inl (-1000001)] h_2 0 0 (fun x_6 h_7 => F (some (.inl x_6)) h_7))))
set_option maxRecDepth 20000 in
set_option maxHeartbeats 4000000 in
theorem g_X11_status_0 {G : bz_G} {κ : bz_K} {l : Launch} {d : Nat} {F : Option bz_V → bz_H → Prop} {bc bs : Nat} (hl : κ.2.1 = l) (a0 : Nat) (x1 : Int32) (h : bz_H) (hP0 : w_X11_status_0 G κ l d F bc bs a0 x1 h) : bz_J G κ kX11_status (d + 1) F bc bs 0 [some (.inr (some a0)), some (.inl x1), none, none] [] h := by
  subst hl
  unfold w_X11_status_0 at hP0
  refine bz_iload_n (pc := 0) dX11_status_0 rfl rfl ?_
  refine bz_iconst (pc := 1) dX11_status_1 ci_m1 ?_
  refine bz_bipush (pc := 2) dX11_status_2 cb_6 ?_
  refine bz_kIS (as := [.inl x1, .inl (-1), .inl 6]) (st := []) (n := 3) (mc := 0) (ms := 0) (bc := bc) (bs := bs) (yc := kX11_isWithin) (pc := 4) dX11_status_4 sc_X11_isWithin ml_X11_74 ss_X11_isWithin rfl (Nat.le_of_ble_eq_true rfl) hP0 (fun x_1 h_2 hP1 => ?_)
  clear hP0
  refine bz_if_ne (tgt := 17) (pc := 7) dX11_status_7 rfl (fun c => ?_) (fun c => ?_)
  · have hP2 := hP1.1 c
    clear hP1
    refine bz_iload_n (pc := 17) dX11_status_17 rfl rfl ?_
    refine bz_if_lt (tgt := 28) (pc := 18) dX11_status_18 rfl (fun c => ?_) (fun c => ?_)
    · have hP3 := hP2.1 c
      clear hP2
      refine bz_iconst (pc := 28) dX11_status_28 ci_0 ?_
      refine bz_s_istore_n (pc := 29) dX11_status_29 rfl (Nat.le_of_ble_eq_true rfl) [some (.inr (some a0)), some (.inl x1), some (.inl 0), none] rfl ?_
      refine bz_iconst (pc := 30) dX11_status_30 ci_0 ?_
      refine bz_s_istore_n (pc := 31) dX11_status_31 rfl (Nat.le_of_ble_eq_true rfl) [some (.inr (some a0)), some (.inl x1), some (.inl 0), some (.inl 0)] rfl ?_
      exact hP3
    · have hP4 := hP2.2 c
      clear hP2
      refine bz_aload_n (pc := 21) dX11_status_21 rfl rfl ?_
      refine bz_rw_rR (pc := 22) dX11_status_22 fl_X11_37 hP4 (fun r_3 hP5 => ?_)
      clear hP4
      refine bz_iload_n (pc := 25) dX11_status_25 rfl rfl ?_
      obtain ⟨a_4, rfl, hP6⟩ := hP5
      refine bz_rw_rA (pc := 26) dX11_status_26 hP6 (fun x_5 hP7 => ?_)
      clear hP6
      exact bz_retI (pc := 27) dX11_status_27 rfl rfl hP7
  · have hP8 := hP1.2 c
    clear hP1
    refine bz_aload_n (pc := 10) dX11_status_10 rfl rfl ?_
    refine bz_ldc (pc := 11) dX11_status_11 ct_X11_78 ?_
    refine bz_kIV (as := [.inl (-1000001)]) (st := []) (ci := 11) (n := 1) (mc := 0) (ms := 0) (bc := bc) (bs := bs) (yc := kX11_finding) (q := (RX11, TX11, 9)) (b := a0) (pc := 13) dX11_status_13 sc_X11_finding ml_X11_79 im_X11_finding se_X11_finding rfl rfl rfl (Nat.le_of_ble_eq_true rfl) hP8 (fun x_6 h_7 hP9 => ?_)
    clear hP8
    exact bz_retI (pc := 16) dX11_status_16 rfl rfl hP9
def w_X11_status_32 (G : bz_G) (κ : bz_K) (l : Launch) (d : Nat) (F : Option bz_V → bz_H → Prop) (bc bs : Nat) (a0 : Nat) (x1 : Int32) (x2 : Int32) (x3 : Int32) (h : bz_H) : Prop := (7 ≤ x3 → F (some (.inl x2)) h) ∧ (¬ (7 ≤ x3) → bz_rR h a0 11 5 (fun r_8 => bz_nn r_8 (fun a_9 => bz_rA h a_9 x3 (fun x_10 => bz_J G κ kX11_status (d + 1) F bc bs 32 [some (.inr (some a0)), some (.inl x1), some (.inl (x2 + x_10)), some (.inl (x3 + 1))] [] h))))
set_option maxRecDepth 20000 in
set_option maxHeartbeats 4000000 in
theorem g_X11_status_32 {G : bz_G} {κ : bz_K} {l : Launch} {d : Nat} {F : Option bz_V → bz_H → Prop} {bc bs : Nat} (hl : κ.2.1 = l) (a0 : Nat) (x1 : Int32) (x2 : Int32) (x3 : Int32) (h : bz_H) (hP0 : w_X11_status_32 G κ l d F bc bs a0 x1 x2 x3 h) : bz_J G κ kX11_status (d + 1) F bc bs 32 [some (.inr (some a0)), some (.inl x1), some (.inl x2), some (.inl x3)] [] h := by
  subst hl
  unfold w_X11_status_32 at hP0
  refine bz_iload_n (pc := 32) dX11_status_32 rfl rfl ?_
  refine bz_bipush (pc := 33) dX11_status_33 cb_7 ?_
  refine bz_icmp_ge (tgt := 53) (pc := 35) dX11_status_35 rfl (fun c => ?_) (fun c => ?_)
  · have hP1 := hP0.1 c
    clear hP0
    refine bz_iload_n (pc := 53) dX11_status_53 rfl rfl ?_
    exact bz_retI (pc := 54) dX11_status_54 rfl rfl hP1
  · have hP2 := hP0.2 c
    clear hP0
    refine bz_iload_n (pc := 38) dX11_status_38 rfl rfl ?_
    refine bz_aload_n (pc := 39) dX11_status_39 rfl rfl ?_
    refine bz_rw_rR (pc := 40) dX11_status_40 fl_X11_37 hP2 (fun r_8 hP3 => ?_)
    clear hP2
    refine bz_iload_n (pc := 43) dX11_status_43 rfl rfl ?_
    obtain ⟨a_9, rfl, hP4⟩ := hP3
    refine bz_rw_rA (pc := 44) dX11_status_44 hP4 (fun x_10 hP5 => ?_)
    clear hP4
    refine bz_iadd (pc := 45) dX11_status_45 ?_
    refine bz_s_istore_n (pc := 46) dX11_status_46 rfl (Nat.le_of_ble_eq_true rfl) [some (.inr (some a0)), some (.inl x1), some (.inl (x2 + x_10)), some (.inl x3)] rfl ?_
    refine bz_s_iinc (pc := 47) dX11_status_47 (Nat.le_of_ble_eq_true rfl) rfl rfl [some (.inr (some a0)), some (.inl x1), some (.inl (x2 + x_10)), some (.inl (x3 + 1))] rfl ?_
    refine bz_goto (tgt := 32) (pc := 50) dX11_status_50 rfl ?_
    exact hP5
theorem m_X11_status {G : bz_G} {l : Launch} {d mc ms : Nat} {F : Option bz_V → bz_H → Prop} (a0 : Nat) (x1 : Int32) (h : bz_H) (hP : ∀ (κ : bz_K) (bc bs : Nat), κ.2.1 = l → w_X11_status_0 G κ l d F bc bs a0 x1 h) : bz_Call G l (d + 1) kX11_status [.inr (some a0), .inl x1] h mc ms F :=
  bz_body (by decide) (Nat.le_of_ble_eq_true rfl) (fun κ hl => g_X11_status_0 hl a0 x1 h (hP κ mc ms hl))
def w_X11_tear_0 (G : bz_G) (l : Launch) (d : Nat) (F : Option bz_V → bz_H → Prop) (a0 : Nat) (h : bz_H) : Prop := bz_rI h a0 11 2 (fun x_1 => bz_b 0 (bz_wI h a0 11 2 0 (fun h_2 => F (some (.inl (if x_1 = 0 then 0 else 1))) h_2)))
set_option maxRecDepth 20000 in
set_option maxHeartbeats 4000000 in
theorem g_X11_tear_0 {G : bz_G} {κ : bz_K} {l : Launch} {d : Nat} {F : Option bz_V → bz_H → Prop} {bc bs : Nat} (hl : κ.2.1 = l) (a0 : Nat) (h : bz_H) (hP0 : w_X11_tear_0 G l d F a0 h) : bz_J G κ kX11_tear (d + 1) F bc bs 0 [some (.inr (some a0)), none] [] h := by
  subst hl
  unfold w_X11_tear_0 at hP0
  refine bz_aload_n (pc := 0) dX11_tear_0 rfl rfl ?_
  refine bz_rw_rI (pc := 1) dX11_tear_1 fl_X11_19 hP0 (fun x_1 hP1 => ?_)
  clear hP0
  have hJ : bz_J G κ kX11_tear (d + 1) F bc bs 12 [some (.inr (some a0)), none] [.inl (if x_1 = 0 then 0 else 1)] h := by
    refine bz_s_istore_n (pc := 12) dX11_tear_12 rfl (Nat.le_of_ble_eq_true rfl) [some (.inr (some a0)), some (.inl (if x_1 = 0 then 0 else 1))] rfl ?_
    refine bz_aload_n (pc := 13) dX11_tear_13 rfl rfl ?_
    refine bz_iconst (pc := 14) dX11_tear_14 ci_0 ?_
    refine bz_rw_wZ (pc := 15) dX11_tear_15 fl_X11_19 (fun q h9 => by cases h9; rfl) rfl hP1 (fun h_2 hP2 => ?_)
    clear hP1
    refine bz_iload_n (pc := 18) dX11_tear_18 rfl rfl ?_
    exact bz_retI (pc := 19) dX11_tear_19 rfl rfl hP2
  refine bz_if_eq (tgt := 11) (pc := 4) dX11_tear_4 rfl (fun c => ?_) (fun c => ?_)
  · have e9 : ((if x_1 = 0 then 0 else 1) : Int32) = (0) := if_pos c
    rw [e9] at hJ
    refine bz_iconst (pc := 11) dX11_tear_11 ci_0 ?_
    exact hJ
  · have e9 : ((if x_1 = 0 then 0 else 1) : Int32) = (1) := if_neg c
    rw [e9] at hJ
    refine bz_iconst (pc := 7) dX11_tear_7 ci_1 ?_
    refine bz_goto (tgt := 12) (pc := 8) dX11_tear_8 rfl ?_
    exact hJ
theorem m_X11_tear {G : bz_G} {l : Launch} {d mc ms : Nat} {F : Option bz_V → bz_H → Prop} (a0 : Nat) (h : bz_H) (hP : w_X11_tear_0 G l d F a0 h) : bz_Call G l (d + 1) kX11_tear [.inr (some a0)] h mc ms F :=
  bz_body (by decide) (Nat.le_of_ble_eq_true rfl) (fun κ hl => g_X11_tear_0 hl a0 h hP)
def w_X11_trip_0 (G : bz_G) (l : Launch) (d : Nat) (F : Option bz_V → bz_H → Prop) (a0 : Nat) (x1 : Int32) (x2 : Int32) (x3 : Int32) (h : bz_H) : Prop := bz_rR h a0 11 0 (fun r_1 => bz_nn r_1 (fun a_4 => bz_rc h a_4 10 (bz_cR G l d kX10_riderAt [.inr (some a_4), .inl x1] h 0 0 (fun r_2 h_3 => bz_rR h_3 a0 11 0 (fun r_5 => bz_nn r_5 (fun a_8 => bz_rc h_3 a_8 10 (bz_cR G l d kX10_orderAt [.inr (some a_8), .inl x2] h_3 0 0 (fun r_6 h_7 => (r_2 = none → bz_rc h_7 a0 11 (bz_cI G l d kX11_finding [.inr (some a0), .inl (-1000001)] h_7 0 0 (fun x_10 h_11 => F (some (.inl x_10)) h_11))) ∧ (∀ a_9, r_2 = some a_9 → (r_6 = none → bz_rc h_7 a0 11 (bz_cI G l d kX11_finding [.inr (some a0), .inl (-1000001)] h_7 0 0 (fun x_13 h_14 => F (some (.inl x_13)) h_14))) ∧ (∀ a_12, r_6 = some a_12 → bz_cI G l d kX11_isWithin [.inl x3, .inl 0, .inl 2] h_7 0 0 (fun x_15 h_16 => (¬ x_15 = 0 → bz_rI h_16 a_12 2 7 (fun x_17 => (x_17 = 0 → bz_rR h_16 a0 11 6 (fun r_18 => bz_rI h_16 a_9 3 1 (fun x_19 => bz_rI h_16 a_9 3 4 (fun x_20 => bz_rR h_16 a0 11 0 (fun r_21 => bz_nn r_21 (fun a_22 => bz_rI h_16 a_22 10 12 (fun x_23 => bz_rc h_16 a_9 3 (bz_cI G l d kX3_startFrom [.inr (some a_9), .inl x_23] h_16 0 0 (fun x_24 h_25 => bz_nn r_18 (fun a_28 => bz_rc h_25 a_28 9 (bz_cI G l d kX9_planOne [.inr (some a_28), .inl x_19, .inl x_20, .inl x_24, .inr (some a_12)] h_25 0 0 (fun x_26 h_27 => (¬ x_26 = 0 → (x3 = 0 → bz_rR h_27 a0 11 6 (fun r_29 => bz_nn r_29 (fun a_30 => bz_rR h_27 a_30 9 1 (fun r_31 => bz_nn r_31 (fun a_32 => bz_rA h_27 a_32 0 (fun x_33 => F (some (.inl x_33)) h_27)))))) ∧ (¬ x3 = 0 → (x3 = 1 → bz_rR h_27 a0 11 6 (fun r_34 => bz_nn r_34 (fun a_35 => bz_rR h_27 a_35 9 1 (fun r_36 => bz_nn r_36 (fun a_37 => bz_rA h_27 a_37 1 (fun x_38 => F (some (.inl x_38)) h_27)))))) ∧ (¬ x3 = 1 → bz_rR h_27 a0 11 6 (fun r_39 => bz_nn r_39 (fun a_40 => bz_rI h_27 a_40 9 10 (fun x_41 => F (some (.inl x_41)) h_27)))))) ∧ (x_26 = 0 → bz_rc h_27 a0 11 (bz_cI G l d kX11_finding [.inr (some a0), .inl (-1000004)] h_27 0 0 (fun x_42 h_43 => F (some (.inl x_42)) h_43))))))))))))))) ∧ (¬ (x_17 = 0) → bz_rc h_16 a0 11 (bz_cI G l d kX11_finding [.inr (some a0), .inl (-1000005)] h_16 0 0 (fun x_44 h_45 => F (some (.inl x_44)) h_45))))) ∧ (x_15 = 0 → bz_rc h_16 a0 11 (bz_cI G l d kX11_finding [.inr (some a0), .inl (-1000001)] h_16 0 0 (fun x_46 h_47 => F (some (.inl x_46)) h_47))))))))))))))
set_option maxRecDepth 20000 in
set_option maxHeartbeats 4000000 in
theorem g_X11_trip_0 {G : bz_G} {κ : bz_K} {l : Launch} {d : Nat} {F : Option bz_V → bz_H → Prop} {bc bs : Nat} (hl : κ.2.1 = l) (a0 : Nat) (x1 : Int32) (x2 : Int32) (x3 : Int32) (h : bz_H) (hP0 : w_X11_trip_0 G l d F a0 x1 x2 x3 h) : bz_J G κ kX11_trip (d + 1) F bc bs 0 [some (.inr (some a0)), some (.inl x1), some (.inl x2), some (.inl x3), none, none] [] h := by
  subst hl
  unfold w_X11_trip_0 at hP0
  refine bz_aload_n (pc := 0) dX11_trip_0 rfl rfl ?_
  refine bz_rw_rR (pc := 1) dX11_trip_1 fl_X11_12 hP0 (fun r_1 hP1 => ?_)
  clear hP0
  refine bz_iload_n (pc := 4) dX11_trip_4 rfl rfl ?_
  obtain ⟨a_4, rfl, hP2⟩ := hP1
  refine bz_kRV (as := [.inl x1]) (st := []) (ci := 10) (n := 1) (mc := 0) (ms := 0) (bc := bc) (bs := bs) (yc := kX10_riderAt) (q := (RX10, TX10, 16)) (b := a_4) (pc := 5) dX11_trip_5 sc_X10_riderAt ml_X11_179 im_X10_riderAt se_X10_riderAt rfl rfl rfl (Nat.le_of_ble_eq_true rfl) hP2 (fun r_2 h_3 hP3 => ?_)
  clear hP2
  refine bz_s_astore (pc := 8) dX11_trip_8 (Nat.le_of_ble_eq_true rfl) [some (.inr (some a0)), some (.inl x1), some (.inl x2), some (.inl x3), some (.inr r_2), none] rfl ?_
  refine bz_aload_n (pc := 10) dX11_trip_10 rfl rfl ?_
  refine bz_rw_rR (pc := 11) dX11_trip_11 fl_X11_12 hP3 (fun r_5 hP4 => ?_)
  clear hP3
  refine bz_iload_n (pc := 14) dX11_trip_14 rfl rfl ?_
  obtain ⟨a_8, rfl, hP5⟩ := hP4
  refine bz_kRV (as := [.inl x2]) (st := []) (ci := 10) (n := 1) (mc := 0) (ms := 0) (bc := bc) (bs := bs) (yc := kX10_orderAt) (q := (RX10, TX10, 16)) (b := a_8) (pc := 15) dX11_trip_15 sc_X10_orderAt ml_X11_132 im_X10_orderAt se_X10_orderAt rfl rfl rfl (Nat.le_of_ble_eq_true rfl) hP5 (fun r_6 h_7 hP6 => ?_)
  clear hP5
  refine bz_s_astore (pc := 18) dX11_trip_18 (Nat.le_of_ble_eq_true rfl) [some (.inr (some a0)), some (.inl x1), some (.inl x2), some (.inl x3), some (.inr r_2), some (.inr r_6)] rfl ?_
  refine bz_aload (pc := 20) dX11_trip_20 rfl ?_
  refine bz_ifnull (tgt := 39) (pc := 22) dX11_trip_22 rfl (fun c => ?_) (fun a_9 c => ?_)
  · have hP7 := hP6.1 c
    clear hP6
    subst c
    refine bz_aload_n (pc := 39) dX11_trip_39 rfl rfl ?_
    refine bz_ldc (pc := 40) dX11_trip_40 ct_X11_78 ?_
    refine bz_kIV (as := [.inl (-1000001)]) (st := []) (ci := 11) (n := 1) (mc := 0) (ms := 0) (bc := bc) (bs := bs) (yc := kX11_finding) (q := (RX11, TX11, 9)) (b := a0) (pc := 42) dX11_trip_42 sc_X11_finding ml_X11_79 im_X11_finding se_X11_finding rfl rfl rfl (Nat.le_of_ble_eq_true rfl) hP7 (fun x_10 h_11 hP8 => ?_)
    clear hP7
    exact bz_retI (pc := 45) dX11_trip_45 rfl rfl hP8
  · have hP9 := hP6.2 a_9 c
    clear hP6
    subst c
    refine bz_aload (pc := 25) dX11_trip_25 rfl ?_
    refine bz_ifnull (tgt := 39) (pc := 27) dX11_trip_27 rfl (fun c => ?_) (fun a_12 c => ?_)
    · have hP10 := hP9.1 c
      clear hP9
      subst c
      refine bz_aload_n (pc := 39) dX11_trip_39 rfl rfl ?_
      refine bz_ldc (pc := 40) dX11_trip_40 ct_X11_78 ?_
      refine bz_kIV (as := [.inl (-1000001)]) (st := []) (ci := 11) (n := 1) (mc := 0) (ms := 0) (bc := bc) (bs := bs) (yc := kX11_finding) (q := (RX11, TX11, 9)) (b := a0) (pc := 42) dX11_trip_42 sc_X11_finding ml_X11_79 im_X11_finding se_X11_finding rfl rfl rfl (Nat.le_of_ble_eq_true rfl) hP10 (fun x_13 h_14 hP11 => ?_)
      clear hP10
      exact bz_retI (pc := 45) dX11_trip_45 rfl rfl hP11
    · have hP12 := hP9.2 a_12 c
      clear hP9
      subst c
      refine bz_iload_n (pc := 30) dX11_trip_30 rfl rfl ?_
      refine bz_iconst (pc := 31) dX11_trip_31 ci_0 ?_
      refine bz_iconst (pc := 32) dX11_trip_32 ci_2 ?_
      refine bz_kIS (as := [.inl x3, .inl 0, .inl 2]) (st := []) (n := 3) (mc := 0) (ms := 0) (bc := bc) (bs := bs) (yc := kX11_isWithin) (pc := 33) dX11_trip_33 sc_X11_isWithin ml_X11_74 ss_X11_isWithin rfl (Nat.le_of_ble_eq_true rfl) hP12 (fun x_15 h_16 hP13 => ?_)
      clear hP12
      refine bz_if_ne (tgt := 46) (pc := 36) dX11_trip_36 rfl (fun c => ?_) (fun c => ?_)
      · have hP14 := hP13.1 c
        clear hP13
        refine bz_aload (pc := 46) dX11_trip_46 rfl ?_
        refine bz_rw_rI (pc := 48) dX11_trip_48 fl_X11_136 hP14 (fun x_17 hP15 => ?_)
        clear hP14
        refine bz_if_eq (tgt := 61) (pc := 51) dX11_trip_51 rfl (fun c => ?_) (fun c => ?_)
        · have hP16 := hP15.1 c
          clear hP15
          refine bz_aload_n (pc := 61) dX11_trip_61 rfl rfl ?_
          refine bz_rw_rR (pc := 62) dX11_trip_62 fl_X11_50 hP16 (fun r_18 hP17 => ?_)
          clear hP16
          refine bz_aload (pc := 65) dX11_trip_65 rfl ?_
          refine bz_rw_rI (pc := 67) dX11_trip_67 fl_X11_183 hP17 (fun x_19 hP18 => ?_)
          clear hP17
          refine bz_aload (pc := 70) dX11_trip_70 rfl ?_
          refine bz_rw_rI (pc := 72) dX11_trip_72 fl_X11_188 hP18 (fun x_20 hP19 => ?_)
          clear hP18
          refine bz_aload (pc := 75) dX11_trip_75 rfl ?_
          refine bz_aload_n (pc := 77) dX11_trip_77 rfl rfl ?_
          refine bz_rw_rR (pc := 78) dX11_trip_78 fl_X11_12 hP19 (fun r_21 hP20 => ?_)
          clear hP19
          obtain ⟨a_22, rfl, hP21⟩ := hP20
          refine bz_rw_rI (pc := 81) dX11_trip_81 fl_X11_103 hP21 (fun x_23 hP22 => ?_)
          clear hP21
          refine bz_kIV (as := [.inl x_23]) (st := [.inl x_20, .inl x_19, .inr r_18]) (ci := 3) (n := 1) (mc := 0) (ms := 0) (bc := bc) (bs := bs) (yc := kX3_startFrom) (q := (RX3, TX3, 9)) (b := a_9) (pc := 84) dX11_trip_84 sc_X3_startFrom ml_X11_212 im_X3_startFrom se_X3_startFrom rfl rfl rfl (Nat.le_of_ble_eq_true rfl) hP22 (fun x_24 h_25 hP23 => ?_)
          clear hP22
          refine bz_aload (pc := 87) dX11_trip_87 rfl ?_
          obtain ⟨a_28, rfl, hP24⟩ := hP23
          refine bz_kIV (as := [.inl x_19, .inl x_20, .inl x_24, .inr (some a_12)]) (st := []) (ci := 9) (n := 4) (mc := 0) (ms := 0) (bc := bc) (bs := bs) (yc := kX9_planOne) (q := (RX9, TX9, 11)) (b := a_28) (pc := 89) dX11_trip_89 sc_X9_planOne ml_X11_215 im_X9_planOne se_X9_planOne rfl rfl rfl (Nat.le_of_ble_eq_true rfl) hP24 (fun x_26 h_27 hP25 => ?_)
          clear hP24
          refine bz_if_ne (tgt := 102) (pc := 92) dX11_trip_92 rfl (fun c => ?_) (fun c => ?_)
          · have hP26 := hP25.1 c
            clear hP25
            refine bz_iload_n (pc := 102) dX11_trip_102 rfl rfl ?_
            refine bz_lookup (pc := 103) [(0, 25), (1, 35)] dX11_trip_103 (by decide) (by decide) (by decide) (by decide) ?_
            refine ⟨fun c => ?_, fun c => ?_⟩
            · have hP27 := hP26.1 c
              clear hP26
              show bz_J G κ kX11_trip (d + 1) F bc bs 128 [some (.inr (some a0)), some (.inl x1), some (.inl x2), some (.inl x3), some (.inr (some a_9)), some (.inr (some a_12))] [] h_27
              refine bz_aload_n (pc := 128) dX11_trip_128 rfl rfl ?_
              refine bz_rw_rR (pc := 129) dX11_trip_129 fl_X11_50 hP27 (fun r_29 hP28 => ?_)
              clear hP27
              obtain ⟨a_30, rfl, hP29⟩ := hP28
              refine bz_rw_rR (pc := 132) dX11_trip_132 fl_X11_219 hP29 (fun r_31 hP30 => ?_)
              clear hP29
              refine bz_iconst (pc := 135) dX11_trip_135 ci_0 ?_
              obtain ⟨a_32, rfl, hP31⟩ := hP30
              refine bz_rw_rA (pc := 136) dX11_trip_136 hP31 (fun x_33 hP32 => ?_)
              clear hP31
              exact bz_retI (pc := 137) dX11_trip_137 rfl rfl hP32
            · have hP33 := hP26.2 c
              clear hP26
              refine ⟨fun c => ?_, fun c => ?_⟩
              · have hP34 := hP33.1 c
                clear hP33
                show bz_J G κ kX11_trip (d + 1) F bc bs 138 [some (.inr (some a0)), some (.inl x1), some (.inl x2), some (.inl x3), some (.inr (some a_9)), some (.inr (some a_12))] [] h_27
                refine bz_aload_n (pc := 138) dX11_trip_138 rfl rfl ?_
                refine bz_rw_rR (pc := 139) dX11_trip_139 fl_X11_50 hP34 (fun r_34 hP35 => ?_)
                clear hP34
                obtain ⟨a_35, rfl, hP36⟩ := hP35
                refine bz_rw_rR (pc := 142) dX11_trip_142 fl_X11_219 hP36 (fun r_36 hP37 => ?_)
                clear hP36
                refine bz_iconst (pc := 145) dX11_trip_145 ci_1 ?_
                obtain ⟨a_37, rfl, hP38⟩ := hP37
                refine bz_rw_rA (pc := 146) dX11_trip_146 hP38 (fun x_38 hP39 => ?_)
                clear hP38
                exact bz_retI (pc := 147) dX11_trip_147 rfl rfl hP39
              · have hP40 := hP33.2 c
                clear hP33
                show bz_J G κ kX11_trip (d + 1) F bc bs 148 [some (.inr (some a0)), some (.inl x1), some (.inl x2), some (.inl x3), some (.inr (some a_9)), some (.inr (some a_12))] [] h_27
                refine bz_aload_n (pc := 148) dX11_trip_148 rfl rfl ?_
                refine bz_rw_rR (pc := 149) dX11_trip_149 fl_X11_50 hP40 (fun r_39 hP41 => ?_)
                clear hP40
                obtain ⟨a_40, rfl, hP42⟩ := hP41
                refine bz_rw_rI (pc := 152) dX11_trip_152 fl_X11_222 hP42 (fun x_41 hP43 => ?_)
                clear hP42
                exact bz_retI (pc := 155) dX11_trip_155 rfl rfl hP43
          · have hP44 := hP25.2 c
            clear hP25
            refine bz_aload_n (pc := 95) dX11_trip_95 rfl rfl ?_
            refine bz_ldc (pc := 96) dX11_trip_96 ct_X11_102 ?_
            refine bz_kIV (as := [.inl (-1000004)]) (st := []) (ci := 11) (n := 1) (mc := 0) (ms := 0) (bc := bc) (bs := bs) (yc := kX11_finding) (q := (RX11, TX11, 9)) (b := a0) (pc := 98) dX11_trip_98 sc_X11_finding ml_X11_79 im_X11_finding se_X11_finding rfl rfl rfl (Nat.le_of_ble_eq_true rfl) hP44 (fun x_42 h_43 hP45 => ?_)
            clear hP44
            exact bz_retI (pc := 101) dX11_trip_101 rfl rfl hP45
        · have hP46 := hP15.2 c
          clear hP15
          refine bz_aload_n (pc := 54) dX11_trip_54 rfl rfl ?_
          refine bz_ldc (pc := 55) dX11_trip_55 ct_X11_107 ?_
          refine bz_kIV (as := [.inl (-1000005)]) (st := []) (ci := 11) (n := 1) (mc := 0) (ms := 0) (bc := bc) (bs := bs) (yc := kX11_finding) (q := (RX11, TX11, 9)) (b := a0) (pc := 57) dX11_trip_57 sc_X11_finding ml_X11_79 im_X11_finding se_X11_finding rfl rfl rfl (Nat.le_of_ble_eq_true rfl) hP46 (fun x_44 h_45 hP47 => ?_)
          clear hP46
          exact bz_retI (pc := 60) dX11_trip_60 rfl rfl hP47
      · have hP48 := hP13.2 c
        clear hP13
        refine bz_aload_n (pc := 39) dX11_trip_39 rfl rfl ?_
        refine bz_ldc (pc := 40) dX11_trip_40 ct_X11_78 ?_
        refine bz_kIV (as := [.inl (-1000001)]) (st := []) (ci := 11) (n := 1) (mc := 0) (ms := 0) (bc := bc) (bs := bs) (yc := kX11_finding) (q := (RX11, TX11, 9)) (b := a0) (pc := 42) dX11_trip_42 sc_X11_finding ml_X11_79 im_X11_finding se_X11_finding rfl rfl rfl (Nat.le_of_ble_eq_true rfl) hP48 (fun x_46 h_47 hP49 => ?_)
        clear hP48
        exact bz_retI (pc := 45) dX11_trip_45 rfl rfl hP49
theorem m_X11_trip {G : bz_G} {l : Launch} {d mc ms : Nat} {F : Option bz_V → bz_H → Prop} (a0 : Nat) (x1 : Int32) (x2 : Int32) (x3 : Int32) (h : bz_H) (hP : w_X11_trip_0 G l d F a0 x1 x2 x3 h) : bz_Call G l (d + 1) kX11_trip [.inr (some a0), .inl x1, .inl x2, .inl x3] h mc ms F :=
  bz_body (by decide) (Nat.le_of_ble_eq_true rfl) (fun κ hl => g_X11_trip_0 hl a0 x1 x2 x3 h hP)
def w_X11_undo_0 (G : bz_G) (l : Launch) (d : Nat) (F : Option bz_V → bz_H → Prop) (a0 : Nat) (h : bz_H) : Prop := bz_rI h a0 11 2 (fun x_1 => (¬ x_1 = 0 → bz_rR h a0 11 0 (fun r_2 => bz_rR h a0 11 1 (fun r_3 => bz_nn r_2 (fun a_6 => bz_rc h a_6 10 (bz_cV G l d kX10_becomeLike [.inr (some a_6), .inr r_3] h 0 0 (fun h_5 => bz_rR h_5 a0 11 0 (fun r_7 => bz_nn r_7 (fun a_8 => bz_rI h_5 a_8 10 12 (fun x_9 => F (some (.inl x_9)) h_5))))))))) ∧ (x_1 = 0 → bz_rc h a0 11 (bz_cI G l d kX11_finding [.inr (some a0), .inl (-1000004)] h 0 0 (fun x_10 h_11 => F (some (.inl x_10)) h_11))))
set_option maxRecDepth 20000 in
set_option maxHeartbeats 4000000 in
theorem g_X11_undo_0 {G : bz_G} {κ : bz_K} {l : Launch} {d : Nat} {F : Option bz_V → bz_H → Prop} {bc bs : Nat} (hl : κ.2.1 = l) (a0 : Nat) (h : bz_H) (hP0 : w_X11_undo_0 G l d F a0 h) : bz_J G κ kX11_undo (d + 1) F bc bs 0 [some (.inr (some a0))] [] h := by
  subst hl
  unfold w_X11_undo_0 at hP0
  refine bz_aload_n (pc := 0) dX11_undo_0 rfl rfl ?_
  refine bz_rw_rI (pc := 1) dX11_undo_1 fl_X11_19 hP0 (fun x_1 hP1 => ?_)
  clear hP0
  refine bz_if_ne (tgt := 14) (pc := 4) dX11_undo_4 rfl (fun c => ?_) (fun c => ?_)
  · have hP2 := hP1.1 c
    clear hP1
    refine bz_aload_n (pc := 14) dX11_undo_14 rfl rfl ?_
    refine bz_rw_rR (pc := 15) dX11_undo_15 fl_X11_12 hP2 (fun r_2 hP3 => ?_)
    clear hP2
    refine bz_aload_n (pc := 18) dX11_undo_18 rfl rfl ?_
    refine bz_rw_rR (pc := 19) dX11_undo_19 fl_X11_16 hP3 (fun r_3 hP4 => ?_)
    clear hP3
    obtain ⟨a_6, rfl, hP5⟩ := hP4
    refine bz_kVV (as := [.inr r_3]) (st := []) (ci := 10) (n := 1) (mc := 0) (ms := 0) (bc := bc) (bs := bs) (yc := kX10_becomeLike) (q := (RX10, TX10, 16)) (b := a_6) (pc := 22) dX11_undo_22 sc_X10_becomeLike ml_X11_413 im_X10_becomeLike se_X10_becomeLike rfl rfl rfl (Nat.le_of_ble_eq_true rfl) hP5 (fun h_5 hP6 => ?_)
    clear hP5
    refine bz_aload_n (pc := 25) dX11_undo_25 rfl rfl ?_
    refine bz_rw_rR (pc := 26) dX11_undo_26 fl_X11_12 hP6 (fun r_7 hP7 => ?_)
    clear hP6
    obtain ⟨a_8, rfl, hP8⟩ := hP7
    refine bz_rw_rI (pc := 29) dX11_undo_29 fl_X11_103 hP8 (fun x_9 hP9 => ?_)
    clear hP8
    exact bz_retI (pc := 32) dX11_undo_32 rfl rfl hP9
  · have hP10 := hP1.2 c
    clear hP1
    refine bz_aload_n (pc := 7) dX11_undo_7 rfl rfl ?_
    refine bz_ldc (pc := 8) dX11_undo_8 ct_X11_102 ?_
    refine bz_kIV (as := [.inl (-1000004)]) (st := []) (ci := 11) (n := 1) (mc := 0) (ms := 0) (bc := bc) (bs := bs) (yc := kX11_finding) (q := (RX11, TX11, 9)) (b := a0) (pc := 10) dX11_undo_10 sc_X11_finding ml_X11_79 im_X11_finding se_X11_finding rfl rfl rfl (Nat.le_of_ble_eq_true rfl) hP10 (fun x_10 h_11 hP11 => ?_)
    clear hP10
    exact bz_retI (pc := 13) dX11_undo_13 rfl rfl hP11
theorem m_X11_undo {G : bz_G} {l : Launch} {d mc ms : Nat} {F : Option bz_V → bz_H → Prop} (a0 : Nat) (h : bz_H) (hP : w_X11_undo_0 G l d F a0 h) : bz_Call G l (d + 1) kX11_undo [.inr (some a0)] h mc ms F :=
  bz_body (by decide) (Nat.le_of_ble_eq_true rfl) (fun κ hl => g_X11_undo_0 hl a0 h hP)
def w_X11_wageFor_0 (G : bz_G) (l : Launch) (d : Nat) (F : Option bz_V → bz_H → Prop) (a0 : Nat) (x1 : Int32) (r2 : Option Nat) (x3 : Int32) (x4 : Int32) (h : bz_H) : Prop := bz_rR h a0 11 0 (fun r_1 => bz_rR h a0 11 0 (fun r_2 => bz_nn r_2 (fun a_3 => bz_rI h a_3 10 14 (fun x_4 => bz_nn r_1 (fun a_7 => bz_rc h a_7 10 (bz_cR G l d kX10_textAt [.inr (some a_7), .inl x_4] h 0 0 (fun r_5 h_6 => (∀ a_8, r_5 = some a_8 → bz_rR h_6 a0 11 0 (fun r_9 => bz_rR h_6 a0 11 7 (fun r_10 => bz_nn r_9 (fun a_13 => bz_rc h_6 a_13 10 (bz_cV G l d kX10_nameRider [.inr (some a_13), .inr r_10, .inl x1, .inr r2] h_6 0 0 (fun h_12 => bz_rR h_12 a0 11 7 (fun r_14 => bz_nn r2 (fun a_15 => bz_rI h_12 a_15 2 3 (fun x_16 => bz_rc h_12 a_15 2 (bz_cI G l d kX2_lateAt [.inr (some a_15), .inl x4] h_12 0 0 (fun x_17 h_18 => bz_nn r_14 (fun a_21 => bz_rc h_18 a_21 0 (bz_cV G l d kX0_putTimes [.inr (some a_21), .inl (x3 - x_16), .inl x_17] h_18 0 0 (fun h_20 => bz_rR h_20 a0 11 7 (fun r_22 => bz_nn r_22 (fun a_25 => bz_rc h_20 a_25 0 (bz_cI G l d kX0_worthOf [.inr (some a_25), .inr (some a_8)] h_20 0 0 (fun x_23 h_24 => F (some (.inl (if 0 < (if x_23 < 9999 then x_23 else 9999) then if x_23 < 9999 then x_23 else 9999 else 0))) h_24)))))))))))))))))) ∧ (r_5 = none → F (some (.inl 0)) h_6))))))))
set_option maxRecDepth 20000 in
set_option maxHeartbeats 4000000 in
theorem g_X11_wageFor_0 {G : bz_G} {κ : bz_K} {l : Launch} {d : Nat} {F : Option bz_V → bz_H → Prop} {bc bs : Nat} (hl : κ.2.1 = l) (a0 : Nat) (x1 : Int32) (r2 : Option Nat) (x3 : Int32) (x4 : Int32) (h : bz_H) (hP0 : w_X11_wageFor_0 G l d F a0 x1 r2 x3 x4 h) : bz_J G κ kX11_wageFor (d + 1) F bc bs 0 [some (.inr (some a0)), some (.inl x1), some (.inr r2), some (.inl x3), some (.inl x4), none] [] h := by
  subst hl
  unfold w_X11_wageFor_0 at hP0
  refine bz_aload_n (pc := 0) dX11_wageFor_0 rfl rfl ?_
  refine bz_rw_rR (pc := 1) dX11_wageFor_1 fl_X11_12 hP0 (fun r_1 hP1 => ?_)
  clear hP0
  refine bz_aload_n (pc := 4) dX11_wageFor_4 rfl rfl ?_
  refine bz_rw_rR (pc := 5) dX11_wageFor_5 fl_X11_12 hP1 (fun r_2 hP2 => ?_)
  clear hP1
  obtain ⟨a_3, rfl, hP3⟩ := hP2
  refine bz_rw_rI (pc := 8) dX11_wageFor_8 fl_X11_278 hP3 (fun x_4 hP4 => ?_)
  clear hP3
  obtain ⟨a_7, rfl, hP5⟩ := hP4
  refine bz_kRV (as := [.inl x_4]) (st := []) (ci := 10) (n := 1) (mc := 0) (ms := 0) (bc := bc) (bs := bs) (yc := kX10_textAt) (q := (RX10, TX10, 16)) (b := a_7) (pc := 11) dX11_wageFor_11 sc_X10_textAt ml_X11_281 im_X10_textAt se_X10_textAt rfl rfl rfl (Nat.le_of_ble_eq_true rfl) hP5 (fun r_5 h_6 hP6 => ?_)
  clear hP5
  refine bz_s_astore (pc := 14) dX11_wageFor_14 (Nat.le_of_ble_eq_true rfl) [some (.inr (some a0)), some (.inl x1), some (.inr r2), some (.inl x3), some (.inl x4), some (.inr r_5)] rfl ?_
  refine bz_aload (pc := 16) dX11_wageFor_16 rfl ?_
  refine bz_ifnonnull (tgt := 23) (pc := 18) dX11_wageFor_18 rfl (fun a_8 c => ?_) (fun c => ?_)
  · have hP7 := hP6.1 a_8 c
    clear hP6
    subst c
    refine bz_aload_n (pc := 23) dX11_wageFor_23 rfl rfl ?_
    refine bz_rw_rR (pc := 24) dX11_wageFor_24 fl_X11_12 hP7 (fun r_9 hP8 => ?_)
    clear hP7
    refine bz_aload_n (pc := 27) dX11_wageFor_27 rfl rfl ?_
    refine bz_rw_rR (pc := 28) dX11_wageFor_28 fl_X11_57 hP8 (fun r_10 hP9 => ?_)
    clear hP8
    refine bz_iload_n (pc := 31) dX11_wageFor_31 rfl rfl ?_
    refine bz_aload_n (pc := 32) dX11_wageFor_32 rfl rfl ?_
    obtain ⟨a_13, rfl, hP10⟩ := hP9
    refine bz_kVV (as := [.inr r_10, .inl x1, .inr r2]) (st := []) (ci := 10) (n := 3) (mc := 0) (ms := 0) (bc := bc) (bs := bs) (yc := kX10_nameRider) (q := (RX10, TX10, 16)) (b := a_13) (pc := 33) dX11_wageFor_33 sc_X10_nameRider ml_X11_285 im_X10_nameRider se_X10_nameRider rfl rfl rfl (Nat.le_of_ble_eq_true rfl) hP10 (fun h_12 hP11 => ?_)
    clear hP10
    refine bz_aload_n (pc := 36) dX11_wageFor_36 rfl rfl ?_
    refine bz_rw_rR (pc := 37) dX11_wageFor_37 fl_X11_57 hP11 (fun r_14 hP12 => ?_)
    clear hP11
    refine bz_iload_n (pc := 40) dX11_wageFor_40 rfl rfl ?_
    refine bz_aload_n (pc := 41) dX11_wageFor_41 rfl rfl ?_
    obtain ⟨a_15, rfl, hP13⟩ := hP12
    refine bz_rw_rI (pc := 42) dX11_wageFor_42 fl_X11_147 hP13 (fun x_16 hP14 => ?_)
    clear hP13
    refine bz_isub (pc := 45) dX11_wageFor_45 ?_
    refine bz_aload_n (pc := 46) dX11_wageFor_46 rfl rfl ?_
    refine bz_iload (pc := 47) dX11_wageFor_47 rfl ?_
    refine bz_kIV (as := [.inl x4]) (st := [.inl (x3 - x_16), .inr r_14]) (ci := 2) (n := 1) (mc := 0) (ms := 0) (bc := bc) (bs := bs) (yc := kX2_lateAt) (q := (RX2, TX2, 15)) (b := a_15) (pc := 49) dX11_wageFor_49 sc_X2_lateAt ml_X11_431 im_X2_lateAt se_X2_lateAt rfl rfl rfl (Nat.le_of_ble_eq_true rfl) hP14 (fun x_17 h_18 hP15 => ?_)
    clear hP14
    obtain ⟨a_21, rfl, hP16⟩ := hP15
    refine bz_kVV (as := [.inl (x3 - x_16), .inl x_17]) (st := []) (ci := 0) (n := 2) (mc := 0) (ms := 0) (bc := bc) (bs := bs) (yc := kX0_putTimes) (q := (RX0, TX0, 2)) (b := a_21) (pc := 52) dX11_wageFor_52 sc_X0_putTimes ml_X11_289 im_X0_putTimes se_X0_putTimes rfl rfl rfl (Nat.le_of_ble_eq_true rfl) hP16 (fun h_20 hP17 => ?_)
    clear hP16
    refine bz_iconst (pc := 55) dX11_wageFor_55 ci_0 ?_
    refine bz_sipush (pc := 56) dX11_wageFor_56 cs_9999 ?_
    refine bz_aload_n (pc := 59) dX11_wageFor_59 rfl rfl ?_
    refine bz_rw_rR (pc := 60) dX11_wageFor_60 fl_X11_57 hP17 (fun r_22 hP18 => ?_)
    clear hP17
    refine bz_aload (pc := 63) dX11_wageFor_63 rfl ?_
    obtain ⟨a_25, rfl, hP19⟩ := hP18
    refine bz_kIV (as := [.inr (some a_8)]) (st := [.inl 9999, .inl 0]) (ci := 0) (n := 1) (mc := 0) (ms := 0) (bc := bc) (bs := bs) (yc := kX0_worthOf) (q := (RX0, TX0, 2)) (b := a_25) (pc := 65) dX11_wageFor_65 sc_X0_worthOf ml_X11_292 im_X0_worthOf se_X0_worthOf rfl rfl rfl (Nat.le_of_ble_eq_true rfl) hP19 (fun x_23 h_24 hP20 => ?_)
    clear hP19
    refine bz_mmin (pc := 68) dX11_wageFor_68 ml_X11_410 mt_min mt_init mt_code_min (Nat.succ_pos d) (Nat.le_of_ble_eq_true rfl) ?_
    refine bz_mmax (pc := 71) dX11_wageFor_71 ml_X11_329 mt_max mt_init mt_code_max (Nat.succ_pos d) (Nat.le_of_ble_eq_true rfl) ?_
    exact bz_retI (pc := 74) dX11_wageFor_74 rfl rfl hP20
  · have hP21 := hP6.2 c
    clear hP6
    subst c
    refine bz_iconst (pc := 21) dX11_wageFor_21 ci_0 ?_
    exact bz_retI (pc := 22) dX11_wageFor_22 rfl rfl hP21
theorem m_X11_wageFor {G : bz_G} {l : Launch} {d mc ms : Nat} {F : Option bz_V → bz_H → Prop} (a0 : Nat) (x1 : Int32) (r2 : Option Nat) (x3 : Int32) (x4 : Int32) (h : bz_H) (hP : w_X11_wageFor_0 G l d F a0 x1 r2 x3 x4 h) : bz_Call G l (d + 1) kX11_wageFor [.inr (some a0), .inl x1, .inr r2, .inl x3, .inl x4] h mc ms F :=
  bz_body (by decide) (Nat.le_of_ble_eq_true rfl) (fun κ hl => g_X11_wageFor_0 hl a0 x1 r2 x3 x4 h hP)
def w_X11_way_0 (G : bz_G) (l : Launch) (d : Nat) (F : Option bz_V → bz_H → Prop) (a0 : Nat) (x1 : Int32) (x2 : Int32) (h : bz_H) : Prop := bz_cI G l d kX11_isCrossing [.inl x1] h 0 0 (fun x_1 h_2 => (x_1 = 0 → bz_rc h_2 a0 11 (bz_cI G l d kX11_finding [.inr (some a0), .inl (-1000001)] h_2 0 0 (fun x_3 h_4 => F (some (.inl x_3)) h_4))) ∧ (¬ (x_1 = 0) → bz_cI G l d kX11_isCrossing [.inl x2] h_2 0 0 (fun x_5 h_6 => (¬ x_5 = 0 → bz_rR h_6 a0 11 0 (fun r_7 => bz_nn r_7 (fun a_8 => bz_rR h_6 a_8 10 0 (fun r_9 => bz_nn r_9 (fun a_12 => bz_rc h_6 a_12 8 (bz_cI G l d kX8_wayBetween [.inr (some a_12), .inl x1, .inl x2] h_6 0 0 (fun x_10 h_11 => (¬ x_10 = (-1) → F (some (.inl x_10)) h_11) ∧ (x_10 = (-1) → bz_rc h_11 a0 11 (bz_cI G l d kX11_finding [.inr (some a0), .inl (-1000004)] h_11 0 0 (fun x_13 h_14 => F (some (.inl x_13)) h_14)))))))))) ∧ (x_5 = 0 → bz_rc h_6 a0 11 (bz_cI G l d kX11_finding [.inr (some a0), .inl (-1000001)] h_6 0 0 (fun x_15 h_16 => F (some (.inl x_15)) h_16))))))
set_option maxRecDepth 20000 in
set_option maxHeartbeats 4000000 in
theorem g_X11_way_0 {G : bz_G} {κ : bz_K} {l : Launch} {d : Nat} {F : Option bz_V → bz_H → Prop} {bc bs : Nat} (hl : κ.2.1 = l) (a0 : Nat) (x1 : Int32) (x2 : Int32) (h : bz_H) (hP0 : w_X11_way_0 G l d F a0 x1 x2 h) : bz_J G κ kX11_way (d + 1) F bc bs 0 [some (.inr (some a0)), some (.inl x1), some (.inl x2), none] [] h := by
  subst hl
  unfold w_X11_way_0 at hP0
  refine bz_iload_n (pc := 0) dX11_way_0 rfl rfl ?_
  refine bz_kIS (as := [.inl x1]) (st := []) (n := 1) (mc := 0) (ms := 0) (bc := bc) (bs := bs) (yc := kX11_isCrossing) (pc := 1) dX11_way_1 sc_X11_isCrossing ml_X11_70 ss_X11_isCrossing rfl (Nat.le_of_ble_eq_true rfl) hP0 (fun x_1 h_2 hP1 => ?_)
  clear hP0
  refine bz_if_eq (tgt := 14) (pc := 4) dX11_way_4 rfl (fun c => ?_) (fun c => ?_)
  · have hP2 := hP1.1 c
    clear hP1
    refine bz_aload_n (pc := 14) dX11_way_14 rfl rfl ?_
    refine bz_ldc (pc := 15) dX11_way_15 ct_X11_78 ?_
    refine bz_kIV (as := [.inl (-1000001)]) (st := []) (ci := 11) (n := 1) (mc := 0) (ms := 0) (bc := bc) (bs := bs) (yc := kX11_finding) (q := (RX11, TX11, 9)) (b := a0) (pc := 17) dX11_way_17 sc_X11_finding ml_X11_79 im_X11_finding se_X11_finding rfl rfl rfl (Nat.le_of_ble_eq_true rfl) hP2 (fun x_3 h_4 hP3 => ?_)
    clear hP2
    exact bz_retI (pc := 20) dX11_way_20 rfl rfl hP3
  · have hP4 := hP1.2 c
    clear hP1
    refine bz_iload_n (pc := 7) dX11_way_7 rfl rfl ?_
    refine bz_kIS (as := [.inl x2]) (st := []) (n := 1) (mc := 0) (ms := 0) (bc := bc) (bs := bs) (yc := kX11_isCrossing) (pc := 8) dX11_way_8 sc_X11_isCrossing ml_X11_70 ss_X11_isCrossing rfl (Nat.le_of_ble_eq_true rfl) hP4 (fun x_5 h_6 hP5 => ?_)
    clear hP4
    refine bz_if_ne (tgt := 21) (pc := 11) dX11_way_11 rfl (fun c => ?_) (fun c => ?_)
    · have hP6 := hP5.1 c
      clear hP5
      refine bz_aload_n (pc := 21) dX11_way_21 rfl rfl ?_
      refine bz_rw_rR (pc := 22) dX11_way_22 fl_X11_12 hP6 (fun r_7 hP7 => ?_)
      clear hP6
      obtain ⟨a_8, rfl, hP8⟩ := hP7
      refine bz_rw_rR (pc := 25) dX11_way_25 fl_X11_43 hP8 (fun r_9 hP9 => ?_)
      clear hP8
      refine bz_iload_n (pc := 28) dX11_way_28 rfl rfl ?_
      refine bz_iload_n (pc := 29) dX11_way_29 rfl rfl ?_
      obtain ⟨a_12, rfl, hP10⟩ := hP9
      refine bz_kIV (as := [.inl x1, .inl x2]) (st := []) (ci := 8) (n := 2) (mc := 0) (ms := 0) (bc := bc) (bs := bs) (yc := kX8_wayBetween) (q := (RX8, TX8, 4)) (b := a_12) (pc := 30) dX11_way_30 sc_X8_wayBetween ml_X11_99 im_X8_wayBetween se_X8_wayBetween rfl rfl rfl (Nat.le_of_ble_eq_true rfl) hP10 (fun x_10 h_11 hP11 => ?_)
      clear hP10
      refine bz_s_istore_n (pc := 33) dX11_way_33 rfl (Nat.le_of_ble_eq_true rfl) [some (.inr (some a0)), some (.inl x1), some (.inl x2), some (.inl x_10)] rfl ?_
      refine bz_iload_n (pc := 34) dX11_way_34 rfl rfl ?_
      refine bz_iconst (pc := 35) dX11_way_35 ci_m1 ?_
      refine bz_icmp_ne (tgt := 48) (pc := 36) dX11_way_36 rfl (fun c => ?_) (fun c => ?_)
      · have hP12 := hP11.1 c
        clear hP11
        refine bz_iload_n (pc := 48) dX11_way_48 rfl rfl ?_
        exact bz_retI (pc := 49) dX11_way_49 rfl rfl hP12
      · have hP13 := hP11.2 c
        clear hP11
        refine bz_aload_n (pc := 39) dX11_way_39 rfl rfl ?_
        refine bz_ldc (pc := 40) dX11_way_40 ct_X11_102 ?_
        refine bz_kIV (as := [.inl (-1000004)]) (st := []) (ci := 11) (n := 1) (mc := 0) (ms := 0) (bc := bc) (bs := bs) (yc := kX11_finding) (q := (RX11, TX11, 9)) (b := a0) (pc := 42) dX11_way_42 sc_X11_finding ml_X11_79 im_X11_finding se_X11_finding rfl rfl rfl (Nat.le_of_ble_eq_true rfl) hP13 (fun x_13 h_14 hP14 => ?_)
        clear hP13
        refine bz_goto (tgt := 49) (pc := 45) dX11_way_45 rfl ?_
        exact bz_retI (pc := 49) dX11_way_49 rfl rfl hP14
    · have hP15 := hP5.2 c
      clear hP5
      refine bz_aload_n (pc := 14) dX11_way_14 rfl rfl ?_
      refine bz_ldc (pc := 15) dX11_way_15 ct_X11_78 ?_
      refine bz_kIV (as := [.inl (-1000001)]) (st := []) (ci := 11) (n := 1) (mc := 0) (ms := 0) (bc := bc) (bs := bs) (yc := kX11_finding) (q := (RX11, TX11, 9)) (b := a0) (pc := 17) dX11_way_17 sc_X11_finding ml_X11_79 im_X11_finding se_X11_finding rfl rfl rfl (Nat.le_of_ble_eq_true rfl) hP15 (fun x_15 h_16 hP16 => ?_)
      clear hP15
      exact bz_retI (pc := 20) dX11_way_20 rfl rfl hP16
theorem m_X11_way {G : bz_G} {l : Launch} {d mc ms : Nat} {F : Option bz_V → bz_H → Prop} (a0 : Nat) (x1 : Int32) (x2 : Int32) (h : bz_H) (hP : w_X11_way_0 G l d F a0 x1 x2 h) : bz_Call G l (d + 1) kX11_way [.inr (some a0), .inl x1, .inl x2] h mc ms F :=
  bz_body (by decide) (Nat.le_of_ble_eq_true rfl) (fun κ hl => g_X11_way_0 hl a0 x1 x2 h hP)
def w_X11_whom_0 (G : bz_G) (l : Launch) (d : Nat) (F : Option bz_V → bz_H → Prop) (a0 : Nat) (x1 : Int32) (x2 : Int32) (h : bz_H) : Prop := bz_rR h a0 11 0 (fun r_1 => bz_nn r_1 (fun a_4 => bz_rc h a_4 10 (bz_cR G l d kX10_textAt [.inr (some a_4), .inl x1] h 0 0 (fun r_2 h_3 => (r_2 = none → bz_rc h_3 a0 11 (bz_cI G l d kX11_finding [.inr (some a0), .inl (-1000001)] h_3 0 0 (fun x_6 h_7 => F (some (.inl x_6)) h_7))) ∧ (∀ a_5, r_2 = some a_5 → bz_rR h_3 a0 11 0 (fun r_8 => bz_nn r_8 (fun a_11 => bz_rc h_3 a_11 10 (bz_cR G l d kX10_orderAt [.inr (some a_11), .inl x2] h_3 0 0 (fun r_9 h_10 => (∀ a_12, r_9 = some a_12 → bz_rR h_10 a0 11 8 (fun r_15 => bz_nn r_15 (fun a_18 => bz_rc h_10 a_18 1 (bz_cV G l d kX1_passBy [.inr (some a_18), .inr (some a_5)] h_10 0 0 (fun h_17 => bz_rR h_17 a0 11 8 (fun r_19 => bz_nn r_19 (fun a_20 => bz_rR h_17 a_20 1 6 (fun r_21 => bz_nn r_21 (fun a_22 => bz_rA h_17 a_22 x2 (fun x_23 => (¬ x_23 = (-1) → F (some (.inl x_23)) h_17) ∧ (x_23 = (-1) → bz_rc h_17 a0 11 (bz_cI G l d kX11_finding [.inr (some a0), .inl (-1000004)] h_17 0 0 (fun x_24 h_25 => F (some (.inl x_24)) h_25))))))))))))) ∧ (r_9 = none → bz_rc h_10 a0 11 (bz_cI G l d kX11_finding [.inr (some a0), .inl (-1000001)] h_10 0 0 (fun x_13 h_14 => F (some (.inl x_13)) h_14))))))))))))
set_option maxRecDepth 20000 in
set_option maxHeartbeats 4000000 in
theorem g_X11_whom_0 {G : bz_G} {κ : bz_K} {l : Launch} {d : Nat} {F : Option bz_V → bz_H → Prop} {bc bs : Nat} (hl : κ.2.1 = l) (a0 : Nat) (x1 : Int32) (x2 : Int32) (h : bz_H) (hP0 : w_X11_whom_0 G l d F a0 x1 x2 h) : bz_J G κ kX11_whom (d + 1) F bc bs 0 [some (.inr (some a0)), some (.inl x1), some (.inl x2), none, none] [] h := by
  subst hl
  unfold w_X11_whom_0 at hP0
  refine bz_aload_n (pc := 0) dX11_whom_0 rfl rfl ?_
  refine bz_rw_rR (pc := 1) dX11_whom_1 fl_X11_12 hP0 (fun r_1 hP1 => ?_)
  clear hP0
  refine bz_iload_n (pc := 4) dX11_whom_4 rfl rfl ?_
  obtain ⟨a_4, rfl, hP2⟩ := hP1
  refine bz_kRV (as := [.inl x1]) (st := []) (ci := 10) (n := 1) (mc := 0) (ms := 0) (bc := bc) (bs := bs) (yc := kX10_textAt) (q := (RX10, TX10, 16)) (b := a_4) (pc := 5) dX11_whom_5 sc_X10_textAt ml_X11_281 im_X10_textAt se_X10_textAt rfl rfl rfl (Nat.le_of_ble_eq_true rfl) hP2 (fun r_2 h_3 hP3 => ?_)
  clear hP2
  refine bz_s_astore_n (pc := 8) dX11_whom_8 rfl (Nat.le_of_ble_eq_true rfl) [some (.inr (some a0)), some (.inl x1), some (.inl x2), some (.inr r_2), none] rfl ?_
  refine bz_aload_n (pc := 9) dX11_whom_9 rfl rfl ?_
  refine bz_ifnull (tgt := 24) (pc := 10) dX11_whom_10 rfl (fun c => ?_) (fun a_5 c => ?_)
  · have hP4 := hP3.1 c
    clear hP3
    subst c
    refine bz_aload_n (pc := 24) dX11_whom_24 rfl rfl ?_
    refine bz_ldc (pc := 25) dX11_whom_25 ct_X11_78 ?_
    refine bz_kIV (as := [.inl (-1000001)]) (st := []) (ci := 11) (n := 1) (mc := 0) (ms := 0) (bc := bc) (bs := bs) (yc := kX11_finding) (q := (RX11, TX11, 9)) (b := a0) (pc := 27) dX11_whom_27 sc_X11_finding ml_X11_79 im_X11_finding se_X11_finding rfl rfl rfl (Nat.le_of_ble_eq_true rfl) hP4 (fun x_6 h_7 hP5 => ?_)
    clear hP4
    exact bz_retI (pc := 30) dX11_whom_30 rfl rfl hP5
  · have hP6 := hP3.2 a_5 c
    clear hP3
    subst c
    refine bz_aload_n (pc := 13) dX11_whom_13 rfl rfl ?_
    refine bz_rw_rR (pc := 14) dX11_whom_14 fl_X11_12 hP6 (fun r_8 hP7 => ?_)
    clear hP6
    refine bz_iload_n (pc := 17) dX11_whom_17 rfl rfl ?_
    obtain ⟨a_11, rfl, hP8⟩ := hP7
    refine bz_kRV (as := [.inl x2]) (st := []) (ci := 10) (n := 1) (mc := 0) (ms := 0) (bc := bc) (bs := bs) (yc := kX10_orderAt) (q := (RX10, TX10, 16)) (b := a_11) (pc := 18) dX11_whom_18 sc_X10_orderAt ml_X11_132 im_X10_orderAt se_X10_orderAt rfl rfl rfl (Nat.le_of_ble_eq_true rfl) hP8 (fun r_9 h_10 hP9 => ?_)
    clear hP8
    refine bz_ifnonnull (tgt := 31) (pc := 21) dX11_whom_21 rfl (fun a_12 c => ?_) (fun c => ?_)
    · have hP10 := hP9.1 a_12 c
      clear hP9
      subst c
      refine bz_aload_n (pc := 31) dX11_whom_31 rfl rfl ?_
      refine bz_rw_rR (pc := 32) dX11_whom_32 fl_X11_66 hP10 (fun r_15 hP11 => ?_)
      clear hP10
      refine bz_aload_n (pc := 35) dX11_whom_35 rfl rfl ?_
      obtain ⟨a_18, rfl, hP12⟩ := hP11
      refine bz_kVV (as := [.inr (some a_5)]) (st := []) (ci := 1) (n := 1) (mc := 0) (ms := 0) (bc := bc) (bs := bs) (yc := kX1_passBy) (q := (RX1, TX1, 10)) (b := a_18) (pc := 36) dX11_whom_36 sc_X1_passBy ml_X11_352 im_X1_passBy se_X1_passBy rfl rfl rfl (Nat.le_of_ble_eq_true rfl) hP12 (fun h_17 hP13 => ?_)
      clear hP12
      refine bz_aload_n (pc := 39) dX11_whom_39 rfl rfl ?_
      refine bz_rw_rR (pc := 40) dX11_whom_40 fl_X11_66 hP13 (fun r_19 hP14 => ?_)
      clear hP13
      obtain ⟨a_20, rfl, hP15⟩ := hP14
      refine bz_rw_rR (pc := 43) dX11_whom_43 fl_X11_368 hP15 (fun r_21 hP16 => ?_)
      clear hP15
      refine bz_iload_n (pc := 46) dX11_whom_46 rfl rfl ?_
      obtain ⟨a_22, rfl, hP17⟩ := hP16
      refine bz_rw_rA (pc := 47) dX11_whom_47 hP17 (fun x_23 hP18 => ?_)
      clear hP17
      refine bz_s_istore (pc := 48) dX11_whom_48 (Nat.le_of_ble_eq_true rfl) [some (.inr (some a0)), some (.inl x1), some (.inl x2), some (.inr (some a_5)), some (.inl x_23)] rfl ?_
      refine bz_iload (pc := 50) dX11_whom_50 rfl ?_
      refine bz_iconst (pc := 52) dX11_whom_52 ci_m1 ?_
      refine bz_icmp_ne (tgt := 65) (pc := 53) dX11_whom_53 rfl (fun c => ?_) (fun c => ?_)
      · have hP19 := hP18.1 c
        clear hP18
        refine bz_iload (pc := 65) dX11_whom_65 rfl ?_
        exact bz_retI (pc := 67) dX11_whom_67 rfl rfl hP19
      · have hP20 := hP18.2 c
        clear hP18
        refine bz_aload_n (pc := 56) dX11_whom_56 rfl rfl ?_
        refine bz_ldc (pc := 57) dX11_whom_57 ct_X11_102 ?_
        refine bz_kIV (as := [.inl (-1000004)]) (st := []) (ci := 11) (n := 1) (mc := 0) (ms := 0) (bc := bc) (bs := bs) (yc := kX11_finding) (q := (RX11, TX11, 9)) (b := a0) (pc := 59) dX11_whom_59 sc_X11_finding ml_X11_79 im_X11_finding se_X11_finding rfl rfl rfl (Nat.le_of_ble_eq_true rfl) hP20 (fun x_24 h_25 hP21 => ?_)
        clear hP20
        refine bz_goto (tgt := 67) (pc := 62) dX11_whom_62 rfl ?_
        exact bz_retI (pc := 67) dX11_whom_67 rfl rfl hP21
    · have hP22 := hP9.2 c
      clear hP9
      subst c
      refine bz_aload_n (pc := 24) dX11_whom_24 rfl rfl ?_
      refine bz_ldc (pc := 25) dX11_whom_25 ct_X11_78 ?_
      refine bz_kIV (as := [.inl (-1000001)]) (st := []) (ci := 11) (n := 1) (mc := 0) (ms := 0) (bc := bc) (bs := bs) (yc := kX11_finding) (q := (RX11, TX11, 9)) (b := a0) (pc := 27) dX11_whom_27 sc_X11_finding ml_X11_79 im_X11_finding se_X11_finding rfl rfl rfl (Nat.le_of_ble_eq_true rfl) hP22 (fun x_13 h_14 hP23 => ?_)
      clear hP22
      exact bz_retI (pc := 30) dX11_whom_30 rfl rfl hP23
theorem m_X11_whom {G : bz_G} {l : Launch} {d mc ms : Nat} {F : Option bz_V → bz_H → Prop} (a0 : Nat) (x1 : Int32) (x2 : Int32) (h : bz_H) (hP : w_X11_whom_0 G l d F a0 x1 x2 h) : bz_Call G l (d + 1) kX11_whom [.inr (some a0), .inl x1, .inl x2] h mc ms F :=
  bz_body (by decide) (Nat.le_of_ble_eq_true rfl) (fun κ hl => g_X11_whom_0 hl a0 x1 x2 h hP)
def w_X11_wipe_0 (G : bz_G) (l : Launch) (d : Nat) (F : Option bz_V → bz_H → Prop) (a0 : Nat) (h : bz_H) : Prop := bz_rR h a0 11 3 (fun r_1 => bz_nn r_1 (fun a_2 => bz_rI h a_2 6 1 (fun x_3 => bz_rR h a0 11 3 (fun r_4 => bz_nn r_4 (fun a_5 => bz_wI h a_5 6 1 0 (fun h_6 => F (some (.inl x_3)) h_6))))))
set_option maxRecDepth 20000 in
set_option maxHeartbeats 4000000 in
theorem g_X11_wipe_0 {G : bz_G} {κ : bz_K} {l : Launch} {d : Nat} {F : Option bz_V → bz_H → Prop} {bc bs : Nat} (hl : κ.2.1 = l) (a0 : Nat) (h : bz_H) (hP0 : w_X11_wipe_0 G l d F a0 h) : bz_J G κ kX11_wipe (d + 1) F bc bs 0 [some (.inr (some a0)), none] [] h := by
  subst hl
  unfold w_X11_wipe_0 at hP0
  refine bz_aload_n (pc := 0) dX11_wipe_0 rfl rfl ?_
  refine bz_rw_rR (pc := 1) dX11_wipe_1 fl_X11_26 hP0 (fun r_1 hP1 => ?_)
  clear hP0
  obtain ⟨a_2, rfl, hP2⟩ := hP1
  refine bz_rw_rI (pc := 4) dX11_wipe_4 fl_X11_240 hP2 (fun x_3 hP3 => ?_)
  clear hP2
  refine bz_s_istore_n (pc := 7) dX11_wipe_7 rfl (Nat.le_of_ble_eq_true rfl) [some (.inr (some a0)), some (.inl x_3)] rfl ?_
  refine bz_aload_n (pc := 8) dX11_wipe_8 rfl rfl ?_
  refine bz_rw_rR (pc := 9) dX11_wipe_9 fl_X11_26 hP3 (fun r_4 hP4 => ?_)
  clear hP3
  refine bz_iconst (pc := 12) dX11_wipe_12 ci_0 ?_
  obtain ⟨a_5, rfl, hP5⟩ := hP4
  refine bz_rw_wI (pc := 13) dX11_wipe_13 fl_X11_240 (fun q h9 => by cases h9; rfl) rfl hP5 (fun h_6 hP6 => ?_)
  clear hP5
  refine bz_iload_n (pc := 16) dX11_wipe_16 rfl rfl ?_
  exact bz_retI (pc := 17) dX11_wipe_17 rfl rfl hP6
theorem m_X11_wipe {G : bz_G} {l : Launch} {d mc ms : Nat} {F : Option bz_V → bz_H → Prop} (a0 : Nat) (h : bz_H) (hP : w_X11_wipe_0 G l d F a0 h) : bz_Call G l (d + 1) kX11_wipe [.inr (some a0)] h mc ms F :=
  bz_body (by decide) (Nat.le_of_ble_eq_true rfl) (fun κ hl => g_X11_wipe_0 hl a0 h hP)
def w_X11_write_0 (G : bz_G) (l : Launch) (d : Nat) (F : Option bz_V → bz_H → Prop) (a0 : Nat) (x1 : Int32) (x2 : Int32) (x3 : Int32) (h : bz_H) : Prop := bz_rc h a0 11 (bz_cR G l d kX11_sheetAt [.inr (some a0), .inl x1] h 0 0 (fun r_1 h_2 => (∀ a_3, r_1 = some a_3 → bz_rc h_2 a_3 5 (bz_cI G l d kX5_isMissing [.inr (some a_3)] h_2 0 0 (fun x_6 h_7 => (x_6 = 0 → bz_rI h_7 a_3 5 2 (fun x_8 => bz_cI G l d kX11_isWithin [.inl x2, .inl 0, .inl (x_8 - 1)] h_7 0 0 (fun x_9 h_10 => (¬ x_9 = 0 → bz_rc h_10 a_3 5 (bz_cV G l d kX5_put [.inr (some a_3), .inl x2, .inl x3] h_10 0 0 (fun h_12 => F (some (.inl 1)) h_12))) ∧ (x_9 = 0 → bz_rc h_10 a0 11 (bz_cI G l d kX11_finding [.inr (some a0), .inl (-1000001)] h_10 0 0 (fun x_13 h_14 => F (some (.inl x_13)) h_14)))))) ∧ (¬ (x_6 = 0) → bz_rc h_7 a0 11 (bz_cI G l d kX11_finding [.inr (some a0), .inl (-1000006)] h_7 0 0 (fun x_15 h_16 => F (some (.inl x_15)) h_16)))))) ∧ (r_1 = none → bz_rc h_2 a0 11 (bz_cI G l d kX11_finding [.inr (some a0), .inl (-1000001)] h_2 0 0 (fun x_4 h_5 => F (some (.inl x_4)) h_5)))))
set_option maxRecDepth 20000 in
set_option maxHeartbeats 4000000 in
theorem g_X11_write_0 {G : bz_G} {κ : bz_K} {l : Launch} {d : Nat} {F : Option bz_V → bz_H → Prop} {bc bs : Nat} (hl : κ.2.1 = l) (a0 : Nat) (x1 : Int32) (x2 : Int32) (x3 : Int32) (h : bz_H) (hP0 : w_X11_write_0 G l d F a0 x1 x2 x3 h) : bz_J G κ kX11_write (d + 1) F bc bs 0 [some (.inr (some a0)), some (.inl x1), some (.inl x2), some (.inl x3), none] [] h := by
  subst hl
  unfold w_X11_write_0 at hP0
  refine bz_aload_n (pc := 0) dX11_write_0 rfl rfl ?_
  refine bz_iload_n (pc := 1) dX11_write_1 rfl rfl ?_
  refine bz_kRV (as := [.inl x1]) (st := []) (ci := 11) (n := 1) (mc := 0) (ms := 0) (bc := bc) (bs := bs) (yc := kX11_sheetAt) (q := (RX11, TX11, 9)) (b := a0) (pc := 2) dX11_write_2 sc_X11_sheetAt ml_X11_380 im_X11_sheetAt se_X11_sheetAt rfl rfl rfl (Nat.le_of_ble_eq_true rfl) hP0 (fun r_1 h_2 hP1 => ?_)
  clear hP0
  refine bz_s_astore (pc := 5) dX11_write_5 (Nat.le_of_ble_eq_true rfl) [some (.inr (some a0)), some (.inl x1), some (.inl x2), some (.inl x3), some (.inr r_1)] rfl ?_
  refine bz_aload (pc := 7) dX11_write_7 rfl ?_
  refine bz_ifnonnull (tgt := 19) (pc := 9) dX11_write_9 rfl (fun a_3 c => ?_) (fun c => ?_)
  · have hP2 := hP1.1 a_3 c
    clear hP1
    subst c
    refine bz_aload (pc := 19) dX11_write_19 rfl ?_
    refine bz_kIV (as := []) (st := []) (ci := 5) (n := 0) (mc := 0) (ms := 0) (bc := bc) (bs := bs) (yc := kX5_isMissing) (q := (RX5, TX5, 3)) (b := a_3) (pc := 21) dX11_write_21 sc_X5_isMissing ml_X11_389 im_X5_isMissing se_X5_isMissing rfl rfl rfl (Nat.le_of_ble_eq_true rfl) hP2 (fun x_6 h_7 hP3 => ?_)
    clear hP2
    refine bz_if_eq (tgt := 35) (pc := 24) dX11_write_24 rfl (fun c => ?_) (fun c => ?_)
    · have hP4 := hP3.1 c
      clear hP3
      refine bz_iload_n (pc := 35) dX11_write_35 rfl rfl ?_
      refine bz_iconst (pc := 36) dX11_write_36 ci_0 ?_
      refine bz_aload (pc := 37) dX11_write_37 rfl ?_
      refine bz_rw_rI (pc := 39) dX11_write_39 fl_X11_388 hP4 (fun x_8 hP5 => ?_)
      clear hP4
      refine bz_iconst (pc := 42) dX11_write_42 ci_1 ?_
      refine bz_isub (pc := 43) dX11_write_43 ?_
      refine bz_kIS (as := [.inl x2, .inl 0, .inl (x_8 - 1)]) (st := []) (n := 3) (mc := 0) (ms := 0) (bc := bc) (bs := bs) (yc := kX11_isWithin) (pc := 44) dX11_write_44 sc_X11_isWithin ml_X11_74 ss_X11_isWithin rfl (Nat.le_of_ble_eq_true rfl) hP5 (fun x_9 h_10 hP6 => ?_)
      clear hP5
      refine bz_if_ne (tgt := 57) (pc := 47) dX11_write_47 rfl (fun c => ?_) (fun c => ?_)
      · have hP7 := hP6.1 c
        clear hP6
        refine bz_aload (pc := 57) dX11_write_57 rfl ?_
        refine bz_iload_n (pc := 59) dX11_write_59 rfl rfl ?_
        refine bz_iload_n (pc := 60) dX11_write_60 rfl rfl ?_
        refine bz_kVV (as := [.inl x2, .inl x3]) (st := []) (ci := 5) (n := 2) (mc := 0) (ms := 0) (bc := bc) (bs := bs) (yc := kX5_put) (q := (RX5, TX5, 3)) (b := a_3) (pc := 61) dX11_write_61 sc_X5_put ml_X11_392 im_X5_put se_X5_put rfl rfl rfl (Nat.le_of_ble_eq_true rfl) hP7 (fun h_12 hP8 => ?_)
        clear hP7
        refine bz_iconst (pc := 64) dX11_write_64 ci_1 ?_
        exact bz_retI (pc := 65) dX11_write_65 rfl rfl hP8
      · have hP9 := hP6.2 c
        clear hP6
        refine bz_aload_n (pc := 50) dX11_write_50 rfl rfl ?_
        refine bz_ldc (pc := 51) dX11_write_51 ct_X11_78 ?_
        refine bz_kIV (as := [.inl (-1000001)]) (st := []) (ci := 11) (n := 1) (mc := 0) (ms := 0) (bc := bc) (bs := bs) (yc := kX11_finding) (q := (RX11, TX11, 9)) (b := a0) (pc := 53) dX11_write_53 sc_X11_finding ml_X11_79 im_X11_finding se_X11_finding rfl rfl rfl (Nat.le_of_ble_eq_true rfl) hP9 (fun x_13 h_14 hP10 => ?_)
        clear hP9
        exact bz_retI (pc := 56) dX11_write_56 rfl rfl hP10
    · have hP11 := hP3.2 c
      clear hP3
      refine bz_aload_n (pc := 27) dX11_write_27 rfl rfl ?_
      refine bz_ldcw (pc := 28) dX11_write_28 ct_X11_374 ?_
      refine bz_kIV (as := [.inl (-1000006)]) (st := []) (ci := 11) (n := 1) (mc := 0) (ms := 0) (bc := bc) (bs := bs) (yc := kX11_finding) (q := (RX11, TX11, 9)) (b := a0) (pc := 31) dX11_write_31 sc_X11_finding ml_X11_79 im_X11_finding se_X11_finding rfl rfl rfl (Nat.le_of_ble_eq_true rfl) hP11 (fun x_15 h_16 hP12 => ?_)
      clear hP11
      exact bz_retI (pc := 34) dX11_write_34 rfl rfl hP12
  · have hP13 := hP1.2 c
    clear hP1
    subst c
    refine bz_aload_n (pc := 12) dX11_write_12 rfl rfl ?_
    refine bz_ldc (pc := 13) dX11_write_13 ct_X11_78 ?_
    refine bz_kIV (as := [.inl (-1000001)]) (st := []) (ci := 11) (n := 1) (mc := 0) (ms := 0) (bc := bc) (bs := bs) (yc := kX11_finding) (q := (RX11, TX11, 9)) (b := a0) (pc := 15) dX11_write_15 sc_X11_finding ml_X11_79 im_X11_finding se_X11_finding rfl rfl rfl (Nat.le_of_ble_eq_true rfl) hP13 (fun x_4 h_5 hP14 => ?_)
    clear hP13
    exact bz_retI (pc := 18) dX11_write_18 rfl rfl hP14
theorem m_X11_write {G : bz_G} {l : Launch} {d mc ms : Nat} {F : Option bz_V → bz_H → Prop} (a0 : Nat) (x1 : Int32) (x2 : Int32) (x3 : Int32) (h : bz_H) (hP : w_X11_write_0 G l d F a0 x1 x2 x3 h) : bz_Call G l (d + 1) kX11_write [.inr (some a0), .inl x1, .inl x2, .inl x3] h mc ms F :=
  bz_body (by decide) (Nat.le_of_ble_eq_true rfl) (fun κ hl => g_X11_write_0 hl a0 x1 x2 x3 h hP)
def w_X11_zone_0 (G : bz_G) (κ : bz_K) (l : Launch) (d : Nat) (F : Option bz_V → bz_H → Prop) (bc bs : Nat) (a0 : Nat) (x1 : Int32) (x2 : Int32) (h : bz_H) : Prop := bz_cI G l d kX11_isWithin [.inl x1, .inl 0, .inl 3] h 0 0 (fun x_1 h_2 => (x_1 = 0 → bz_rc h_2 a0 11 (bz_cI G l d kX11_finding [.inr (some a0), .inl (-1000001)] h_2 0 0 (fun x_3 h_4 => F (some (.inl x_3)) h_4))) ∧ (¬ (x_1 = 0) → bz_cI G l d kX11_isWithin [.inl x2, .inl 0, .inl 3] h_2 0 0 (fun x_5 h_6 => (¬ x_5 = 0 → bz_J G κ kX11_zone (d + 1) F bc bs 41 [some (.inr (some a0)), some (.inl x1), some (.inl x2), some (.inl (if x2 = 0 then 0 else 1)), some (.inl 0), some (.inl 0), none] [] h_6) ∧ (x_5 = 0 → bz_rc h_6 a0 11 (bz_cI G l d kX11_finding [.inr (some a0), .inl (-1000001)] h_6 0 0 (fun x_7 h_8 => F (some (.inl x_7)) h_8))))))
set_option maxRecDepth 20000 in
set_option maxHeartbeats 4000000 in
theorem g_X11_zone_0 {G : bz_G} {κ : bz_K} {l : Launch} {d : Nat} {F : Option bz_V → bz_H → Prop} {bc bs : Nat} (hl : κ.2.1 = l) (a0 : Nat) (x1 : Int32) (x2 : Int32) (h : bz_H) (hP0 : w_X11_zone_0 G κ l d F bc bs a0 x1 x2 h) : bz_J G κ kX11_zone (d + 1) F bc bs 0 [some (.inr (some a0)), some (.inl x1), some (.inl x2), none, none, none, none] [] h := by
  subst hl
  unfold w_X11_zone_0 at hP0
  refine bz_iload_n (pc := 0) dX11_zone_0 rfl rfl ?_
  refine bz_iconst (pc := 1) dX11_zone_1 ci_0 ?_
  refine bz_iconst (pc := 2) dX11_zone_2 ci_3 ?_
  refine bz_kIS (as := [.inl x1, .inl 0, .inl 3]) (st := []) (n := 3) (mc := 0) (ms := 0) (bc := bc) (bs := bs) (yc := kX11_isWithin) (pc := 3) dX11_zone_3 sc_X11_isWithin ml_X11_74 ss_X11_isWithin rfl (Nat.le_of_ble_eq_true rfl) hP0 (fun x_1 h_2 hP1 => ?_)
  clear hP0
  refine bz_if_eq (tgt := 18) (pc := 6) dX11_zone_6 rfl (fun c => ?_) (fun c => ?_)
  · have hP2 := hP1.1 c
    clear hP1
    refine bz_aload_n (pc := 18) dX11_zone_18 rfl rfl ?_
    refine bz_ldc (pc := 19) dX11_zone_19 ct_X11_78 ?_
    refine bz_kIV (as := [.inl (-1000001)]) (st := []) (ci := 11) (n := 1) (mc := 0) (ms := 0) (bc := bc) (bs := bs) (yc := kX11_finding) (q := (RX11, TX11, 9)) (b := a0) (pc := 21) dX11_zone_21 sc_X11_finding ml_X11_79 im_X11_finding se_X11_finding rfl rfl rfl (Nat.le_of_ble_eq_true rfl) hP2 (fun x_3 h_4 hP3 => ?_)
    clear hP2
    exact bz_retI (pc := 24) dX11_zone_24 rfl rfl hP3
  · have hP4 := hP1.2 c
    clear hP1
    refine bz_iload_n (pc := 9) dX11_zone_9 rfl rfl ?_
    refine bz_iconst (pc := 10) dX11_zone_10 ci_0 ?_
    refine bz_iconst (pc := 11) dX11_zone_11 ci_3 ?_
    refine bz_kIS (as := [.inl x2, .inl 0, .inl 3]) (st := []) (n := 3) (mc := 0) (ms := 0) (bc := bc) (bs := bs) (yc := kX11_isWithin) (pc := 12) dX11_zone_12 sc_X11_isWithin ml_X11_74 ss_X11_isWithin rfl (Nat.le_of_ble_eq_true rfl) hP4 (fun x_5 h_6 hP5 => ?_)
    clear hP4
    refine bz_if_ne (tgt := 25) (pc := 15) dX11_zone_15 rfl (fun c => ?_) (fun c => ?_)
    · have hP6 := hP5.1 c
      clear hP5
      refine bz_iload_n (pc := 25) dX11_zone_25 rfl rfl ?_
      have hJ : bz_J G κ kX11_zone (d + 1) F bc bs 34 [some (.inr (some a0)), some (.inl x1), some (.inl x2), none, none, none, none] [.inl (if x2 = 0 then 0 else 1)] h_6 := by
        refine bz_s_istore_n (pc := 34) dX11_zone_34 rfl (Nat.le_of_ble_eq_true rfl) [some (.inr (some a0)), some (.inl x1), some (.inl x2), some (.inl (if x2 = 0 then 0 else 1)), none, none, none] rfl ?_
        refine bz_iconst (pc := 35) dX11_zone_35 ci_0 ?_
        refine bz_s_istore (pc := 36) dX11_zone_36 (Nat.le_of_ble_eq_true rfl) [some (.inr (some a0)), some (.inl x1), some (.inl x2), some (.inl (if x2 = 0 then 0 else 1)), some (.inl 0), none, none] rfl ?_
        refine bz_iconst (pc := 38) dX11_zone_38 ci_0 ?_
        refine bz_s_istore (pc := 39) dX11_zone_39 (Nat.le_of_ble_eq_true rfl) [some (.inr (some a0)), some (.inl x1), some (.inl x2), some (.inl (if x2 = 0 then 0 else 1)), some (.inl 0), some (.inl 0), none] rfl ?_
        exact hP6
      refine bz_if_ne (tgt := 33) (pc := 26) dX11_zone_26 rfl (fun c => ?_) (fun c => ?_)
      · have e9 : ((if x2 = 0 then 0 else 1) : Int32) = (1) := if_neg c
        rw [e9] at hJ
        refine bz_iconst (pc := 33) dX11_zone_33 ci_1 ?_
        exact hJ
      · have e9 : ((if x2 = 0 then 0 else 1) : Int32) = (0) := if_pos c
        rw [e9] at hJ
        refine bz_iconst (pc := 29) dX11_zone_29 ci_0 ?_
        refine bz_goto (tgt := 34) (pc := 30) dX11_zone_30 rfl ?_
        exact hJ
    · have hP7 := hP5.2 c
      clear hP5
      refine bz_aload_n (pc := 18) dX11_zone_18 rfl rfl ?_
      refine bz_ldc (pc := 19) dX11_zone_19 ct_X11_78 ?_
      refine bz_kIV (as := [.inl (-1000001)]) (st := []) (ci := 11) (n := 1) (mc := 0) (ms := 0) (bc := bc) (bs := bs) (yc := kX11_finding) (q := (RX11, TX11, 9)) (b := a0) (pc := 21) dX11_zone_21 sc_X11_finding ml_X11_79 im_X11_finding se_X11_finding rfl rfl rfl (Nat.le_of_ble_eq_true rfl) hP7 (fun x_7 h_8 hP8 => ?_)
      clear hP7
      exact bz_retI (pc := 24) dX11_zone_24 rfl rfl hP8
def w_X11_zone_41 (G : bz_G) (κ : bz_K) (l : Launch) (d : Nat) (F : Option bz_V → bz_H → Prop) (bc bs : Nat) (a0 : Nat) (x1 : Int32) (x2 : Int32) (x3 : Int32) (x4 : Int32) (x5 : Int32) (u6 : Option bz_V) (h : bz_H) : Prop := bz_rR h a0 11 0 (fun r_9 => bz_nn r_9 (fun a_10 => bz_rI h a_10 10 9 (fun x_11 => (x_11 ≤ x5 → F (some (.inl x4)) h) ∧ (¬ (x_11 ≤ x5) → bz_rR h a0 11 0 (fun r_12 => bz_nn r_12 (fun a_13 => bz_rR h a_13 10 2 (fun r_14 => bz_nn r_14 (fun a_15 => bz_rQ h a_15 x5 (fun r_16 => bz_nn r_16 (fun a_17 => bz_rI h a_17 2 7 (fun x_18 => (¬ x_18 = x3 → bz_J G κ kX11_zone (d + 1) F bc bs 41 [some (.inr (some a0)), some (.inl x1), some (.inl x2), some (.inl x3), some (.inl x4), some (.inl (x5 + 1)), some (.inr (some a_17))] [] h) ∧ (x_18 = x3 → bz_rR h a0 11 0 (fun r_19 => bz_nn r_19 (fun a_20 => bz_rR h a_20 10 0 (fun r_21 => bz_nn r_21 (fun a_22 => bz_rR h a_22 8 1 (fun r_23 => bz_rI h a_17 2 2 (fun x_24 => bz_nn r_23 (fun a_25 => bz_rA h a_25 x_24 (fun x_26 => (x_26 = x1 → (x2 = 2 → bz_rI h a_17 2 11 (fun x_27 => bz_J G κ kX11_zone (d + 1) F bc bs 41 [some (.inr (some a0)), some (.inl x1), some (.inl x2), some (.inl x3), some (.inl (x4 + x_27)), some (.inl (x5 + 1)), some (.inr (some a_17))] [] h)) ∧ (¬ x2 = 2 → (x2 = 3 → bz_rR h a0 11 0 (fun r_28 => bz_nn r_28 (fun a_31 => bz_rc h a_31 10 (bz_cI G l d kX10_payFor [.inr (some a_31), .inr (some a_17)] h 0 0 (fun x_29 h_30 => bz_J G κ kX11_zone (d + 1) F bc bs 41 [some (.inr (some a0)), some (.inl x1), some (.inl x2), some (.inl x3), some (.inl (x4 + x_29)), some (.inl (x5 + 1)), some (.inr (some a_17))] [] h_30))))) ∧ (¬ x2 = 3 → bz_J G κ kX11_zone (d + 1) F bc bs 41 [some (.inr (some a0)), some (.inl x1), some (.inl x2), some (.inl x3), some (.inl (x4 + 1)), some (.inl (x5 + 1)), some (.inr (some a_17))] [] h))) ∧ (¬ (x_26 = x1) → bz_J G κ kX11_zone (d + 1) F bc bs 41 [some (.inr (some a0)), some (.inl x1), some (.inl x2), some (.inl x3), some (.inl x4), some (.inl (x5 + 1)), some (.inr (some a_17))] [] h)))))))))))))))))))))
set_option maxRecDepth 20000 in
set_option maxHeartbeats 4000000 in
theorem g_X11_zone_41 {G : bz_G} {κ : bz_K} {l : Launch} {d : Nat} {F : Option bz_V → bz_H → Prop} {bc bs : Nat} (hl : κ.2.1 = l) (a0 : Nat) (x1 : Int32) (x2 : Int32) (x3 : Int32) (x4 : Int32) (x5 : Int32) (u6 : Option bz_V) (h : bz_H) (hP0 : w_X11_zone_41 G κ l d F bc bs a0 x1 x2 x3 x4 x5 u6 h) : bz_J G κ kX11_zone (d + 1) F bc bs 41 [some (.inr (some a0)), some (.inl x1), some (.inl x2), some (.inl x3), some (.inl x4), some (.inl x5), u6] [] h := by
  subst hl
  unfold w_X11_zone_41 at hP0
  refine bz_iload (pc := 41) dX11_zone_41 rfl ?_
  refine bz_aload_n (pc := 43) dX11_zone_43 rfl rfl ?_
  refine bz_rw_rR (pc := 44) dX11_zone_44 fl_X11_12 hP0 (fun r_9 hP1 => ?_)
  clear hP0
  obtain ⟨a_10, rfl, hP2⟩ := hP1
  refine bz_rw_rI (pc := 47) dX11_zone_47 fl_X11_125 hP2 (fun x_11 hP3 => ?_)
  clear hP2
  refine bz_icmp_ge (tgt := 163) (pc := 50) dX11_zone_50 rfl (fun c => ?_) (fun c => ?_)
  · have hP4 := hP3.1 c
    clear hP3
    refine bz_iload (pc := 163) dX11_zone_163 rfl ?_
    exact bz_retI (pc := 165) dX11_zone_165 rfl rfl hP4
  · have hP5 := hP3.2 c
    clear hP3
    refine bz_aload_n (pc := 53) dX11_zone_53 rfl rfl ?_
    refine bz_rw_rR (pc := 54) dX11_zone_54 fl_X11_12 hP5 (fun r_12 hP6 => ?_)
    clear hP5
    obtain ⟨a_13, rfl, hP7⟩ := hP6
    refine bz_rw_rR (pc := 57) dX11_zone_57 fl_X11_306 hP7 (fun r_14 hP8 => ?_)
    clear hP7
    refine bz_iload (pc := 60) dX11_zone_60 rfl ?_
    obtain ⟨a_15, rfl, hP9⟩ := hP8
    refine bz_rw_ldq (pc := 62) dX11_zone_62 hP9 (fun r_16 hP10 => ?_)
    clear hP9
    refine bz_s_astore (pc := 63) dX11_zone_63 (Nat.le_of_ble_eq_true rfl) [some (.inr (some a0)), some (.inl x1), some (.inl x2), some (.inl x3), some (.inl x4), some (.inl x5), some (.inr r_16)] rfl ?_
    refine bz_aload (pc := 65) dX11_zone_65 rfl ?_
    obtain ⟨a_17, rfl, hP11⟩ := hP10
    refine bz_rw_rI (pc := 67) dX11_zone_67 fl_X11_136 hP11 (fun x_18 hP12 => ?_)
    clear hP11
    refine bz_iload_n (pc := 70) dX11_zone_70 rfl rfl ?_
    refine bz_icmp_ne (tgt := 157) (pc := 71) dX11_zone_71 rfl (fun c => ?_) (fun c => ?_)
    · have hP13 := hP12.1 c
      clear hP12
      refine bz_s_iinc (pc := 157) dX11_zone_157 (Nat.le_of_ble_eq_true rfl) rfl rfl [some (.inr (some a0)), some (.inl x1), some (.inl x2), some (.inl x3), some (.inl x4), some (.inl (x5 + 1)), some (.inr (some a_17))] rfl ?_
      refine bz_goto (tgt := 41) (pc := 160) dX11_zone_160 rfl ?_
      exact hP13
    · have hP14 := hP12.2 c
      clear hP12
      refine bz_aload_n (pc := 74) dX11_zone_74 rfl rfl ?_
      refine bz_rw_rR (pc := 75) dX11_zone_75 fl_X11_12 hP14 (fun r_19 hP15 => ?_)
      clear hP14
      obtain ⟨a_20, rfl, hP16⟩ := hP15
      refine bz_rw_rR (pc := 78) dX11_zone_78 fl_X11_43 hP16 (fun r_21 hP17 => ?_)
      clear hP16
      obtain ⟨a_22, rfl, hP18⟩ := hP17
      refine bz_rw_rR (pc := 81) dX11_zone_81 fl_X11_346 hP18 (fun r_23 hP19 => ?_)
      clear hP18
      refine bz_aload (pc := 84) dX11_zone_84 rfl ?_
      refine bz_rw_rI (pc := 86) dX11_zone_86 fl_X11_144 hP19 (fun x_24 hP20 => ?_)
      clear hP19
      obtain ⟨a_25, rfl, hP21⟩ := hP20
      refine bz_rw_rA (pc := 89) dX11_zone_89 hP21 (fun x_26 hP22 => ?_)
      clear hP21
      refine bz_iload_n (pc := 90) dX11_zone_90 rfl rfl ?_
      refine bz_icmp_eq (tgt := 97) (pc := 91) dX11_zone_91 rfl (fun c => ?_) (fun c => ?_)
      · have hP23 := hP22.1 c
        clear hP22
        refine bz_iload_n (pc := 97) dX11_zone_97 rfl rfl ?_
        refine bz_lookup (pc := 98) [(2, 26), (3, 39)] dX11_zone_98 (by decide) (by decide) (by decide) (by decide) ?_
        refine ⟨fun c => ?_, fun c => ?_⟩
        · have hP24 := hP23.1 c
          clear hP23
          show bz_J G κ kX11_zone (d + 1) F bc bs 124 [some (.inr (some a0)), some (.inl x1), some (.inl x2), some (.inl x3), some (.inl x4), some (.inl x5), some (.inr (some a_17))] [] h
          refine bz_iload (pc := 124) dX11_zone_124 rfl ?_
          refine bz_aload (pc := 126) dX11_zone_126 rfl ?_
          refine bz_rw_rI (pc := 128) dX11_zone_128 fl_X11_162 hP24 (fun x_27 hP25 => ?_)
          clear hP24
          refine bz_iadd (pc := 131) dX11_zone_131 ?_
          refine bz_s_istore (pc := 132) dX11_zone_132 (Nat.le_of_ble_eq_true rfl) [some (.inr (some a0)), some (.inl x1), some (.inl x2), some (.inl x3), some (.inl (x4 + x_27)), some (.inl x5), some (.inr (some a_17))] rfl ?_
          refine bz_goto (tgt := 157) (pc := 134) dX11_zone_134 rfl ?_
          refine bz_s_iinc (pc := 157) dX11_zone_157 (Nat.le_of_ble_eq_true rfl) rfl rfl [some (.inr (some a0)), some (.inl x1), some (.inl x2), some (.inl x3), some (.inl (x4 + x_27)), some (.inl (x5 + 1)), some (.inr (some a_17))] rfl ?_
          refine bz_goto (tgt := 41) (pc := 160) dX11_zone_160 rfl ?_
          exact hP25
        · have hP26 := hP23.2 c
          clear hP23
          refine ⟨fun c => ?_, fun c => ?_⟩
          · have hP27 := hP26.1 c
            clear hP26
            show bz_J G κ kX11_zone (d + 1) F bc bs 137 [some (.inr (some a0)), some (.inl x1), some (.inl x2), some (.inl x3), some (.inl x4), some (.inl x5), some (.inr (some a_17))] [] h
            refine bz_iload (pc := 137) dX11_zone_137 rfl ?_
            refine bz_aload_n (pc := 139) dX11_zone_139 rfl rfl ?_
            refine bz_rw_rR (pc := 140) dX11_zone_140 fl_X11_12 hP27 (fun r_28 hP28 => ?_)
            clear hP27
            refine bz_aload (pc := 143) dX11_zone_143 rfl ?_
            obtain ⟨a_31, rfl, hP29⟩ := hP28
            refine bz_kIV (as := [.inr (some a_17)]) (st := [.inl x4]) (ci := 10) (n := 1) (mc := 0) (ms := 0) (bc := bc) (bs := bs) (yc := kX10_payFor) (q := (RX10, TX10, 16)) (b := a_31) (pc := 145) dX11_zone_145 sc_X10_payFor ml_X11_165 im_X10_payFor se_X10_payFor rfl rfl rfl (Nat.le_of_ble_eq_true rfl) hP29 (fun x_29 h_30 hP30 => ?_)
            clear hP29
            refine bz_iadd (pc := 148) dX11_zone_148 ?_
            refine bz_s_istore (pc := 149) dX11_zone_149 (Nat.le_of_ble_eq_true rfl) [some (.inr (some a0)), some (.inl x1), some (.inl x2), some (.inl x3), some (.inl (x4 + x_29)), some (.inl x5), some (.inr (some a_17))] rfl ?_
            refine bz_goto (tgt := 157) (pc := 151) dX11_zone_151 rfl ?_
            refine bz_s_iinc (pc := 157) dX11_zone_157 (Nat.le_of_ble_eq_true rfl) rfl rfl [some (.inr (some a0)), some (.inl x1), some (.inl x2), some (.inl x3), some (.inl (x4 + x_29)), some (.inl (x5 + 1)), some (.inr (some a_17))] rfl ?_
            refine bz_goto (tgt := 41) (pc := 160) dX11_zone_160 rfl ?_
            exact hP30
          · have hP31 := hP26.2 c
            clear hP26
            show bz_J G κ kX11_zone (d + 1) F bc bs 154 [some (.inr (some a0)), some (.inl x1), some (.inl x2), some (.inl x3), some (.inl x4), some (.inl x5), some (.inr (some a_17))] [] h
            refine bz_s_iinc (pc := 154) dX11_zone_154 (Nat.le_of_ble_eq_true rfl) rfl rfl [some (.inr (some a0)), some (.inl x1), some (.inl x2), some (.inl x3), some (.inl (x4 + 1)), some (.inl x5), some (.inr (some a_17))] rfl ?_
            refine bz_s_iinc (pc := 157) dX11_zone_157 (Nat.le_of_ble_eq_true rfl) rfl rfl [some (.inr (some a0)), some (.inl x1), some (.inl x2), some (.inl x3), some (.inl (x4 + 1)), some (.inl (x5 + 1)), some (.inr (some a_17))] rfl ?_
            refine bz_goto (tgt := 41) (pc := 160) dX11_zone_160 rfl ?_
            exact hP31
      · have hP32 := hP22.2 c
        clear hP22
        refine bz_goto (tgt := 157) (pc := 94) dX11_zone_94 rfl ?_
        refine bz_s_iinc (pc := 157) dX11_zone_157 (Nat.le_of_ble_eq_true rfl) rfl rfl [some (.inr (some a0)), some (.inl x1), some (.inl x2), some (.inl x3), some (.inl x4), some (.inl (x5 + 1)), some (.inr (some a_17))] rfl ?_
        refine bz_goto (tgt := 41) (pc := 160) dX11_zone_160 rfl ?_
        exact hP32
theorem m_X11_zone {G : bz_G} {l : Launch} {d mc ms : Nat} {F : Option bz_V → bz_H → Prop} (a0 : Nat) (x1 : Int32) (x2 : Int32) (h : bz_H) (hP : ∀ (κ : bz_K) (bc bs : Nat), κ.2.1 = l → w_X11_zone_0 G κ l d F bc bs a0 x1 x2 h) : bz_Call G l (d + 1) kX11_zone [.inr (some a0), .inl x1, .inl x2] h mc ms F :=
  bz_body (by decide) (Nat.le_of_ble_eq_true rfl) (fun κ hl => g_X11_zone_0 hl a0 x1 x2 h (hP κ mc ms hl))
def w_X12_app_0 (G : bz_G) (l : Launch) (d : Nat) (F : Option bz_V → bz_H → Prop) (a0 : Nat) (x1 : Int32) (x2 : Int32) (x3 : Int32) (h : bz_H) : Prop := bz_rc h a0 12 (bz_cI G l d kX12_isRider [.inr (some a0), .inl x1] h 0 0 (fun x_1 h_2 => (x_1 = 0 → bz_rc h_2 a0 12 (bz_cI G l d kX12_finding [.inr (some a0), .inl 0] h_2 0 0 (fun x_3 h_4 => F (some (.inl x_3)) h_4))) ∧ (¬ (x_1 = 0) → bz_cI G l d kX12_isMinute [.inl x2] h_2 0 0 (fun x_5 h_6 => (x_5 = 0 → bz_rc h_6 a0 12 (bz_cI G l d kX12_finding [.inr (some a0), .inl 0] h_6 0 0 (fun x_7 h_8 => F (some (.inl x_7)) h_8))) ∧ (¬ (x_5 = 0) → bz_cI G l d kX12_isMinute [.inl x3] h_6 0 0 (fun x_9 h_10 => (x_9 = 0 → bz_rc h_10 a0 12 (bz_cI G l d kX12_finding [.inr (some a0), .inl 0] h_10 0 0 (fun x_11 h_12 => F (some (.inl x_11)) h_12))) ∧ (¬ (x_9 = 0) → (x2 < x3 → bz_rR h_10 a0 12 0 (fun r_13 => bz_nn r_13 (fun a_14 => bz_rA h_10 a_14 (726 + (9 * x1)) (fun x_15 => (¬ x_15 = 4 → bz_rR h_10 a0 12 0 (fun r_16 => bz_rR h_10 a0 12 0 (fun r_17 => bz_nn r_17 (fun a_18 => bz_rA h_10 a_18 (726 + (9 * x1)) (fun x_19 => bz_nn r_16 (fun a_20 => bz_wA h_10 a_20 (((726 + (9 * x1)) + 1) + (2 * x_19)) x2 (fun h_21 => bz_rR h_21 a0 12 0 (fun r_22 => bz_rR h_21 a0 12 0 (fun r_23 => bz_nn r_23 (fun a_24 => bz_rA h_21 a_24 (726 + (9 * x1)) (fun x_25 => bz_nn r_22 (fun a_26 => bz_wA h_21 a_26 (((726 + (9 * x1)) + 2) + (2 * x_25)) x3 (fun h_27 => bz_rR h_27 a0 12 0 (fun r_28 => bz_nn r_28 (fun a_29 => bz_rA h_27 a_29 (726 + (9 * x1)) (fun x_30 => bz_wA h_27 a_29 (726 + (9 * x1)) (x_30 + 1) (fun h_31 => bz_rR h_31 a0 12 0 (fun r_32 => bz_nn r_32 (fun a_33 => bz_rA h_31 a_33 (726 + (9 * x1)) (fun x_34 => F (some (.inl x_34)) h_31)))))))))))))))))))) ∧ (x_15 = 4 → bz_rc h_10 a0 12 (bz_cI G l d kX12_finding [.inr (some a0), .inl 1] h_10 0 0 (fun x_35 h_36 => F (some (.inl x_35)) h_36))))))) ∧ (¬ (x2 < x3) → bz_rc h_10 a0 12 (bz_cI G l d kX12_finding [.inr (some a0), .inl 0] h_10 0 0 (fun x_37 h_38 => F (some (.inl x_37)) h_38))))))))))
set_option maxRecDepth 20000 in
set_option maxHeartbeats 4000000 in
theorem g_X12_app_0 {G : bz_G} {κ : bz_K} {l : Launch} {d : Nat} {F : Option bz_V → bz_H → Prop} {bc bs : Nat} (hl : κ.2.1 = l) (a0 : Nat) (x1 : Int32) (x2 : Int32) (x3 : Int32) (h : bz_H) (hP0 : w_X12_app_0 G l d F a0 x1 x2 x3 h) : bz_J G κ kX12_app (d + 1) F bc bs 0 [some (.inr (some a0)), some (.inl x1), some (.inl x2), some (.inl x3), none] [] h := by
  subst hl
  unfold w_X12_app_0 at hP0
  refine bz_aload_n (pc := 0) dX12_app_0 rfl rfl ?_
  refine bz_iload_n (pc := 1) dX12_app_1 rfl rfl ?_
  refine bz_kIV (as := [.inl x1]) (st := []) (ci := 12) (n := 1) (mc := 0) (ms := 0) (bc := bc) (bs := bs) (yc := kX12_isRider) (q := (RX12, TX12, 34)) (b := a0) (pc := 2) dX12_app_2 sc_X12_isRider ml_X12_139 im_X12_isRider se_X12_isRider rfl rfl rfl (Nat.le_of_ble_eq_true rfl) hP0 (fun x_1 h_2 hP1 => ?_)
  clear hP0
  refine bz_if_eq (tgt := 27) (pc := 5) dX12_app_5 rfl (fun c => ?_) (fun c => ?_)
  · have hP2 := hP1.1 c
    clear hP1
    refine bz_aload_n (pc := 27) dX12_app_27 rfl rfl ?_
    refine bz_iconst (pc := 28) dX12_app_28 ci_0 ?_
    refine bz_kIV (as := [.inl 0]) (st := []) (ci := 12) (n := 1) (mc := 0) (ms := 0) (bc := bc) (bs := bs) (yc := kX12_finding) (q := (RX12, TX12, 34)) (b := a0) (pc := 29) dX12_app_29 sc_X12_finding ml_X12_73 im_X12_finding se_X12_finding rfl rfl rfl (Nat.le_of_ble_eq_true rfl) hP2 (fun x_3 h_4 hP3 => ?_)
    clear hP2
    exact bz_retI (pc := 32) dX12_app_32 rfl rfl hP3
  · have hP4 := hP1.2 c
    clear hP1
    refine bz_iload_n (pc := 8) dX12_app_8 rfl rfl ?_
    refine bz_kIS (as := [.inl x2]) (st := []) (n := 1) (mc := 0) (ms := 0) (bc := bc) (bs := bs) (yc := kX12_isMinute) (pc := 9) dX12_app_9 sc_X12_isMinute ml_X12_305 ss_X12_isMinute rfl (Nat.le_of_ble_eq_true rfl) hP4 (fun x_5 h_6 hP5 => ?_)
    clear hP4
    refine bz_if_eq (tgt := 27) (pc := 12) dX12_app_12 rfl (fun c => ?_) (fun c => ?_)
    · have hP6 := hP5.1 c
      clear hP5
      refine bz_aload_n (pc := 27) dX12_app_27 rfl rfl ?_
      refine bz_iconst (pc := 28) dX12_app_28 ci_0 ?_
      refine bz_kIV (as := [.inl 0]) (st := []) (ci := 12) (n := 1) (mc := 0) (ms := 0) (bc := bc) (bs := bs) (yc := kX12_finding) (q := (RX12, TX12, 34)) (b := a0) (pc := 29) dX12_app_29 sc_X12_finding ml_X12_73 im_X12_finding se_X12_finding rfl rfl rfl (Nat.le_of_ble_eq_true rfl) hP6 (fun x_7 h_8 hP7 => ?_)
      clear hP6
      exact bz_retI (pc := 32) dX12_app_32 rfl rfl hP7
    · have hP8 := hP5.2 c
      clear hP5
      refine bz_iload_n (pc := 15) dX12_app_15 rfl rfl ?_
      refine bz_kIS (as := [.inl x3]) (st := []) (n := 1) (mc := 0) (ms := 0) (bc := bc) (bs := bs) (yc := kX12_isMinute) (pc := 16) dX12_app_16 sc_X12_isMinute ml_X12_305 ss_X12_isMinute rfl (Nat.le_of_ble_eq_true rfl) hP8 (fun x_9 h_10 hP9 => ?_)
      clear hP8
      refine bz_if_eq (tgt := 27) (pc := 19) dX12_app_19 rfl (fun c => ?_) (fun c => ?_)
      · have hP10 := hP9.1 c
        clear hP9
        refine bz_aload_n (pc := 27) dX12_app_27 rfl rfl ?_
        refine bz_iconst (pc := 28) dX12_app_28 ci_0 ?_
        refine bz_kIV (as := [.inl 0]) (st := []) (ci := 12) (n := 1) (mc := 0) (ms := 0) (bc := bc) (bs := bs) (yc := kX12_finding) (q := (RX12, TX12, 34)) (b := a0) (pc := 29) dX12_app_29 sc_X12_finding ml_X12_73 im_X12_finding se_X12_finding rfl rfl rfl (Nat.le_of_ble_eq_true rfl) hP10 (fun x_11 h_12 hP11 => ?_)
        clear hP10
        exact bz_retI (pc := 32) dX12_app_32 rfl rfl hP11
      · have hP12 := hP9.2 c
        clear hP9
        refine bz_iload_n (pc := 22) dX12_app_22 rfl rfl ?_
        refine bz_iload_n (pc := 23) dX12_app_23 rfl rfl ?_
        refine bz_icmp_gt (tgt := 33) (pc := 24) dX12_app_24 rfl (fun c => ?_) (fun c => ?_)
        · have hP13 := hP12.1 c
          clear hP12
          refine bz_sipush (pc := 33) dX12_app_33 cs_726 ?_
          refine bz_bipush (pc := 36) dX12_app_36 cb_9 ?_
          refine bz_iload_n (pc := 38) dX12_app_38 rfl rfl ?_
          refine bz_imul (pc := 39) dX12_app_39 ?_
          refine bz_iadd (pc := 40) dX12_app_40 ?_
          refine bz_s_istore (pc := 41) dX12_app_41 (Nat.le_of_ble_eq_true rfl) [some (.inr (some a0)), some (.inl x1), some (.inl x2), some (.inl x3), some (.inl (726 + (9 * x1)))] rfl ?_
          refine bz_aload_n (pc := 43) dX12_app_43 rfl rfl ?_
          refine bz_rw_rR (pc := 44) dX12_app_44 fl_X12_7 hP13 (fun r_13 hP14 => ?_)
          clear hP13
          refine bz_iload (pc := 47) dX12_app_47 rfl ?_
          obtain ⟨a_14, rfl, hP15⟩ := hP14
          refine bz_rw_rA (pc := 49) dX12_app_49 hP15 (fun x_15 hP16 => ?_)
          clear hP15
          refine bz_iconst (pc := 50) dX12_app_50 ci_4 ?_
          refine bz_icmp_ne (tgt := 60) (pc := 51) dX12_app_51 rfl (fun c => ?_) (fun c => ?_)
          · have hP17 := hP16.1 c
            clear hP16
            refine bz_aload_n (pc := 60) dX12_app_60 rfl rfl ?_
            refine bz_rw_rR (pc := 61) dX12_app_61 fl_X12_7 hP17 (fun r_16 hP18 => ?_)
            clear hP17
            refine bz_iload (pc := 64) dX12_app_64 rfl ?_
            refine bz_iconst (pc := 66) dX12_app_66 ci_1 ?_
            refine bz_iadd (pc := 67) dX12_app_67 ?_
            refine bz_iconst (pc := 68) dX12_app_68 ci_2 ?_
            refine bz_aload_n (pc := 69) dX12_app_69 rfl rfl ?_
            refine bz_rw_rR (pc := 70) dX12_app_70 fl_X12_7 hP18 (fun r_17 hP19 => ?_)
            clear hP18
            refine bz_iload (pc := 73) dX12_app_73 rfl ?_
            obtain ⟨a_18, rfl, hP20⟩ := hP19
            refine bz_rw_rA (pc := 75) dX12_app_75 hP20 (fun x_19 hP21 => ?_)
            clear hP20
            refine bz_imul (pc := 76) dX12_app_76 ?_
            refine bz_iadd (pc := 77) dX12_app_77 ?_
            refine bz_iload_n (pc := 78) dX12_app_78 rfl rfl ?_
            obtain ⟨a_20, rfl, hP22⟩ := hP21
            refine bz_rw_wA (pc := 79) dX12_app_79 hP22 (fun h_21 hP23 => ?_)
            clear hP22
            refine bz_aload_n (pc := 80) dX12_app_80 rfl rfl ?_
            refine bz_rw_rR (pc := 81) dX12_app_81 fl_X12_7 hP23 (fun r_22 hP24 => ?_)
            clear hP23
            refine bz_iload (pc := 84) dX12_app_84 rfl ?_
            refine bz_iconst (pc := 86) dX12_app_86 ci_2 ?_
            refine bz_iadd (pc := 87) dX12_app_87 ?_
            refine bz_iconst (pc := 88) dX12_app_88 ci_2 ?_
            refine bz_aload_n (pc := 89) dX12_app_89 rfl rfl ?_
            refine bz_rw_rR (pc := 90) dX12_app_90 fl_X12_7 hP24 (fun r_23 hP25 => ?_)
            clear hP24
            refine bz_iload (pc := 93) dX12_app_93 rfl ?_
            obtain ⟨a_24, rfl, hP26⟩ := hP25
            refine bz_rw_rA (pc := 95) dX12_app_95 hP26 (fun x_25 hP27 => ?_)
            clear hP26
            refine bz_imul (pc := 96) dX12_app_96 ?_
            refine bz_iadd (pc := 97) dX12_app_97 ?_
            refine bz_iload_n (pc := 98) dX12_app_98 rfl rfl ?_
            obtain ⟨a_26, rfl, hP28⟩ := hP27
            refine bz_rw_wA (pc := 99) dX12_app_99 hP28 (fun h_27 hP29 => ?_)
            clear hP28
            refine bz_aload_n (pc := 100) dX12_app_100 rfl rfl ?_
            refine bz_rw_rR (pc := 101) dX12_app_101 fl_X12_7 hP29 (fun r_28 hP30 => ?_)
            clear hP29
            refine bz_iload (pc := 104) dX12_app_104 rfl ?_
            refine bz_dup2 (pc := 106) dX12_app_106 ?_
            obtain ⟨a_29, rfl, hP31⟩ := hP30
            refine bz_rw_rA (pc := 107) dX12_app_107 hP31 (fun x_30 hP32 => ?_)
            clear hP31
            refine bz_iconst (pc := 108) dX12_app_108 ci_1 ?_
            refine bz_iadd (pc := 109) dX12_app_109 ?_
            refine bz_rw_wA (pc := 110) dX12_app_110 hP32 (fun h_31 hP33 => ?_)
            clear hP32
            refine bz_aload_n (pc := 111) dX12_app_111 rfl rfl ?_
            refine bz_rw_rR (pc := 112) dX12_app_112 fl_X12_7 hP33 (fun r_32 hP34 => ?_)
            clear hP33
            refine bz_iload (pc := 115) dX12_app_115 rfl ?_
            obtain ⟨a_33, rfl, hP35⟩ := hP34
            refine bz_rw_rA (pc := 117) dX12_app_117 hP35 (fun x_34 hP36 => ?_)
            clear hP35
            exact bz_retI (pc := 118) dX12_app_118 rfl rfl hP36
          · have hP37 := hP16.2 c
            clear hP16
            refine bz_aload_n (pc := 54) dX12_app_54 rfl rfl ?_
            refine bz_iconst (pc := 55) dX12_app_55 ci_1 ?_
            refine bz_kIV (as := [.inl 1]) (st := []) (ci := 12) (n := 1) (mc := 0) (ms := 0) (bc := bc) (bs := bs) (yc := kX12_finding) (q := (RX12, TX12, 34)) (b := a0) (pc := 56) dX12_app_56 sc_X12_finding ml_X12_73 im_X12_finding se_X12_finding rfl rfl rfl (Nat.le_of_ble_eq_true rfl) hP37 (fun x_35 h_36 hP38 => ?_)
            clear hP37
            exact bz_retI (pc := 59) dX12_app_59 rfl rfl hP38
        · have hP39 := hP12.2 c
          clear hP12
          refine bz_aload_n (pc := 27) dX12_app_27 rfl rfl ?_
          refine bz_iconst (pc := 28) dX12_app_28 ci_0 ?_
          refine bz_kIV (as := [.inl 0]) (st := []) (ci := 12) (n := 1) (mc := 0) (ms := 0) (bc := bc) (bs := bs) (yc := kX12_finding) (q := (RX12, TX12, 34)) (b := a0) (pc := 29) dX12_app_29 sc_X12_finding ml_X12_73 im_X12_finding se_X12_finding rfl rfl rfl (Nat.le_of_ble_eq_true rfl) hP39 (fun x_37 h_38 hP40 => ?_)
          clear hP39
          exact bz_retI (pc := 32) dX12_app_32 rfl rfl hP40
theorem m_X12_app {G : bz_G} {l : Launch} {d mc ms : Nat} {F : Option bz_V → bz_H → Prop} (a0 : Nat) (x1 : Int32) (x2 : Int32) (x3 : Int32) (h : bz_H) (hP : w_X12_app_0 G l d F a0 x1 x2 x3 h) : bz_Call G l (d + 1) kX12_app [.inr (some a0), .inl x1, .inl x2, .inl x3] h mc ms F :=
  bz_body (by decide) (Nat.le_of_ble_eq_true rfl) (fun κ hl => g_X12_app_0 hl a0 x1 x2 x3 h hP)
def w_X12_as_0 (G : bz_G) (l : Launch) (d : Nat) (F : Option bz_V → bz_H → Prop) (a0 : Nat) (x1 : Int32) (x2 : Int32) (h : bz_H) : Prop := bz_cI G l d kX12_isSpot [.inl x1] h 0 0 (fun x_1 h_2 => (x_1 = 0 → bz_rc h_2 a0 12 (bz_cI G l d kX12_finding [.inr (some a0), .inl 0] h_2 0 0 (fun x_3 h_4 => F (some (.inl x_3)) h_4))) ∧ (¬ (x_1 = 0) → bz_cI G l d kX12_in [.inl x2, .inl 0, .inl 6] h_2 0 0 (fun x_5 h_6 => (¬ x_5 = 0 → bz_rR h_6 a0 12 0 (fun r_7 => bz_nn r_7 (fun a_8 => bz_rA h_6 a_8 (966 + x1) (fun x_9 => (0 ≤ x_9 → bz_rc h_6 a0 12 (bz_cI G l d kX12_ofRider [.inr (some a0), .inl x_9, .inl 0] h_6 0 0 (fun x_10 h_11 => bz_cI G l d kX12_isOf [.inl x_10, .inl x2] h_11 0 0 (fun x_12 h_13 => (x_12 = 0 → bz_rc h_13 a0 12 (bz_cI G l d kX12_finding [.inr (some a0), .inl 2] h_13 0 0 (fun x_14 h_15 => F (some (.inl x_14)) h_15))) ∧ (¬ (x_12 = 0) → F (some (.inl x_9)) h_13))))) ∧ (¬ (0 ≤ x_9) → bz_rc h_6 a0 12 (bz_cI G l d kX12_finding [.inr (some a0), .inl 5] h_6 0 0 (fun x_16 h_17 => F (some (.inl x_16)) h_17))))))) ∧ (x_5 = 0 → bz_rc h_6 a0 12 (bz_cI G l d kX12_finding [.inr (some a0), .inl 0] h_6 0 0 (fun x_18 h_19 => F (some (.inl x_18)) h_19))))))
set_option maxRecDepth 20000 in
set_option maxHeartbeats 4000000 in
theorem g_X12_as_0 {G : bz_G} {κ : bz_K} {l : Launch} {d : Nat} {F : Option bz_V → bz_H → Prop} {bc bs : Nat} (hl : κ.2.1 = l) (a0 : Nat) (x1 : Int32) (x2 : Int32) (h : bz_H) (hP0 : w_X12_as_0 G l d F a0 x1 x2 h) : bz_J G κ kX12_as (d + 1) F bc bs 0 [some (.inr (some a0)), some (.inl x1), some (.inl x2), none] [] h := by
  subst hl
  unfold w_X12_as_0 at hP0
  refine bz_iload_n (pc := 0) dX12_as_0 rfl rfl ?_
  refine bz_kIS (as := [.inl x1]) (st := []) (n := 1) (mc := 0) (ms := 0) (bc := bc) (bs := bs) (yc := kX12_isSpot) (pc := 1) dX12_as_1 sc_X12_isSpot ml_X12_335 ss_X12_isSpot rfl (Nat.le_of_ble_eq_true rfl) hP0 (fun x_1 h_2 hP1 => ?_)
  clear hP0
  refine bz_if_eq (tgt := 17) (pc := 4) dX12_as_4 rfl (fun c => ?_) (fun c => ?_)
  · have hP2 := hP1.1 c
    clear hP1
    refine bz_aload_n (pc := 17) dX12_as_17 rfl rfl ?_
    refine bz_iconst (pc := 18) dX12_as_18 ci_0 ?_
    refine bz_kIV (as := [.inl 0]) (st := []) (ci := 12) (n := 1) (mc := 0) (ms := 0) (bc := bc) (bs := bs) (yc := kX12_finding) (q := (RX12, TX12, 34)) (b := a0) (pc := 19) dX12_as_19 sc_X12_finding ml_X12_73 im_X12_finding se_X12_finding rfl rfl rfl (Nat.le_of_ble_eq_true rfl) hP2 (fun x_3 h_4 hP3 => ?_)
    clear hP2
    exact bz_retI (pc := 22) dX12_as_22 rfl rfl hP3
  · have hP4 := hP1.2 c
    clear hP1
    refine bz_iload_n (pc := 7) dX12_as_7 rfl rfl ?_
    refine bz_iconst (pc := 8) dX12_as_8 ci_0 ?_
    refine bz_bipush (pc := 9) dX12_as_9 cb_6 ?_
    refine bz_kIS (as := [.inl x2, .inl 0, .inl 6]) (st := []) (n := 3) (mc := 0) (ms := 0) (bc := bc) (bs := bs) (yc := kX12_in) (pc := 11) dX12_as_11 sc_X12_in ml_X12_65 ss_X12_in rfl (Nat.le_of_ble_eq_true rfl) hP4 (fun x_5 h_6 hP5 => ?_)
    clear hP4
    refine bz_if_ne (tgt := 23) (pc := 14) dX12_as_14 rfl (fun c => ?_) (fun c => ?_)
    · have hP6 := hP5.1 c
      clear hP5
      refine bz_aload_n (pc := 23) dX12_as_23 rfl rfl ?_
      refine bz_rw_rR (pc := 24) dX12_as_24 fl_X12_7 hP6 (fun r_7 hP7 => ?_)
      clear hP6
      refine bz_sipush (pc := 27) dX12_as_27 cs_966 ?_
      refine bz_iload_n (pc := 30) dX12_as_30 rfl rfl ?_
      refine bz_iadd (pc := 31) dX12_as_31 ?_
      obtain ⟨a_8, rfl, hP8⟩ := hP7
      refine bz_rw_rA (pc := 32) dX12_as_32 hP8 (fun x_9 hP9 => ?_)
      clear hP8
      refine bz_s_istore_n (pc := 33) dX12_as_33 rfl (Nat.le_of_ble_eq_true rfl) [some (.inr (some a0)), some (.inl x1), some (.inl x2), some (.inl x_9)] rfl ?_
      refine bz_iload_n (pc := 34) dX12_as_34 rfl rfl ?_
      refine bz_if_ge (tgt := 44) (pc := 35) dX12_as_35 rfl (fun c => ?_) (fun c => ?_)
      · have hP10 := hP9.1 c
        clear hP9
        refine bz_aload_n (pc := 44) dX12_as_44 rfl rfl ?_
        refine bz_iload_n (pc := 45) dX12_as_45 rfl rfl ?_
        refine bz_iconst (pc := 46) dX12_as_46 ci_0 ?_
        refine bz_kIV (as := [.inl x_9, .inl 0]) (st := []) (ci := 12) (n := 2) (mc := 0) (ms := 0) (bc := bc) (bs := bs) (yc := kX12_ofRider) (q := (RX12, TX12, 34)) (b := a0) (pc := 47) dX12_as_47 sc_X12_ofRider ml_X12_136 im_X12_ofRider se_X12_ofRider rfl rfl rfl (Nat.le_of_ble_eq_true rfl) hP10 (fun x_10 h_11 hP11 => ?_)
        clear hP10
        refine bz_iload_n (pc := 50) dX12_as_50 rfl rfl ?_
        refine bz_kIS (as := [.inl x_10, .inl x2]) (st := []) (n := 2) (mc := 0) (ms := 0) (bc := bc) (bs := bs) (yc := kX12_isOf) (pc := 51) dX12_as_51 sc_X12_isOf ml_X12_338 ss_X12_isOf rfl (Nat.le_of_ble_eq_true rfl) hP11 (fun x_12 h_13 hP12 => ?_)
        clear hP11
        refine bz_if_eq (tgt := 61) (pc := 54) dX12_as_54 rfl (fun c => ?_) (fun c => ?_)
        · have hP13 := hP12.1 c
          clear hP12
          refine bz_aload_n (pc := 61) dX12_as_61 rfl rfl ?_
          refine bz_iconst (pc := 62) dX12_as_62 ci_2 ?_
          refine bz_kIV (as := [.inl 2]) (st := []) (ci := 12) (n := 1) (mc := 0) (ms := 0) (bc := bc) (bs := bs) (yc := kX12_finding) (q := (RX12, TX12, 34)) (b := a0) (pc := 63) dX12_as_63 sc_X12_finding ml_X12_73 im_X12_finding se_X12_finding rfl rfl rfl (Nat.le_of_ble_eq_true rfl) hP13 (fun x_14 h_15 hP14 => ?_)
          clear hP13
          exact bz_retI (pc := 66) dX12_as_66 rfl rfl hP14
        · have hP15 := hP12.2 c
          clear hP12
          refine bz_iload_n (pc := 57) dX12_as_57 rfl rfl ?_
          refine bz_goto (tgt := 66) (pc := 58) dX12_as_58 rfl ?_
          exact bz_retI (pc := 66) dX12_as_66 rfl rfl hP15
      · have hP16 := hP9.2 c
        clear hP9
        refine bz_aload_n (pc := 38) dX12_as_38 rfl rfl ?_
        refine bz_iconst (pc := 39) dX12_as_39 ci_5 ?_
        refine bz_kIV (as := [.inl 5]) (st := []) (ci := 12) (n := 1) (mc := 0) (ms := 0) (bc := bc) (bs := bs) (yc := kX12_finding) (q := (RX12, TX12, 34)) (b := a0) (pc := 40) dX12_as_40 sc_X12_finding ml_X12_73 im_X12_finding se_X12_finding rfl rfl rfl (Nat.le_of_ble_eq_true rfl) hP16 (fun x_16 h_17 hP17 => ?_)
        clear hP16
        exact bz_retI (pc := 43) dX12_as_43 rfl rfl hP17
    · have hP18 := hP5.2 c
      clear hP5
      refine bz_aload_n (pc := 17) dX12_as_17 rfl rfl ?_
      refine bz_iconst (pc := 18) dX12_as_18 ci_0 ?_
      refine bz_kIV (as := [.inl 0]) (st := []) (ci := 12) (n := 1) (mc := 0) (ms := 0) (bc := bc) (bs := bs) (yc := kX12_finding) (q := (RX12, TX12, 34)) (b := a0) (pc := 19) dX12_as_19 sc_X12_finding ml_X12_73 im_X12_finding se_X12_finding rfl rfl rfl (Nat.le_of_ble_eq_true rfl) hP18 (fun x_18 h_19 hP19 => ?_)
      clear hP18
      exact bz_retI (pc := 22) dX12_as_22 rfl rfl hP19
theorem m_X12_as {G : bz_G} {l : Launch} {d mc ms : Nat} {F : Option bz_V → bz_H → Prop} (a0 : Nat) (x1 : Int32) (x2 : Int32) (h : bz_H) (hP : w_X12_as_0 G l d F a0 x1 x2 h) : bz_Call G l (d + 1) kX12_as [.inr (some a0), .inl x1, .inl x2] h mc ms F :=
  bz_body (by decide) (Nat.le_of_ble_eq_true rfl) (fun κ hl => g_X12_as_0 hl a0 x1 x2 h hP)
def w_X12_ban_0 (G : bz_G) (κ : bz_K) (l : Launch) (d : Nat) (F : Option bz_V → bz_H → Prop) (bc bs : Nat) (a0 : Nat) (x1 : Int32) (x2 : Int32) (x3 : Int32) (h : bz_H) : Prop := bz_rc h a0 12 (bz_cI G l d kX12_isRider [.inr (some a0), .inl x1] h 0 0 (fun x_1 h_2 => (x_1 = 0 → bz_rc h_2 a0 12 (bz_cI G l d kX12_finding [.inr (some a0), .inl 0] h_2 0 0 (fun x_3 h_4 => F (some (.inl x_3)) h_4))) ∧ (¬ (x_1 = 0) → bz_cI G l d kX12_in [.inl x2, .inl 0, .inl 50] h_2 0 0 (fun x_5 h_6 => (x_5 = 0 → bz_rc h_6 a0 12 (bz_cI G l d kX12_finding [.inr (some a0), .inl 0] h_6 0 0 (fun x_7 h_8 => F (some (.inl x_7)) h_8))) ∧ (¬ (x_5 = 0) → bz_cI G l d kX12_in [.inl x3, .inl 1, .inl 9] h_6 0 0 (fun x_9 h_10 => (¬ x_9 = 0 → bz_J G κ kX12_ban (d + 1) F bc bs 40 [some (.inr (some a0)), some (.inl x1), some (.inl x2), some (.inl x3), some (.inl 0), some (.inl 0)] [] h_10) ∧ (x_9 = 0 → bz_rc h_10 a0 12 (bz_cI G l d kX12_finding [.inr (some a0), .inl 0] h_10 0 0 (fun x_11 h_12 => F (some (.inl x_11)) h_12)))))))))
set_option maxRecDepth 20000 in
set_option maxHeartbeats 4000000 in
theorem g_X12_ban_0 {G : bz_G} {κ : bz_K} {l : Launch} {d : Nat} {F : Option bz_V → bz_H → Prop} {bc bs : Nat} (hl : κ.2.1 = l) (a0 : Nat) (x1 : Int32) (x2 : Int32) (x3 : Int32) (h : bz_H) (hP0 : w_X12_ban_0 G κ l d F bc bs a0 x1 x2 x3 h) : bz_J G κ kX12_ban (d + 1) F bc bs 0 [some (.inr (some a0)), some (.inl x1), some (.inl x2), some (.inl x3), none, none] [] h := by
  subst hl
  unfold w_X12_ban_0 at hP0
  refine bz_aload_n (pc := 0) dX12_ban_0 rfl rfl ?_
  refine bz_iload_n (pc := 1) dX12_ban_1 rfl rfl ?_
  refine bz_kIV (as := [.inl x1]) (st := []) (ci := 12) (n := 1) (mc := 0) (ms := 0) (bc := bc) (bs := bs) (yc := kX12_isRider) (q := (RX12, TX12, 34)) (b := a0) (pc := 2) dX12_ban_2 sc_X12_isRider ml_X12_139 im_X12_isRider se_X12_isRider rfl rfl rfl (Nat.le_of_ble_eq_true rfl) hP0 (fun x_1 h_2 hP1 => ?_)
  clear hP0
  refine bz_if_eq (tgt := 28) (pc := 5) dX12_ban_5 rfl (fun c => ?_) (fun c => ?_)
  · have hP2 := hP1.1 c
    clear hP1
    refine bz_aload_n (pc := 28) dX12_ban_28 rfl rfl ?_
    refine bz_iconst (pc := 29) dX12_ban_29 ci_0 ?_
    refine bz_kIV (as := [.inl 0]) (st := []) (ci := 12) (n := 1) (mc := 0) (ms := 0) (bc := bc) (bs := bs) (yc := kX12_finding) (q := (RX12, TX12, 34)) (b := a0) (pc := 30) dX12_ban_30 sc_X12_finding ml_X12_73 im_X12_finding se_X12_finding rfl rfl rfl (Nat.le_of_ble_eq_true rfl) hP2 (fun x_3 h_4 hP3 => ?_)
    clear hP2
    exact bz_retI (pc := 33) dX12_ban_33 rfl rfl hP3
  · have hP4 := hP1.2 c
    clear hP1
    refine bz_iload_n (pc := 8) dX12_ban_8 rfl rfl ?_
    refine bz_iconst (pc := 9) dX12_ban_9 ci_0 ?_
    refine bz_bipush (pc := 10) dX12_ban_10 cb_50 ?_
    refine bz_kIS (as := [.inl x2, .inl 0, .inl 50]) (st := []) (n := 3) (mc := 0) (ms := 0) (bc := bc) (bs := bs) (yc := kX12_in) (pc := 12) dX12_ban_12 sc_X12_in ml_X12_65 ss_X12_in rfl (Nat.le_of_ble_eq_true rfl) hP4 (fun x_5 h_6 hP5 => ?_)
    clear hP4
    refine bz_if_eq (tgt := 28) (pc := 15) dX12_ban_15 rfl (fun c => ?_) (fun c => ?_)
    · have hP6 := hP5.1 c
      clear hP5
      refine bz_aload_n (pc := 28) dX12_ban_28 rfl rfl ?_
      refine bz_iconst (pc := 29) dX12_ban_29 ci_0 ?_
      refine bz_kIV (as := [.inl 0]) (st := []) (ci := 12) (n := 1) (mc := 0) (ms := 0) (bc := bc) (bs := bs) (yc := kX12_finding) (q := (RX12, TX12, 34)) (b := a0) (pc := 30) dX12_ban_30 sc_X12_finding ml_X12_73 im_X12_finding se_X12_finding rfl rfl rfl (Nat.le_of_ble_eq_true rfl) hP6 (fun x_7 h_8 hP7 => ?_)
      clear hP6
      exact bz_retI (pc := 33) dX12_ban_33 rfl rfl hP7
    · have hP8 := hP5.2 c
      clear hP5
      refine bz_iload_n (pc := 18) dX12_ban_18 rfl rfl ?_
      refine bz_iconst (pc := 19) dX12_ban_19 ci_1 ?_
      refine bz_bipush (pc := 20) dX12_ban_20 cb_9 ?_
      refine bz_kIS (as := [.inl x3, .inl 1, .inl 9]) (st := []) (n := 3) (mc := 0) (ms := 0) (bc := bc) (bs := bs) (yc := kX12_in) (pc := 22) dX12_ban_22 sc_X12_in ml_X12_65 ss_X12_in rfl (Nat.le_of_ble_eq_true rfl) hP8 (fun x_9 h_10 hP9 => ?_)
      clear hP8
      refine bz_if_ne (tgt := 34) (pc := 25) dX12_ban_25 rfl (fun c => ?_) (fun c => ?_)
      · have hP10 := hP9.1 c
        clear hP9
        refine bz_iconst (pc := 34) dX12_ban_34 ci_0 ?_
        refine bz_s_istore (pc := 35) dX12_ban_35 (Nat.le_of_ble_eq_true rfl) [some (.inr (some a0)), some (.inl x1), some (.inl x2), some (.inl x3), some (.inl 0), none] rfl ?_
        refine bz_iconst (pc := 37) dX12_ban_37 ci_0 ?_
        refine bz_s_istore (pc := 38) dX12_ban_38 (Nat.le_of_ble_eq_true rfl) [some (.inr (some a0)), some (.inl x1), some (.inl x2), some (.inl x3), some (.inl 0), some (.inl 0)] rfl ?_
        exact hP10
      · have hP11 := hP9.2 c
        clear hP9
        refine bz_aload_n (pc := 28) dX12_ban_28 rfl rfl ?_
        refine bz_iconst (pc := 29) dX12_ban_29 ci_0 ?_
        refine bz_kIV (as := [.inl 0]) (st := []) (ci := 12) (n := 1) (mc := 0) (ms := 0) (bc := bc) (bs := bs) (yc := kX12_finding) (q := (RX12, TX12, 34)) (b := a0) (pc := 30) dX12_ban_30 sc_X12_finding ml_X12_73 im_X12_finding se_X12_finding rfl rfl rfl (Nat.le_of_ble_eq_true rfl) hP11 (fun x_11 h_12 hP12 => ?_)
        clear hP11
        exact bz_retI (pc := 33) dX12_ban_33 rfl rfl hP12
def w_X12_ban_40 (G : bz_G) (κ : bz_K) (l : Launch) (d : Nat) (F : Option bz_V → bz_H → Prop) (bc bs : Nat) (a0 : Nat) (x1 : Int32) (x2 : Int32) (x3 : Int32) (x4 : Int32) (x5 : Int32) (h : bz_H) : Prop := bz_rR h a0 12 0 (fun r_13 => bz_nn r_13 (fun a_14 => bz_rA h a_14 2 (fun x_15 => (x_15 ≤ x5 → bz_rc h a0 12 (bz_cI G l d kX12_ofRider [.inr (some a0), .inl x1, .inl 3] h 0 0 (fun x_16 h_17 => (x_16 < x3 → F (some (.inl 0)) h_17) ∧ (¬ (x_16 < x3) → (¬ x_16 = 0) ∧ (F (some (.inl (if x2 ≤ (x4 / x_16) then 0 else 1))) h_17))))) ∧ (¬ (x_15 ≤ x5) → bz_rc h a0 12 (bz_cI G l d kX12_isHis [.inr (some a0), .inl x1, .inl x5] h 0 0 (fun x_18 h_19 => (x_18 = 0 → bz_J G κ kX12_ban (d + 1) F bc bs 40 [some (.inr (some a0)), some (.inl x1), some (.inl x2), some (.inl x3), some (.inl (x4 + 0)), some (.inl (x5 + 1))] [] h_19) ∧ (¬ (x_18 = 0) → bz_rc h_19 a0 12 (bz_cI G l d kX12_lack [.inr (some a0), .inl x5, .inl 2] h_19 0 0 (fun x_20 h_21 => bz_cI G l d kX12_lessOf50 [.inl x_20] h_21 0 0 (fun x_22 h_23 => bz_J G κ kX12_ban (d + 1) F bc bs 40 [some (.inr (some a0)), some (.inl x1), some (.inl x2), some (.inl x3), some (.inl (x4 + x_22)), some (.inl (x5 + 1))] [] h_23))))))))))
set_option maxRecDepth 20000 in
set_option maxHeartbeats 4000000 in
theorem g_X12_ban_40 {G : bz_G} {κ : bz_K} {l : Launch} {d : Nat} {F : Option bz_V → bz_H → Prop} {bc bs : Nat} (hl : κ.2.1 = l) (a0 : Nat) (x1 : Int32) (x2 : Int32) (x3 : Int32) (x4 : Int32) (x5 : Int32) (h : bz_H) (hP0 : w_X12_ban_40 G κ l d F bc bs a0 x1 x2 x3 x4 x5 h) : bz_J G κ kX12_ban (d + 1) F bc bs 40 [some (.inr (some a0)), some (.inl x1), some (.inl x2), some (.inl x3), some (.inl x4), some (.inl x5)] [] h := by
  subst hl
  unfold w_X12_ban_40 at hP0
  refine bz_iload (pc := 40) dX12_ban_40 rfl ?_
  refine bz_aload_n (pc := 42) dX12_ban_42 rfl rfl ?_
  refine bz_rw_rR (pc := 43) dX12_ban_43 fl_X12_7 hP0 (fun r_13 hP1 => ?_)
  clear hP0
  refine bz_iconst (pc := 46) dX12_ban_46 ci_2 ?_
  obtain ⟨a_14, rfl, hP2⟩ := hP1
  refine bz_rw_rA (pc := 47) dX12_ban_47 hP2 (fun x_15 hP3 => ?_)
  clear hP2
  refine bz_icmp_ge (tgt := 86) (pc := 48) dX12_ban_48 rfl (fun c => ?_) (fun c => ?_)
  · have hP4 := hP3.1 c
    clear hP3
    refine bz_aload_n (pc := 86) dX12_ban_86 rfl rfl ?_
    refine bz_iload_n (pc := 87) dX12_ban_87 rfl rfl ?_
    refine bz_iconst (pc := 88) dX12_ban_88 ci_3 ?_
    refine bz_kIV (as := [.inl x1, .inl 3]) (st := []) (ci := 12) (n := 2) (mc := 0) (ms := 0) (bc := bc) (bs := bs) (yc := kX12_ofRider) (q := (RX12, TX12, 34)) (b := a0) (pc := 89) dX12_ban_89 sc_X12_ofRider ml_X12_136 im_X12_ofRider se_X12_ofRider rfl rfl rfl (Nat.le_of_ble_eq_true rfl) hP4 (fun x_16 h_17 hP5 => ?_)
    clear hP4
    refine bz_s_istore (pc := 92) dX12_ban_92 (Nat.le_of_ble_eq_true rfl) [some (.inr (some a0)), some (.inl x1), some (.inl x2), some (.inl x3), some (.inl x4), some (.inl x_16)] rfl ?_
    refine bz_iload (pc := 94) dX12_ban_94 rfl ?_
    refine bz_iload_n (pc := 96) dX12_ban_96 rfl rfl ?_
    refine bz_icmp_lt (tgt := 113) (pc := 97) dX12_ban_97 rfl (fun c => ?_) (fun c => ?_)
    · have hP6 := hP5.1 c
      clear hP5
      refine bz_iconst (pc := 113) dX12_ban_113 ci_0 ?_
      exact bz_retI (pc := 114) dX12_ban_114 rfl rfl hP6
    · have hP7 := hP5.2 c
      clear hP5
      refine bz_iload (pc := 100) dX12_ban_100 rfl ?_
      refine bz_iload (pc := 102) dX12_ban_102 rfl ?_
      obtain ⟨hz, hP8⟩ := hP7
      refine bz_idiv (pc := 104) dX12_ban_104 hz ?_
      refine bz_iload_n (pc := 105) dX12_ban_105 rfl rfl ?_
      have hJ : bz_J G κ kX12_ban (d + 1) F bc bs 114 [some (.inr (some a0)), some (.inl x1), some (.inl x2), some (.inl x3), some (.inl x4), some (.inl x_16)] [.inl (if x2 ≤ (x4 / x_16) then 0 else 1)] h_17 := by
        exact bz_retI (pc := 114) dX12_ban_114 rfl rfl hP8
      refine bz_icmp_ge (tgt := 113) (pc := 106) dX12_ban_106 rfl (fun c => ?_) (fun c => ?_)
      · have e9 : ((if x2 ≤ (x4 / x_16) then 0 else 1) : Int32) = (0) := if_pos c
        rw [e9] at hJ
        refine bz_iconst (pc := 113) dX12_ban_113 ci_0 ?_
        exact hJ
      · have e9 : ((if x2 ≤ (x4 / x_16) then 0 else 1) : Int32) = (1) := if_neg c
        rw [e9] at hJ
        refine bz_iconst (pc := 109) dX12_ban_109 ci_1 ?_
        refine bz_goto (tgt := 114) (pc := 110) dX12_ban_110 rfl ?_
        exact hJ
  · have hP9 := hP3.2 c
    clear hP3
    refine bz_iload (pc := 51) dX12_ban_51 rfl ?_
    refine bz_aload_n (pc := 53) dX12_ban_53 rfl rfl ?_
    refine bz_iload_n (pc := 54) dX12_ban_54 rfl rfl ?_
    refine bz_iload (pc := 55) dX12_ban_55 rfl ?_
    refine bz_kIV (as := [.inl x1, .inl x5]) (st := [.inl x4]) (ci := 12) (n := 2) (mc := 0) (ms := 0) (bc := bc) (bs := bs) (yc := kX12_isHis) (q := (RX12, TX12, 34)) (b := a0) (pc := 57) dX12_ban_57 sc_X12_isHis ml_X12_132 im_X12_isHis se_X12_isHis rfl rfl rfl (Nat.le_of_ble_eq_true rfl) hP9 (fun x_18 h_19 hP10 => ?_)
    clear hP9
    refine bz_if_eq (tgt := 76) (pc := 60) dX12_ban_60 rfl (fun c => ?_) (fun c => ?_)
    · have hP11 := hP10.1 c
      clear hP10
      refine bz_iconst (pc := 76) dX12_ban_76 ci_0 ?_
      refine bz_iadd (pc := 77) dX12_ban_77 ?_
      refine bz_s_istore (pc := 78) dX12_ban_78 (Nat.le_of_ble_eq_true rfl) [some (.inr (some a0)), some (.inl x1), some (.inl x2), some (.inl x3), some (.inl (x4 + 0)), some (.inl x5)] rfl ?_
      refine bz_s_iinc (pc := 80) dX12_ban_80 (Nat.le_of_ble_eq_true rfl) rfl rfl [some (.inr (some a0)), some (.inl x1), some (.inl x2), some (.inl x3), some (.inl (x4 + 0)), some (.inl (x5 + 1))] rfl ?_
      refine bz_goto (tgt := 40) (pc := 83) dX12_ban_83 rfl ?_
      exact hP11
    · have hP12 := hP10.2 c
      clear hP10
      refine bz_aload_n (pc := 63) dX12_ban_63 rfl rfl ?_
      refine bz_iload (pc := 64) dX12_ban_64 rfl ?_
      refine bz_iconst (pc := 66) dX12_ban_66 ci_2 ?_
      refine bz_kIV (as := [.inl x5, .inl 2]) (st := [.inl x4]) (ci := 12) (n := 2) (mc := 0) (ms := 0) (bc := bc) (bs := bs) (yc := kX12_lack) (q := (RX12, TX12, 34)) (b := a0) (pc := 67) dX12_ban_67 sc_X12_lack ml_X12_111 im_X12_lack se_X12_lack rfl rfl rfl (Nat.le_of_ble_eq_true rfl) hP12 (fun x_20 h_21 hP13 => ?_)
      clear hP12
      refine bz_kIS (as := [.inl x_20]) (st := [.inl x4]) (n := 1) (mc := 0) (ms := 0) (bc := bc) (bs := bs) (yc := kX12_lessOf50) (pc := 70) dX12_ban_70 sc_X12_lessOf50 ml_X12_114 ss_X12_lessOf50 rfl (Nat.le_of_ble_eq_true rfl) hP13 (fun x_22 h_23 hP14 => ?_)
      clear hP13
      refine bz_goto (tgt := 77) (pc := 73) dX12_ban_73 rfl ?_
      refine bz_iadd (pc := 77) dX12_ban_77 ?_
      refine bz_s_istore (pc := 78) dX12_ban_78 (Nat.le_of_ble_eq_true rfl) [some (.inr (some a0)), some (.inl x1), some (.inl x2), some (.inl x3), some (.inl (x4 + x_22)), some (.inl x5)] rfl ?_
      refine bz_s_iinc (pc := 80) dX12_ban_80 (Nat.le_of_ble_eq_true rfl) rfl rfl [some (.inr (some a0)), some (.inl x1), some (.inl x2), some (.inl x3), some (.inl (x4 + x_22)), some (.inl (x5 + 1))] rfl ?_
      refine bz_goto (tgt := 40) (pc := 83) dX12_ban_83 rfl ?_
      exact hP14
theorem m_X12_ban {G : bz_G} {l : Launch} {d mc ms : Nat} {F : Option bz_V → bz_H → Prop} (a0 : Nat) (x1 : Int32) (x2 : Int32) (x3 : Int32) (h : bz_H) (hP : ∀ (κ : bz_K) (bc bs : Nat), κ.2.1 = l → w_X12_ban_0 G κ l d F bc bs a0 x1 x2 x3 h) : bz_Call G l (d + 1) kX12_ban [.inr (some a0), .inl x1, .inl x2, .inl x3] h mc ms F :=
  bz_body (by decide) (Nat.le_of_ble_eq_true rfl) (fun κ hl => g_X12_ban_0 hl a0 x1 x2 x3 h (hP κ mc ms hl))
def w_X12_become_0 (G : bz_G) (l : Launch) (d : Nat) (F : Option bz_V → bz_H → Prop) (a0 : Nat) (x1 : Int32) (x2 : Int32) (h : bz_H) : Prop := bz_rR h a0 12 0 (fun r_1 => bz_nn r_1 (fun a_2 => bz_rA h a_2 x1 (fun x_3 => bz_rR h a0 12 0 (fun r_4 => bz_nn r_4 (fun a_5 => bz_wA h a_5 x1 x2 (fun h_6 => F (some (.inl x_3)) h_6))))))
set_option maxRecDepth 20000 in
set_option maxHeartbeats 4000000 in
theorem g_X12_become_0 {G : bz_G} {κ : bz_K} {l : Launch} {d : Nat} {F : Option bz_V → bz_H → Prop} {bc bs : Nat} (hl : κ.2.1 = l) (a0 : Nat) (x1 : Int32) (x2 : Int32) (h : bz_H) (hP0 : w_X12_become_0 G l d F a0 x1 x2 h) : bz_J G κ kX12_become (d + 1) F bc bs 0 [some (.inr (some a0)), some (.inl x1), some (.inl x2), none] [] h := by
  subst hl
  unfold w_X12_become_0 at hP0
  refine bz_aload_n (pc := 0) dX12_become_0 rfl rfl ?_
  refine bz_rw_rR (pc := 1) dX12_become_1 fl_X12_7 hP0 (fun r_1 hP1 => ?_)
  clear hP0
  refine bz_iload_n (pc := 4) dX12_become_4 rfl rfl ?_
  obtain ⟨a_2, rfl, hP2⟩ := hP1
  refine bz_rw_rA (pc := 5) dX12_become_5 hP2 (fun x_3 hP3 => ?_)
  clear hP2
  refine bz_s_istore_n (pc := 6) dX12_become_6 rfl (Nat.le_of_ble_eq_true rfl) [some (.inr (some a0)), some (.inl x1), some (.inl x2), some (.inl x_3)] rfl ?_
  refine bz_aload_n (pc := 7) dX12_become_7 rfl rfl ?_
  refine bz_rw_rR (pc := 8) dX12_become_8 fl_X12_7 hP3 (fun r_4 hP4 => ?_)
  clear hP3
  refine bz_iload_n (pc := 11) dX12_become_11 rfl rfl ?_
  refine bz_iload_n (pc := 12) dX12_become_12 rfl rfl ?_
  obtain ⟨a_5, rfl, hP5⟩ := hP4
  refine bz_rw_wA (pc := 13) dX12_become_13 hP5 (fun h_6 hP6 => ?_)
  clear hP5
  refine bz_iload_n (pc := 14) dX12_become_14 rfl rfl ?_
  exact bz_retI (pc := 15) dX12_become_15 rfl rfl hP6
theorem m_X12_become {G : bz_G} {l : Launch} {d mc ms : Nat} {F : Option bz_V → bz_H → Prop} (a0 : Nat) (x1 : Int32) (x2 : Int32) (h : bz_H) (hP : w_X12_become_0 G l d F a0 x1 x2 h) : bz_Call G l (d + 1) kX12_become [.inr (some a0), .inl x1, .inl x2] h mc ms F :=
  bz_body (by decide) (Nat.le_of_ble_eq_true rfl) (fun κ hl => g_X12_become_0 hl a0 x1 x2 h hP)
def w_X12_becomesGiven_0 (G : bz_G) (l : Launch) (d : Nat) (F : Option bz_V → bz_H → Prop) (a0 : Nat) (x1 : Int32) (x2 : Int32) (x3 : Int32) (x4 : Int32) (h : bz_H) : Prop := bz_rR h a0 12 0 (fun r_1 => bz_nn r_1 (fun a_2 => bz_wA h a_2 ((312 + (12 * x2)) + 5) 1 (fun h_3 => bz_rR h_3 a0 12 0 (fun r_4 => bz_nn r_4 (fun a_5 => bz_wA h_3 a_5 ((312 + (12 * x2)) + 6) x1 (fun h_6 => bz_rR h_6 a0 12 0 (fun r_7 => bz_rR h_6 a0 12 9 (fun r_8 => bz_nn r_8 (fun a_9 => bz_rA h_6 a_9 x3 (fun x_10 => bz_nn r_7 (fun a_11 => bz_wA h_6 a_11 ((312 + (12 * x2)) + 7) x_10 (fun h_12 => bz_rR h_12 a0 12 0 (fun r_13 => bz_rR h_12 a0 12 10 (fun r_14 => bz_nn r_14 (fun a_15 => bz_rA h_12 a_15 x3 (fun x_16 => bz_nn r_13 (fun a_17 => bz_wA h_12 a_17 ((312 + (12 * x2)) + 8) x_16 (fun h_18 => bz_rR h_18 a0 12 0 (fun r_19 => bz_nn r_19 (fun a_20 => bz_wA h_18 a_20 ((312 + (12 * x2)) + 9) x4 (fun h_21 => bz_rR h_21 a0 12 0 (fun r_22 => bz_nn r_22 (fun a_23 => bz_rA h_21 a_23 ((600 + (8 * x1)) + 3) (fun x_24 => bz_wA h_21 a_23 ((600 + (8 * x1)) + 3) (x_24 + 1) (fun h_25 => F none h_25)))))))))))))))))))))))))
set_option maxRecDepth 20000 in
set_option maxHeartbeats 4000000 in
theorem g_X12_becomesGiven_0 {G : bz_G} {κ : bz_K} {l : Launch} {d : Nat} {F : Option bz_V → bz_H → Prop} {bc bs : Nat} (hl : κ.2.1 = l) (a0 : Nat) (x1 : Int32) (x2 : Int32) (x3 : Int32) (x4 : Int32) (h : bz_H) (hP0 : w_X12_becomesGiven_0 G l d F a0 x1 x2 x3 x4 h) : bz_J G κ kX12_becomesGiven (d + 1) F bc bs 0 [some (.inr (some a0)), some (.inl x1), some (.inl x2), some (.inl x3), some (.inl x4), none] [] h := by
  subst hl
  unfold w_X12_becomesGiven_0 at hP0
  refine bz_sipush (pc := 0) dX12_becomesGiven_0 cs_312 ?_
  refine bz_bipush (pc := 3) dX12_becomesGiven_3 cb_12 ?_
  refine bz_iload_n (pc := 5) dX12_becomesGiven_5 rfl rfl ?_
  refine bz_imul (pc := 6) dX12_becomesGiven_6 ?_
  refine bz_iadd (pc := 7) dX12_becomesGiven_7 ?_
  refine bz_s_istore (pc := 8) dX12_becomesGiven_8 (Nat.le_of_ble_eq_true rfl) [some (.inr (some a0)), some (.inl x1), some (.inl x2), some (.inl x3), some (.inl x4), some (.inl (312 + (12 * x2)))] rfl ?_
  refine bz_aload_n (pc := 10) dX12_becomesGiven_10 rfl rfl ?_
  refine bz_rw_rR (pc := 11) dX12_becomesGiven_11 fl_X12_7 hP0 (fun r_1 hP1 => ?_)
  clear hP0
  refine bz_iload (pc := 14) dX12_becomesGiven_14 rfl ?_
  refine bz_iconst (pc := 16) dX12_becomesGiven_16 ci_5 ?_
  refine bz_iadd (pc := 17) dX12_becomesGiven_17 ?_
  refine bz_iconst (pc := 18) dX12_becomesGiven_18 ci_1 ?_
  obtain ⟨a_2, rfl, hP2⟩ := hP1
  refine bz_rw_wA (pc := 19) dX12_becomesGiven_19 hP2 (fun h_3 hP3 => ?_)
  clear hP2
  refine bz_aload_n (pc := 20) dX12_becomesGiven_20 rfl rfl ?_
  refine bz_rw_rR (pc := 21) dX12_becomesGiven_21 fl_X12_7 hP3 (fun r_4 hP4 => ?_)
  clear hP3
  refine bz_iload (pc := 24) dX12_becomesGiven_24 rfl ?_
  refine bz_bipush (pc := 26) dX12_becomesGiven_26 cb_6 ?_
  refine bz_iadd (pc := 28) dX12_becomesGiven_28 ?_
  refine bz_iload_n (pc := 29) dX12_becomesGiven_29 rfl rfl ?_
  obtain ⟨a_5, rfl, hP5⟩ := hP4
  refine bz_rw_wA (pc := 30) dX12_becomesGiven_30 hP5 (fun h_6 hP6 => ?_)
  clear hP5
  refine bz_aload_n (pc := 31) dX12_becomesGiven_31 rfl rfl ?_
  refine bz_rw_rR (pc := 32) dX12_becomesGiven_32 fl_X12_7 hP6 (fun r_7 hP7 => ?_)
  clear hP6
  refine bz_iload (pc := 35) dX12_becomesGiven_35 rfl ?_
  refine bz_bipush (pc := 37) dX12_becomesGiven_37 cb_7 ?_
  refine bz_iadd (pc := 39) dX12_becomesGiven_39 ?_
  refine bz_aload_n (pc := 40) dX12_becomesGiven_40 rfl rfl ?_
  refine bz_rw_rR (pc := 41) dX12_becomesGiven_41 fl_X12_22 hP7 (fun r_8 hP8 => ?_)
  clear hP7
  refine bz_iload_n (pc := 44) dX12_becomesGiven_44 rfl rfl ?_
  obtain ⟨a_9, rfl, hP9⟩ := hP8
  refine bz_rw_rA (pc := 45) dX12_becomesGiven_45 hP9 (fun x_10 hP10 => ?_)
  clear hP9
  obtain ⟨a_11, rfl, hP11⟩ := hP10
  refine bz_rw_wA (pc := 46) dX12_becomesGiven_46 hP11 (fun h_12 hP12 => ?_)
  clear hP11
  refine bz_aload_n (pc := 47) dX12_becomesGiven_47 rfl rfl ?_
  refine bz_rw_rR (pc := 48) dX12_becomesGiven_48 fl_X12_7 hP12 (fun r_13 hP13 => ?_)
  clear hP12
  refine bz_iload (pc := 51) dX12_becomesGiven_51 rfl ?_
  refine bz_bipush (pc := 53) dX12_becomesGiven_53 cb_8 ?_
  refine bz_iadd (pc := 55) dX12_becomesGiven_55 ?_
  refine bz_aload_n (pc := 56) dX12_becomesGiven_56 rfl rfl ?_
  refine bz_rw_rR (pc := 57) dX12_becomesGiven_57 fl_X12_25 hP13 (fun r_14 hP14 => ?_)
  clear hP13
  refine bz_iload_n (pc := 60) dX12_becomesGiven_60 rfl rfl ?_
  obtain ⟨a_15, rfl, hP15⟩ := hP14
  refine bz_rw_rA (pc := 61) dX12_becomesGiven_61 hP15 (fun x_16 hP16 => ?_)
  clear hP15
  obtain ⟨a_17, rfl, hP17⟩ := hP16
  refine bz_rw_wA (pc := 62) dX12_becomesGiven_62 hP17 (fun h_18 hP18 => ?_)
  clear hP17
  refine bz_aload_n (pc := 63) dX12_becomesGiven_63 rfl rfl ?_
  refine bz_rw_rR (pc := 64) dX12_becomesGiven_64 fl_X12_7 hP18 (fun r_19 hP19 => ?_)
  clear hP18
  refine bz_iload (pc := 67) dX12_becomesGiven_67 rfl ?_
  refine bz_bipush (pc := 69) dX12_becomesGiven_69 cb_9 ?_
  refine bz_iadd (pc := 71) dX12_becomesGiven_71 ?_
  refine bz_iload (pc := 72) dX12_becomesGiven_72 rfl ?_
  obtain ⟨a_20, rfl, hP20⟩ := hP19
  refine bz_rw_wA (pc := 74) dX12_becomesGiven_74 hP20 (fun h_21 hP21 => ?_)
  clear hP20
  refine bz_aload_n (pc := 75) dX12_becomesGiven_75 rfl rfl ?_
  refine bz_rw_rR (pc := 76) dX12_becomesGiven_76 fl_X12_7 hP21 (fun r_22 hP22 => ?_)
  clear hP21
  refine bz_sipush (pc := 79) dX12_becomesGiven_79 cs_600 ?_
  refine bz_bipush (pc := 82) dX12_becomesGiven_82 cb_8 ?_
  refine bz_iload_n (pc := 84) dX12_becomesGiven_84 rfl rfl ?_
  refine bz_imul (pc := 85) dX12_becomesGiven_85 ?_
  refine bz_iadd (pc := 86) dX12_becomesGiven_86 ?_
  refine bz_iconst (pc := 87) dX12_becomesGiven_87 ci_3 ?_
  refine bz_iadd (pc := 88) dX12_becomesGiven_88 ?_
  refine bz_dup2 (pc := 89) dX12_becomesGiven_89 ?_
  obtain ⟨a_23, rfl, hP23⟩ := hP22
  refine bz_rw_rA (pc := 90) dX12_becomesGiven_90 hP23 (fun x_24 hP24 => ?_)
  clear hP23
  refine bz_iconst (pc := 91) dX12_becomesGiven_91 ci_1 ?_
  refine bz_iadd (pc := 92) dX12_becomesGiven_92 ?_
  refine bz_rw_wA (pc := 93) dX12_becomesGiven_93 hP24 (fun h_25 hP25 => ?_)
  clear hP24
  exact bz_retV (pc := 94) dX12_becomesGiven_94 rfl hP25
theorem m_X12_becomesGiven {G : bz_G} {l : Launch} {d mc ms : Nat} {F : Option bz_V → bz_H → Prop} (a0 : Nat) (x1 : Int32) (x2 : Int32) (x3 : Int32) (x4 : Int32) (h : bz_H) (hP : w_X12_becomesGiven_0 G l d F a0 x1 x2 x3 x4 h) : bz_Call G l (d + 1) kX12_becomesGiven [.inr (some a0), .inl x1, .inl x2, .inl x3, .inl x4] h mc ms F :=
  bz_body (by decide) (Nat.le_of_ble_eq_true rfl) (fun κ hl => g_X12_becomesGiven_0 hl a0 x1 x2 x3 x4 h hP)
def w_X12_begin_0 (G : bz_G) (l : Launch) (d : Nat) (F : Option bz_V → bz_H → Prop) (a0 : Nat) (x1 : Int32) (x2 : Int32) (h : bz_H) : Prop := bz_wI h a0 12 6 x1 (fun h_1 => bz_wI h_1 a0 12 7 x2 (fun h_2 => bz_b 1 (bz_wI h_2 a0 12 8 1 (fun h_3 => F none h_3))))
set_option maxRecDepth 20000 in
set_option maxHeartbeats 4000000 in
theorem g_X12_begin_0 {G : bz_G} {κ : bz_K} {l : Launch} {d : Nat} {F : Option bz_V → bz_H → Prop} {bc bs : Nat} (hl : κ.2.1 = l) (a0 : Nat) (x1 : Int32) (x2 : Int32) (h : bz_H) (hP0 : w_X12_begin_0 G l d F a0 x1 x2 h) : bz_J G κ kX12_begin (d + 1) F bc bs 0 [some (.inr (some a0)), some (.inl x1), some (.inl x2)] [] h := by
  subst hl
  unfold w_X12_begin_0 at hP0
  refine bz_aload_n (pc := 0) dX12_begin_0 rfl rfl ?_
  refine bz_iload_n (pc := 1) dX12_begin_1 rfl rfl ?_
  refine bz_rw_wI (pc := 2) dX12_begin_2 fl_X12_163 (fun q h9 => by cases h9; rfl) rfl hP0 (fun h_1 hP1 => ?_)
  clear hP0
  refine bz_aload_n (pc := 5) dX12_begin_5 rfl rfl ?_
  refine bz_iload_n (pc := 6) dX12_begin_6 rfl rfl ?_
  refine bz_rw_wI (pc := 7) dX12_begin_7 fl_X12_167 (fun q h9 => by cases h9; rfl) rfl hP1 (fun h_2 hP2 => ?_)
  clear hP1
  refine bz_aload_n (pc := 10) dX12_begin_10 rfl rfl ?_
  refine bz_iconst (pc := 11) dX12_begin_11 ci_1 ?_
  refine bz_rw_wZ (pc := 12) dX12_begin_12 fl_X12_160 (fun q h9 => by cases h9; rfl) rfl hP2 (fun h_3 hP3 => ?_)
  clear hP2
  exact bz_retV (pc := 15) dX12_begin_15 rfl hP3
theorem m_X12_begin {G : bz_G} {l : Launch} {d mc ms : Nat} {F : Option bz_V → bz_H → Prop} (a0 : Nat) (x1 : Int32) (x2 : Int32) (h : bz_H) (hP : w_X12_begin_0 G l d F a0 x1 x2 h) : bz_Call G l (d + 1) kX12_begin [.inr (some a0), .inl x1, .inl x2] h mc ms F :=
  bz_body (by decide) (Nat.le_of_ble_eq_true rfl) (fun κ hl => g_X12_begin_0 hl a0 x1 x2 h hP)
def w_X12_beginsAt_0 (G : bz_G) (l : Launch) (d : Nat) (F : Option bz_V → bz_H → Prop) (a0 : Nat) (x1 : Int32) (h : bz_H) : Prop := bz_rc h a0 12 (bz_cI G l d kX12_ofRider [.inr (some a0), .inl x1, .inl 2] h 0 0 (fun x_1 h_2 => bz_rR h_2 a0 12 0 (fun r_3 => bz_nn r_3 (fun a_4 => bz_rA h_2 a_4 0 (fun x_5 => (x_1 ≤ x_5 → bz_rR h_2 a0 12 0 (fun r_6 => bz_nn r_6 (fun a_7 => bz_rA h_2 a_7 0 (fun x_8 => F (some (.inl x_8)) h_2)))) ∧ (¬ (x_1 ≤ x_5) → bz_rc h_2 a0 12 (bz_cI G l d kX12_ofRider [.inr (some a0), .inl x1, .inl 2] h_2 0 0 (fun x_9 h_10 => F (some (.inl x_9)) h_10))))))))
set_option maxRecDepth 20000 in
set_option maxHeartbeats 4000000 in
theorem g_X12_beginsAt_0 {G : bz_G} {κ : bz_K} {l : Launch} {d : Nat} {F : Option bz_V → bz_H → Prop} {bc bs : Nat} (hl : κ.2.1 = l) (a0 : Nat) (x1 : Int32) (h : bz_H) (hP0 : w_X12_beginsAt_0 G l d F a0 x1 h) : bz_J G κ kX12_beginsAt (d + 1) F bc bs 0 [some (.inr (some a0)), some (.inl x1)] [] h := by
  subst hl
  unfold w_X12_beginsAt_0 at hP0
  refine bz_aload_n (pc := 0) dX12_beginsAt_0 rfl rfl ?_
  refine bz_iload_n (pc := 1) dX12_beginsAt_1 rfl rfl ?_
  refine bz_iconst (pc := 2) dX12_beginsAt_2 ci_2 ?_
  refine bz_kIV (as := [.inl x1, .inl 2]) (st := []) (ci := 12) (n := 2) (mc := 0) (ms := 0) (bc := bc) (bs := bs) (yc := kX12_ofRider) (q := (RX12, TX12, 34)) (b := a0) (pc := 3) dX12_beginsAt_3 sc_X12_ofRider ml_X12_136 im_X12_ofRider se_X12_ofRider rfl rfl rfl (Nat.le_of_ble_eq_true rfl) hP0 (fun x_1 h_2 hP1 => ?_)
  clear hP0
  refine bz_aload_n (pc := 6) dX12_beginsAt_6 rfl rfl ?_
  refine bz_rw_rR (pc := 7) dX12_beginsAt_7 fl_X12_7 hP1 (fun r_3 hP2 => ?_)
  clear hP1
  refine bz_iconst (pc := 10) dX12_beginsAt_10 ci_0 ?_
  obtain ⟨a_4, rfl, hP3⟩ := hP2
  refine bz_rw_rA (pc := 11) dX12_beginsAt_11 hP3 (fun x_5 hP4 => ?_)
  clear hP3
  refine bz_icmp_le (tgt := 24) (pc := 12) dX12_beginsAt_12 rfl (fun c => ?_) (fun c => ?_)
  · have hP5 := hP4.1 c
    clear hP4
    refine bz_aload_n (pc := 24) dX12_beginsAt_24 rfl rfl ?_
    refine bz_rw_rR (pc := 25) dX12_beginsAt_25 fl_X12_7 hP5 (fun r_6 hP6 => ?_)
    clear hP5
    refine bz_iconst (pc := 28) dX12_beginsAt_28 ci_0 ?_
    obtain ⟨a_7, rfl, hP7⟩ := hP6
    refine bz_rw_rA (pc := 29) dX12_beginsAt_29 hP7 (fun x_8 hP8 => ?_)
    clear hP7
    exact bz_retI (pc := 30) dX12_beginsAt_30 rfl rfl hP8
  · have hP9 := hP4.2 c
    clear hP4
    refine bz_aload_n (pc := 15) dX12_beginsAt_15 rfl rfl ?_
    refine bz_iload_n (pc := 16) dX12_beginsAt_16 rfl rfl ?_
    refine bz_iconst (pc := 17) dX12_beginsAt_17 ci_2 ?_
    refine bz_kIV (as := [.inl x1, .inl 2]) (st := []) (ci := 12) (n := 2) (mc := 0) (ms := 0) (bc := bc) (bs := bs) (yc := kX12_ofRider) (q := (RX12, TX12, 34)) (b := a0) (pc := 18) dX12_beginsAt_18 sc_X12_ofRider ml_X12_136 im_X12_ofRider se_X12_ofRider rfl rfl rfl (Nat.le_of_ble_eq_true rfl) hP9 (fun x_9 h_10 hP10 => ?_)
    clear hP9
    refine bz_goto (tgt := 30) (pc := 21) dX12_beginsAt_21 rfl ?_
    exact bz_retI (pc := 30) dX12_beginsAt_30 rfl rfl hP10
theorem m_X12_beginsAt {G : bz_G} {l : Launch} {d mc ms : Nat} {F : Option bz_V → bz_H → Prop} (a0 : Nat) (x1 : Int32) (h : bz_H) (hP : w_X12_beginsAt_0 G l d F a0 x1 h) : bz_Call G l (d + 1) kX12_beginsAt [.inr (some a0), .inl x1] h mc ms F :=
  bz_body (by decide) (Nat.le_of_ble_eq_true rfl) (fun κ hl => g_X12_beginsAt_0 hl a0 x1 h hP)
def w_X12_bring_0 (G : bz_G) (l : Launch) (d : Nat) (F : Option bz_V → bz_H → Prop) (a0 : Nat) (x1 : Int32) (x2 : Int32) (x3 : Int32) (h : bz_H) : Prop := bz_rc h a0 12 (bz_cI G l d kX12_ofOrder [.inr (some a0), .inl x2, .inl 1] h 0 0 (fun x_1 h_2 => bz_rc h_2 a0 12 (bz_cV G l d kX12_ride [.inr (some a0), .inl x1, .inl x_1] h_2 0 0 (fun h_4 => bz_rR h_4 a0 12 10 (fun r_5 => bz_rI h_4 a0 12 7 (fun x_6 => bz_nn r_5 (fun a_7 => bz_wA h_4 a_7 x3 x_6 (fun h_8 => F none h_8))))))))
set_option maxRecDepth 20000 in
set_option maxHeartbeats 4000000 in
theorem g_X12_bring_0 {G : bz_G} {κ : bz_K} {l : Launch} {d : Nat} {F : Option bz_V → bz_H → Prop} {bc bs : Nat} (hl : κ.2.1 = l) (a0 : Nat) (x1 : Int32) (x2 : Int32) (x3 : Int32) (h : bz_H) (hP0 : w_X12_bring_0 G l d F a0 x1 x2 x3 h) : bz_J G κ kX12_bring (d + 1) F bc bs 0 [some (.inr (some a0)), some (.inl x1), some (.inl x2), some (.inl x3)] [] h := by
  subst hl
  unfold w_X12_bring_0 at hP0
  refine bz_aload_n (pc := 0) dX12_bring_0 rfl rfl ?_
  refine bz_iload_n (pc := 1) dX12_bring_1 rfl rfl ?_
  refine bz_aload_n (pc := 2) dX12_bring_2 rfl rfl ?_
  refine bz_iload_n (pc := 3) dX12_bring_3 rfl rfl ?_
  refine bz_iconst (pc := 4) dX12_bring_4 ci_1 ?_
  refine bz_kIV (as := [.inl x2, .inl 1]) (st := [.inl x1, .inr (some a0)]) (ci := 12) (n := 2) (mc := 0) (ms := 0) (bc := bc) (bs := bs) (yc := kX12_ofOrder) (q := (RX12, TX12, 34)) (b := a0) (pc := 5) dX12_bring_5 sc_X12_ofOrder ml_X12_99 im_X12_ofOrder se_X12_ofOrder rfl rfl rfl (Nat.le_of_ble_eq_true rfl) hP0 (fun x_1 h_2 hP1 => ?_)
  clear hP0
  refine bz_kVV (as := [.inl x1, .inl x_1]) (st := []) (ci := 12) (n := 2) (mc := 0) (ms := 0) (bc := bc) (bs := bs) (yc := kX12_ride) (q := (RX12, TX12, 34)) (b := a0) (pc := 8) dX12_bring_8 sc_X12_ride ml_X12_173 im_X12_ride se_X12_ride rfl rfl rfl (Nat.le_of_ble_eq_true rfl) hP1 (fun h_4 hP2 => ?_)
  clear hP1
  refine bz_aload_n (pc := 11) dX12_bring_11 rfl rfl ?_
  refine bz_rw_rR (pc := 12) dX12_bring_12 fl_X12_25 hP2 (fun r_5 hP3 => ?_)
  clear hP2
  refine bz_iload_n (pc := 15) dX12_bring_15 rfl rfl ?_
  refine bz_aload_n (pc := 16) dX12_bring_16 rfl rfl ?_
  refine bz_rw_rI (pc := 17) dX12_bring_17 fl_X12_167 hP3 (fun x_6 hP4 => ?_)
  clear hP3
  obtain ⟨a_7, rfl, hP5⟩ := hP4
  refine bz_rw_wA (pc := 20) dX12_bring_20 hP5 (fun h_8 hP6 => ?_)
  clear hP5
  exact bz_retV (pc := 21) dX12_bring_21 rfl hP6
theorem m_X12_bring {G : bz_G} {l : Launch} {d mc ms : Nat} {F : Option bz_V → bz_H → Prop} (a0 : Nat) (x1 : Int32) (x2 : Int32) (x3 : Int32) (h : bz_H) (hP : w_X12_bring_0 G l d F a0 x1 x2 x3 h) : bz_Call G l (d + 1) kX12_bring [.inr (some a0), .inl x1, .inl x2, .inl x3] h mc ms F :=
  bz_body (by decide) (Nat.le_of_ble_eq_true rfl) (fun κ hl => g_X12_bring_0 hl a0 x1 x2 x3 h hP)
def w_X12_callOff_0 (G : bz_G) (l : Launch) (d : Nat) (F : Option bz_V → bz_H → Prop) (a0 : Nat) (x1 : Int32) (h : bz_H) : Prop := bz_rc h a0 12 (bz_cI G l d kX12_isOrder [.inr (some a0), .inl x1] h 0 0 (fun x_1 h_2 => (¬ x_1 = 0 → bz_rc h_2 a0 12 (bz_cI G l d kX12_isWaiting [.inr (some a0), .inl x1] h_2 0 0 (fun x_3 h_4 => (¬ x_3 = 0 → bz_rR h_4 a0 12 0 (fun r_5 => bz_nn r_5 (fun a_6 => bz_wA h_4 a_6 ((312 + (12 * x1)) + 5) 2 (fun h_7 => F (some (.inl 1)) h_7)))) ∧ (x_3 = 0 → bz_rc h_4 a0 12 (bz_cI G l d kX12_finding [.inr (some a0), .inl 4] h_4 0 0 (fun x_8 h_9 => F (some (.inl x_8)) h_9)))))) ∧ (x_1 = 0 → bz_rc h_2 a0 12 (bz_cI G l d kX12_finding [.inr (some a0), .inl 0] h_2 0 0 (fun x_10 h_11 => F (some (.inl x_10)) h_11)))))
set_option maxRecDepth 20000 in
set_option maxHeartbeats 4000000 in
theorem g_X12_callOff_0 {G : bz_G} {κ : bz_K} {l : Launch} {d : Nat} {F : Option bz_V → bz_H → Prop} {bc bs : Nat} (hl : κ.2.1 = l) (a0 : Nat) (x1 : Int32) (h : bz_H) (hP0 : w_X12_callOff_0 G l d F a0 x1 h) : bz_J G κ kX12_callOff (d + 1) F bc bs 0 [some (.inr (some a0)), some (.inl x1)] [] h := by
  subst hl
  unfold w_X12_callOff_0 at hP0
  refine bz_aload_n (pc := 0) dX12_callOff_0 rfl rfl ?_
  refine bz_iload_n (pc := 1) dX12_callOff_1 rfl rfl ?_
  refine bz_kIV (as := [.inl x1]) (st := []) (ci := 12) (n := 1) (mc := 0) (ms := 0) (bc := bc) (bs := bs) (yc := kX12_isOrder) (q := (RX12, TX12, 34)) (b := a0) (pc := 2) dX12_callOff_2 sc_X12_isOrder ml_X12_117 im_X12_isOrder se_X12_isOrder rfl rfl rfl (Nat.le_of_ble_eq_true rfl) hP0 (fun x_1 h_2 hP1 => ?_)
  clear hP0
  refine bz_if_ne (tgt := 14) (pc := 5) dX12_callOff_5 rfl (fun c => ?_) (fun c => ?_)
  · have hP2 := hP1.1 c
    clear hP1
    refine bz_aload_n (pc := 14) dX12_callOff_14 rfl rfl ?_
    refine bz_iload_n (pc := 15) dX12_callOff_15 rfl rfl ?_
    refine bz_kIV (as := [.inl x1]) (st := []) (ci := 12) (n := 1) (mc := 0) (ms := 0) (bc := bc) (bs := bs) (yc := kX12_isWaiting) (q := (RX12, TX12, 34)) (b := a0) (pc := 16) dX12_callOff_16 sc_X12_isWaiting ml_X12_129 im_X12_isWaiting se_X12_isWaiting rfl rfl rfl (Nat.le_of_ble_eq_true rfl) hP2 (fun x_3 h_4 hP3 => ?_)
    clear hP2
    refine bz_if_ne (tgt := 28) (pc := 19) dX12_callOff_19 rfl (fun c => ?_) (fun c => ?_)
    · have hP4 := hP3.1 c
      clear hP3
      refine bz_aload_n (pc := 28) dX12_callOff_28 rfl rfl ?_
      refine bz_rw_rR (pc := 29) dX12_callOff_29 fl_X12_7 hP4 (fun r_5 hP5 => ?_)
      clear hP4
      refine bz_sipush (pc := 32) dX12_callOff_32 cs_312 ?_
      refine bz_bipush (pc := 35) dX12_callOff_35 cb_12 ?_
      refine bz_iload_n (pc := 37) dX12_callOff_37 rfl rfl ?_
      refine bz_imul (pc := 38) dX12_callOff_38 ?_
      refine bz_iadd (pc := 39) dX12_callOff_39 ?_
      refine bz_iconst (pc := 40) dX12_callOff_40 ci_5 ?_
      refine bz_iadd (pc := 41) dX12_callOff_41 ?_
      refine bz_iconst (pc := 42) dX12_callOff_42 ci_2 ?_
      obtain ⟨a_6, rfl, hP6⟩ := hP5
      refine bz_rw_wA (pc := 43) dX12_callOff_43 hP6 (fun h_7 hP7 => ?_)
      clear hP6
      refine bz_iconst (pc := 44) dX12_callOff_44 ci_1 ?_
      exact bz_retI (pc := 45) dX12_callOff_45 rfl rfl hP7
    · have hP8 := hP3.2 c
      clear hP3
      refine bz_aload_n (pc := 22) dX12_callOff_22 rfl rfl ?_
      refine bz_iconst (pc := 23) dX12_callOff_23 ci_4 ?_
      refine bz_kIV (as := [.inl 4]) (st := []) (ci := 12) (n := 1) (mc := 0) (ms := 0) (bc := bc) (bs := bs) (yc := kX12_finding) (q := (RX12, TX12, 34)) (b := a0) (pc := 24) dX12_callOff_24 sc_X12_finding ml_X12_73 im_X12_finding se_X12_finding rfl rfl rfl (Nat.le_of_ble_eq_true rfl) hP8 (fun x_8 h_9 hP9 => ?_)
      clear hP8
      exact bz_retI (pc := 27) dX12_callOff_27 rfl rfl hP9
  · have hP10 := hP1.2 c
    clear hP1
    refine bz_aload_n (pc := 8) dX12_callOff_8 rfl rfl ?_
    refine bz_iconst (pc := 9) dX12_callOff_9 ci_0 ?_
    refine bz_kIV (as := [.inl 0]) (st := []) (ci := 12) (n := 1) (mc := 0) (ms := 0) (bc := bc) (bs := bs) (yc := kX12_finding) (q := (RX12, TX12, 34)) (b := a0) (pc := 10) dX12_callOff_10 sc_X12_finding ml_X12_73 im_X12_finding se_X12_finding rfl rfl rfl (Nat.le_of_ble_eq_true rfl) hP10 (fun x_10 h_11 hP11 => ?_)
    clear hP10
    exact bz_retI (pc := 13) dX12_callOff_13 rfl rfl hP11
theorem m_X12_callOff {G : bz_G} {l : Launch} {d mc ms : Nat} {F : Option bz_V → bz_H → Prop} (a0 : Nat) (x1 : Int32) (h : bz_H) (hP : w_X12_callOff_0 G l d F a0 x1 h) : bz_Call G l (d + 1) kX12_callOff [.inr (some a0), .inl x1] h mc ms F :=
  bz_body (by decide) (Nat.le_of_ble_eq_true rfl) (fun κ hl => g_X12_callOff_0 hl a0 x1 h hP)
def w_X12_copy_0 (G : bz_G) (κ : bz_K) (l : Launch) (d : Nat) (F : Option bz_V → bz_H → Prop) (bc bs : Nat) (a0 : Nat) (x1 : Int32) (x2 : Int32) (x3 : Int32) (x4 : Int32) (x5 : Int32) (h : bz_H) : Prop := bz_cI G l d kX12_isSheet [.inl x1] h 0 0 (fun x_1 h_2 => (x_1 = 0 → bz_rc h_2 a0 12 (bz_cI G l d kX12_finding [.inr (some a0), .inl 0] h_2 0 0 (fun x_3 h_4 => F (some (.inl x_3)) h_4))) ∧ (¬ (x_1 = 0) → bz_cI G l d kX12_isSheet [.inl x3] h_2 0 0 (fun x_5 h_6 => (¬ x_5 = 0 → bz_rR h_6 a0 12 30 (fun r_7 => bz_nn r_7 (fun a_8 => bz_rA h_6 a_8 x1 (fun x_9 => (x_9 = 0 → bz_rc h_6 a0 12 (bz_cI G l d kX12_finding [.inr (some a0), .inl 5] h_6 0 0 (fun x_10 h_11 => F (some (.inl x_10)) h_11))) ∧ (¬ (x_9 = 0) → bz_rR h_6 a0 12 30 (fun r_12 => bz_nn r_12 (fun a_13 => bz_rA h_6 a_13 x3 (fun x_14 => (¬ x_14 = 0 → bz_rR h_6 a0 12 30 (fun r_15 => bz_nn r_15 (fun a_16 => bz_rA h_6 a_16 x1 (fun x_17 => bz_rR h_6 a0 12 30 (fun r_18 => bz_nn r_18 (fun a_19 => bz_rA h_6 a_19 x3 (fun x_20 => (x_17 = x_20 → (x2 < 0 → bz_rc h_6 a0 12 (bz_cI G l d kX12_finding [.inr (some a0), .inl 0] h_6 0 0 (fun x_21 h_22 => F (some (.inl x_21)) h_22))) ∧ (¬ (x2 < 0) → (x4 < 0 → bz_rc h_6 a0 12 (bz_cI G l d kX12_finding [.inr (some a0), .inl 0] h_6 0 0 (fun x_23 h_24 => F (some (.inl x_23)) h_24))) ∧ (¬ (x4 < 0) → (x5 < 0 → bz_rc h_6 a0 12 (bz_cI G l d kX12_finding [.inr (some a0), .inl 0] h_6 0 0 (fun x_25 h_26 => F (some (.inl x_25)) h_26))) ∧ (¬ (x5 < 0) → bz_rR h_6 a0 12 31 (fun r_27 => bz_nn r_27 (fun a_28 => bz_rA h_6 a_28 x1 (fun x_29 => ((x_29 - x5) < x2 → bz_rc h_6 a0 12 (bz_cI G l d kX12_finding [.inr (some a0), .inl 0] h_6 0 0 (fun x_30 h_31 => F (some (.inl x_30)) h_31))) ∧ (¬ ((x_29 - x5) < x2) → bz_rR h_6 a0 12 31 (fun r_32 => bz_nn r_32 (fun a_33 => bz_rA h_6 a_33 x3 (fun x_34 => (x4 ≤ (x_34 - x5) → bz_J G κ kX12_copy (d + 1) F bc bs 115 [some (.inr (some a0)), some (.inl x1), some (.inl x2), some (.inl x3), some (.inl x4), some (.inl x5), some (.inl 0)] [] h_6) ∧ (¬ (x4 ≤ (x_34 - x5)) → bz_rc h_6 a0 12 (bz_cI G l d kX12_finding [.inr (some a0), .inl 0] h_6 0 0 (fun x_35 h_36 => F (some (.inl x_35)) h_36)))))))))))))) ∧ (¬ (x_17 = x_20) → bz_rc h_6 a0 12 (bz_cI G l d kX12_finding [.inr (some a0), .inl 2] h_6 0 0 (fun x_37 h_38 => F (some (.inl x_37)) h_38)))))))))) ∧ (x_14 = 0 → bz_rc h_6 a0 12 (bz_cI G l d kX12_finding [.inr (some a0), .inl 5] h_6 0 0 (fun x_39 h_40 => F (some (.inl x_39)) h_40))))))))))) ∧ (x_5 = 0 → bz_rc h_6 a0 12 (bz_cI G l d kX12_finding [.inr (some a0), .inl 0] h_6 0 0 (fun x_41 h_42 => F (some (.inl x_41)) h_42))))))
set_option maxRecDepth 20000 in
set_option maxHeartbeats 4000000 in
theorem g_X12_copy_0 {G : bz_G} {κ : bz_K} {l : Launch} {d : Nat} {F : Option bz_V → bz_H → Prop} {bc bs : Nat} (hl : κ.2.1 = l) (a0 : Nat) (x1 : Int32) (x2 : Int32) (x3 : Int32) (x4 : Int32) (x5 : Int32) (h : bz_H) (hP0 : w_X12_copy_0 G κ l d F bc bs a0 x1 x2 x3 x4 x5 h) : bz_J G κ kX12_copy (d + 1) F bc bs 0 [some (.inr (some a0)), some (.inl x1), some (.inl x2), some (.inl x3), some (.inl x4), some (.inl x5), none] [] h := by
  subst hl
  unfold w_X12_copy_0 at hP0
  refine bz_iload_n (pc := 0) dX12_copy_0 rfl rfl ?_
  refine bz_kIS (as := [.inl x1]) (st := []) (n := 1) (mc := 0) (ms := 0) (bc := bc) (bs := bs) (yc := kX12_isSheet) (pc := 1) dX12_copy_1 sc_X12_isSheet ml_X12_341 ss_X12_isSheet rfl (Nat.le_of_ble_eq_true rfl) hP0 (fun x_1 h_2 hP1 => ?_)
  clear hP0
  refine bz_if_eq (tgt := 14) (pc := 4) dX12_copy_4 rfl (fun c => ?_) (fun c => ?_)
  · have hP2 := hP1.1 c
    clear hP1
    refine bz_aload_n (pc := 14) dX12_copy_14 rfl rfl ?_
    refine bz_iconst (pc := 15) dX12_copy_15 ci_0 ?_
    refine bz_kIV (as := [.inl 0]) (st := []) (ci := 12) (n := 1) (mc := 0) (ms := 0) (bc := bc) (bs := bs) (yc := kX12_finding) (q := (RX12, TX12, 34)) (b := a0) (pc := 16) dX12_copy_16 sc_X12_finding ml_X12_73 im_X12_finding se_X12_finding rfl rfl rfl (Nat.le_of_ble_eq_true rfl) hP2 (fun x_3 h_4 hP3 => ?_)
    clear hP2
    exact bz_retI (pc := 19) dX12_copy_19 rfl rfl hP3
  · have hP4 := hP1.2 c
    clear hP1
    refine bz_iload_n (pc := 7) dX12_copy_7 rfl rfl ?_
    refine bz_kIS (as := [.inl x3]) (st := []) (n := 1) (mc := 0) (ms := 0) (bc := bc) (bs := bs) (yc := kX12_isSheet) (pc := 8) dX12_copy_8 sc_X12_isSheet ml_X12_341 ss_X12_isSheet rfl (Nat.le_of_ble_eq_true rfl) hP4 (fun x_5 h_6 hP5 => ?_)
    clear hP4
    refine bz_if_ne (tgt := 20) (pc := 11) dX12_copy_11 rfl (fun c => ?_) (fun c => ?_)
    · have hP6 := hP5.1 c
      clear hP5
      refine bz_aload_n (pc := 20) dX12_copy_20 rfl rfl ?_
      refine bz_rw_rR (pc := 21) dX12_copy_21 fl_X12_52 hP6 (fun r_7 hP7 => ?_)
      clear hP6
      refine bz_iload_n (pc := 24) dX12_copy_24 rfl rfl ?_
      obtain ⟨a_8, rfl, hP8⟩ := hP7
      refine bz_rw_rA (pc := 25) dX12_copy_25 hP8 (fun x_9 hP9 => ?_)
      clear hP8
      refine bz_if_eq (tgt := 38) (pc := 26) dX12_copy_26 rfl (fun c => ?_) (fun c => ?_)
      · have hP10 := hP9.1 c
        clear hP9
        refine bz_aload_n (pc := 38) dX12_copy_38 rfl rfl ?_
        refine bz_iconst (pc := 39) dX12_copy_39 ci_5 ?_
        refine bz_kIV (as := [.inl 5]) (st := []) (ci := 12) (n := 1) (mc := 0) (ms := 0) (bc := bc) (bs := bs) (yc := kX12_finding) (q := (RX12, TX12, 34)) (b := a0) (pc := 40) dX12_copy_40 sc_X12_finding ml_X12_73 im_X12_finding se_X12_finding rfl rfl rfl (Nat.le_of_ble_eq_true rfl) hP10 (fun x_10 h_11 hP11 => ?_)
        clear hP10
        exact bz_retI (pc := 43) dX12_copy_43 rfl rfl hP11
      · have hP12 := hP9.2 c
        clear hP9
        refine bz_aload_n (pc := 29) dX12_copy_29 rfl rfl ?_
        refine bz_rw_rR (pc := 30) dX12_copy_30 fl_X12_52 hP12 (fun r_12 hP13 => ?_)
        clear hP12
        refine bz_iload_n (pc := 33) dX12_copy_33 rfl rfl ?_
        obtain ⟨a_13, rfl, hP14⟩ := hP13
        refine bz_rw_rA (pc := 34) dX12_copy_34 hP14 (fun x_14 hP15 => ?_)
        clear hP14
        refine bz_if_ne (tgt := 44) (pc := 35) dX12_copy_35 rfl (fun c => ?_) (fun c => ?_)
        · have hP16 := hP15.1 c
          clear hP15
          refine bz_aload_n (pc := 44) dX12_copy_44 rfl rfl ?_
          refine bz_rw_rR (pc := 45) dX12_copy_45 fl_X12_52 hP16 (fun r_15 hP17 => ?_)
          clear hP16
          refine bz_iload_n (pc := 48) dX12_copy_48 rfl rfl ?_
          obtain ⟨a_16, rfl, hP18⟩ := hP17
          refine bz_rw_rA (pc := 49) dX12_copy_49 hP18 (fun x_17 hP19 => ?_)
          clear hP18
          refine bz_aload_n (pc := 50) dX12_copy_50 rfl rfl ?_
          refine bz_rw_rR (pc := 51) dX12_copy_51 fl_X12_52 hP19 (fun r_18 hP20 => ?_)
          clear hP19
          refine bz_iload_n (pc := 54) dX12_copy_54 rfl rfl ?_
          obtain ⟨a_19, rfl, hP21⟩ := hP20
          refine bz_rw_rA (pc := 55) dX12_copy_55 hP21 (fun x_20 hP22 => ?_)
          clear hP21
          refine bz_icmp_eq (tgt := 65) (pc := 56) dX12_copy_56 rfl (fun c => ?_) (fun c => ?_)
          · have hP23 := hP22.1 c
            clear hP22
            refine bz_iload_n (pc := 65) dX12_copy_65 rfl rfl ?_
            refine bz_if_lt (tgt := 106) (pc := 66) dX12_copy_66 rfl (fun c => ?_) (fun c => ?_)
            · have hP24 := hP23.1 c
              clear hP23
              refine bz_aload_n (pc := 106) dX12_copy_106 rfl rfl ?_
              refine bz_iconst (pc := 107) dX12_copy_107 ci_0 ?_
              refine bz_kIV (as := [.inl 0]) (st := []) (ci := 12) (n := 1) (mc := 0) (ms := 0) (bc := bc) (bs := bs) (yc := kX12_finding) (q := (RX12, TX12, 34)) (b := a0) (pc := 108) dX12_copy_108 sc_X12_finding ml_X12_73 im_X12_finding se_X12_finding rfl rfl rfl (Nat.le_of_ble_eq_true rfl) hP24 (fun x_21 h_22 hP25 => ?_)
              clear hP24
              exact bz_retI (pc := 111) dX12_copy_111 rfl rfl hP25
            · have hP26 := hP23.2 c
              clear hP23
              refine bz_iload (pc := 69) dX12_copy_69 rfl ?_
              refine bz_if_lt (tgt := 106) (pc := 71) dX12_copy_71 rfl (fun c => ?_) (fun c => ?_)
              · have hP27 := hP26.1 c
                clear hP26
                refine bz_aload_n (pc := 106) dX12_copy_106 rfl rfl ?_
                refine bz_iconst (pc := 107) dX12_copy_107 ci_0 ?_
                refine bz_kIV (as := [.inl 0]) (st := []) (ci := 12) (n := 1) (mc := 0) (ms := 0) (bc := bc) (bs := bs) (yc := kX12_finding) (q := (RX12, TX12, 34)) (b := a0) (pc := 108) dX12_copy_108 sc_X12_finding ml_X12_73 im_X12_finding se_X12_finding rfl rfl rfl (Nat.le_of_ble_eq_true rfl) hP27 (fun x_23 h_24 hP28 => ?_)
                clear hP27
                exact bz_retI (pc := 111) dX12_copy_111 rfl rfl hP28
              · have hP29 := hP26.2 c
                clear hP26
                refine bz_iload (pc := 74) dX12_copy_74 rfl ?_
                refine bz_if_lt (tgt := 106) (pc := 76) dX12_copy_76 rfl (fun c => ?_) (fun c => ?_)
                · have hP30 := hP29.1 c
                  clear hP29
                  refine bz_aload_n (pc := 106) dX12_copy_106 rfl rfl ?_
                  refine bz_iconst (pc := 107) dX12_copy_107 ci_0 ?_
                  refine bz_kIV (as := [.inl 0]) (st := []) (ci := 12) (n := 1) (mc := 0) (ms := 0) (bc := bc) (bs := bs) (yc := kX12_finding) (q := (RX12, TX12, 34)) (b := a0) (pc := 108) dX12_copy_108 sc_X12_finding ml_X12_73 im_X12_finding se_X12_finding rfl rfl rfl (Nat.le_of_ble_eq_true rfl) hP30 (fun x_25 h_26 hP31 => ?_)
                  clear hP30
                  exact bz_retI (pc := 111) dX12_copy_111 rfl rfl hP31
                · have hP32 := hP29.2 c
                  clear hP29
                  refine bz_iload_n (pc := 79) dX12_copy_79 rfl rfl ?_
                  refine bz_aload_n (pc := 80) dX12_copy_80 rfl rfl ?_
                  refine bz_rw_rR (pc := 81) dX12_copy_81 fl_X12_55 hP32 (fun r_27 hP33 => ?_)
                  clear hP32
                  refine bz_iload_n (pc := 84) dX12_copy_84 rfl rfl ?_
                  obtain ⟨a_28, rfl, hP34⟩ := hP33
                  refine bz_rw_rA (pc := 85) dX12_copy_85 hP34 (fun x_29 hP35 => ?_)
                  clear hP34
                  refine bz_iload (pc := 86) dX12_copy_86 rfl ?_
                  refine bz_isub (pc := 88) dX12_copy_88 ?_
                  refine bz_icmp_gt (tgt := 106) (pc := 89) dX12_copy_89 rfl (fun c => ?_) (fun c => ?_)
                  · have hP36 := hP35.1 c
                    clear hP35
                    refine bz_aload_n (pc := 106) dX12_copy_106 rfl rfl ?_
                    refine bz_iconst (pc := 107) dX12_copy_107 ci_0 ?_
                    refine bz_kIV (as := [.inl 0]) (st := []) (ci := 12) (n := 1) (mc := 0) (ms := 0) (bc := bc) (bs := bs) (yc := kX12_finding) (q := (RX12, TX12, 34)) (b := a0) (pc := 108) dX12_copy_108 sc_X12_finding ml_X12_73 im_X12_finding se_X12_finding rfl rfl rfl (Nat.le_of_ble_eq_true rfl) hP36 (fun x_30 h_31 hP37 => ?_)
                    clear hP36
                    exact bz_retI (pc := 111) dX12_copy_111 rfl rfl hP37
                  · have hP38 := hP35.2 c
                    clear hP35
                    refine bz_iload (pc := 92) dX12_copy_92 rfl ?_
                    refine bz_aload_n (pc := 94) dX12_copy_94 rfl rfl ?_
                    refine bz_rw_rR (pc := 95) dX12_copy_95 fl_X12_55 hP38 (fun r_32 hP39 => ?_)
                    clear hP38
                    refine bz_iload_n (pc := 98) dX12_copy_98 rfl rfl ?_
                    obtain ⟨a_33, rfl, hP40⟩ := hP39
                    refine bz_rw_rA (pc := 99) dX12_copy_99 hP40 (fun x_34 hP41 => ?_)
                    clear hP40
                    refine bz_iload (pc := 100) dX12_copy_100 rfl ?_
                    refine bz_isub (pc := 102) dX12_copy_102 ?_
                    refine bz_icmp_le (tgt := 112) (pc := 103) dX12_copy_103 rfl (fun c => ?_) (fun c => ?_)
                    · have hP42 := hP41.1 c
                      clear hP41
                      refine bz_iconst (pc := 112) dX12_copy_112 ci_0 ?_
                      refine bz_s_istore (pc := 113) dX12_copy_113 (Nat.le_of_ble_eq_true rfl) [some (.inr (some a0)), some (.inl x1), some (.inl x2), some (.inl x3), some (.inl x4), some (.inl x5), some (.inl 0)] rfl ?_
                      exact hP42
                    · have hP43 := hP41.2 c
                      clear hP41
                      refine bz_aload_n (pc := 106) dX12_copy_106 rfl rfl ?_
                      refine bz_iconst (pc := 107) dX12_copy_107 ci_0 ?_
                      refine bz_kIV (as := [.inl 0]) (st := []) (ci := 12) (n := 1) (mc := 0) (ms := 0) (bc := bc) (bs := bs) (yc := kX12_finding) (q := (RX12, TX12, 34)) (b := a0) (pc := 108) dX12_copy_108 sc_X12_finding ml_X12_73 im_X12_finding se_X12_finding rfl rfl rfl (Nat.le_of_ble_eq_true rfl) hP43 (fun x_35 h_36 hP44 => ?_)
                      clear hP43
                      exact bz_retI (pc := 111) dX12_copy_111 rfl rfl hP44
          · have hP45 := hP22.2 c
            clear hP22
            refine bz_aload_n (pc := 59) dX12_copy_59 rfl rfl ?_
            refine bz_iconst (pc := 60) dX12_copy_60 ci_2 ?_
            refine bz_kIV (as := [.inl 2]) (st := []) (ci := 12) (n := 1) (mc := 0) (ms := 0) (bc := bc) (bs := bs) (yc := kX12_finding) (q := (RX12, TX12, 34)) (b := a0) (pc := 61) dX12_copy_61 sc_X12_finding ml_X12_73 im_X12_finding se_X12_finding rfl rfl rfl (Nat.le_of_ble_eq_true rfl) hP45 (fun x_37 h_38 hP46 => ?_)
            clear hP45
            exact bz_retI (pc := 64) dX12_copy_64 rfl rfl hP46
        · have hP47 := hP15.2 c
          clear hP15
          refine bz_aload_n (pc := 38) dX12_copy_38 rfl rfl ?_
          refine bz_iconst (pc := 39) dX12_copy_39 ci_5 ?_
          refine bz_kIV (as := [.inl 5]) (st := []) (ci := 12) (n := 1) (mc := 0) (ms := 0) (bc := bc) (bs := bs) (yc := kX12_finding) (q := (RX12, TX12, 34)) (b := a0) (pc := 40) dX12_copy_40 sc_X12_finding ml_X12_73 im_X12_finding se_X12_finding rfl rfl rfl (Nat.le_of_ble_eq_true rfl) hP47 (fun x_39 h_40 hP48 => ?_)
          clear hP47
          exact bz_retI (pc := 43) dX12_copy_43 rfl rfl hP48
    · have hP49 := hP5.2 c
      clear hP5
      refine bz_aload_n (pc := 14) dX12_copy_14 rfl rfl ?_
      refine bz_iconst (pc := 15) dX12_copy_15 ci_0 ?_
      refine bz_kIV (as := [.inl 0]) (st := []) (ci := 12) (n := 1) (mc := 0) (ms := 0) (bc := bc) (bs := bs) (yc := kX12_finding) (q := (RX12, TX12, 34)) (b := a0) (pc := 16) dX12_copy_16 sc_X12_finding ml_X12_73 im_X12_finding se_X12_finding rfl rfl rfl (Nat.le_of_ble_eq_true rfl) hP49 (fun x_41 h_42 hP50 => ?_)
      clear hP49
      exact bz_retI (pc := 19) dX12_copy_19 rfl rfl hP50
def w_X12_copy_115 (G : bz_G) (κ : bz_K) (l : Launch) (d : Nat) (F : Option bz_V → bz_H → Prop) (bc bs : Nat) (a0 : Nat) (x1 : Int32) (x2 : Int32) (x3 : Int32) (x4 : Int32) (x5 : Int32) (x6 : Int32) (h : bz_H) : Prop := (x5 ≤ x6 → bz_J G κ kX12_copy (d + 1) F bc bs 152 [some (.inr (some a0)), some (.inl x1), some (.inl x2), some (.inl x3), some (.inl x4), some (.inl x5), some (.inl 0)] [] h) ∧ (¬ (x5 ≤ x6) → bz_rR h a0 12 33 (fun r_43 => bz_rR h a0 12 32 (fun r_44 => bz_nn r_44 (fun a_45 => bz_rA h a_45 (((60 * x1) + x2) + x6) (fun x_46 => bz_nn r_43 (fun a_47 => bz_wA h a_47 x6 x_46 (fun h_48 => bz_J G κ kX12_copy (d + 1) F bc bs 115 [some (.inr (some a0)), some (.inl x1), some (.inl x2), some (.inl x3), some (.inl x4), some (.inl x5), some (.inl (x6 + 1))] [] h_48)))))))
set_option maxRecDepth 20000 in
set_option maxHeartbeats 4000000 in
theorem g_X12_copy_115 {G : bz_G} {κ : bz_K} {l : Launch} {d : Nat} {F : Option bz_V → bz_H → Prop} {bc bs : Nat} (hl : κ.2.1 = l) (a0 : Nat) (x1 : Int32) (x2 : Int32) (x3 : Int32) (x4 : Int32) (x5 : Int32) (x6 : Int32) (h : bz_H) (hP0 : w_X12_copy_115 G κ l d F bc bs a0 x1 x2 x3 x4 x5 x6 h) : bz_J G κ kX12_copy (d + 1) F bc bs 115 [some (.inr (some a0)), some (.inl x1), some (.inl x2), some (.inl x3), some (.inl x4), some (.inl x5), some (.inl x6)] [] h := by
  subst hl
  unfold w_X12_copy_115 at hP0
  refine bz_iload (pc := 115) dX12_copy_115 rfl ?_
  refine bz_iload (pc := 117) dX12_copy_117 rfl ?_
  refine bz_icmp_ge (tgt := 149) (pc := 119) dX12_copy_119 rfl (fun c => ?_) (fun c => ?_)
  · have hP1 := hP0.1 c
    clear hP0
    refine bz_iconst (pc := 149) dX12_copy_149 ci_0 ?_
    refine bz_s_istore (pc := 150) dX12_copy_150 (Nat.le_of_ble_eq_true rfl) [some (.inr (some a0)), some (.inl x1), some (.inl x2), some (.inl x3), some (.inl x4), some (.inl x5), some (.inl 0)] rfl ?_
    exact hP1
  · have hP2 := hP0.2 c
    clear hP0
    refine bz_aload_n (pc := 122) dX12_copy_122 rfl rfl ?_
    refine bz_rw_rR (pc := 123) dX12_copy_123 fl_X12_61 hP2 (fun r_43 hP3 => ?_)
    clear hP2
    refine bz_iload (pc := 126) dX12_copy_126 rfl ?_
    refine bz_aload_n (pc := 128) dX12_copy_128 rfl rfl ?_
    refine bz_rw_rR (pc := 129) dX12_copy_129 fl_X12_58 hP3 (fun r_44 hP4 => ?_)
    clear hP3
    refine bz_bipush (pc := 132) dX12_copy_132 cb_60 ?_
    refine bz_iload_n (pc := 134) dX12_copy_134 rfl rfl ?_
    refine bz_imul (pc := 135) dX12_copy_135 ?_
    refine bz_iload_n (pc := 136) dX12_copy_136 rfl rfl ?_
    refine bz_iadd (pc := 137) dX12_copy_137 ?_
    refine bz_iload (pc := 138) dX12_copy_138 rfl ?_
    refine bz_iadd (pc := 140) dX12_copy_140 ?_
    obtain ⟨a_45, rfl, hP5⟩ := hP4
    refine bz_rw_rA (pc := 141) dX12_copy_141 hP5 (fun x_46 hP6 => ?_)
    clear hP5
    obtain ⟨a_47, rfl, hP7⟩ := hP6
    refine bz_rw_wA (pc := 142) dX12_copy_142 hP7 (fun h_48 hP8 => ?_)
    clear hP7
    refine bz_s_iinc (pc := 143) dX12_copy_143 (Nat.le_of_ble_eq_true rfl) rfl rfl [some (.inr (some a0)), some (.inl x1), some (.inl x2), some (.inl x3), some (.inl x4), some (.inl x5), some (.inl (x6 + 1))] rfl ?_
    refine bz_goto (tgt := 115) (pc := 146) dX12_copy_146 rfl ?_
    exact hP8
def w_X12_copy_152 (G : bz_G) (κ : bz_K) (l : Launch) (d : Nat) (F : Option bz_V → bz_H → Prop) (bc bs : Nat) (a0 : Nat) (x1 : Int32) (x2 : Int32) (x3 : Int32) (x4 : Int32) (x5 : Int32) (x6 : Int32) (h : bz_H) : Prop := (x5 ≤ x6 → F (some (.inl x5)) h) ∧ (¬ (x5 ≤ x6) → bz_rR h a0 12 32 (fun r_49 => bz_rR h a0 12 33 (fun r_50 => bz_nn r_50 (fun a_51 => bz_rA h a_51 x6 (fun x_52 => bz_nn r_49 (fun a_53 => bz_wA h a_53 (((60 * x3) + x4) + x6) x_52 (fun h_54 => bz_J G κ kX12_copy (d + 1) F bc bs 152 [some (.inr (some a0)), some (.inl x1), some (.inl x2), some (.inl x3), some (.inl x4), some (.inl x5), some (.inl (x6 + 1))] [] h_54)))))))
set_option maxRecDepth 20000 in
set_option maxHeartbeats 4000000 in
theorem g_X12_copy_152 {G : bz_G} {κ : bz_K} {l : Launch} {d : Nat} {F : Option bz_V → bz_H → Prop} {bc bs : Nat} (hl : κ.2.1 = l) (a0 : Nat) (x1 : Int32) (x2 : Int32) (x3 : Int32) (x4 : Int32) (x5 : Int32) (x6 : Int32) (h : bz_H) (hP0 : w_X12_copy_152 G κ l d F bc bs a0 x1 x2 x3 x4 x5 x6 h) : bz_J G κ kX12_copy (d + 1) F bc bs 152 [some (.inr (some a0)), some (.inl x1), some (.inl x2), some (.inl x3), some (.inl x4), some (.inl x5), some (.inl x6)] [] h := by
  subst hl
  unfold w_X12_copy_152 at hP0
  refine bz_iload (pc := 152) dX12_copy_152 rfl ?_
  refine bz_iload (pc := 154) dX12_copy_154 rfl ?_
  refine bz_icmp_ge (tgt := 187) (pc := 156) dX12_copy_156 rfl (fun c => ?_) (fun c => ?_)
  · have hP1 := hP0.1 c
    clear hP0
    refine bz_iload (pc := 187) dX12_copy_187 rfl ?_
    exact bz_retI (pc := 189) dX12_copy_189 rfl rfl hP1
  · have hP2 := hP0.2 c
    clear hP0
    refine bz_aload_n (pc := 159) dX12_copy_159 rfl rfl ?_
    refine bz_rw_rR (pc := 160) dX12_copy_160 fl_X12_58 hP2 (fun r_49 hP3 => ?_)
    clear hP2
    refine bz_bipush (pc := 163) dX12_copy_163 cb_60 ?_
    refine bz_iload_n (pc := 165) dX12_copy_165 rfl rfl ?_
    refine bz_imul (pc := 166) dX12_copy_166 ?_
    refine bz_iload (pc := 167) dX12_copy_167 rfl ?_
    refine bz_iadd (pc := 169) dX12_copy_169 ?_
    refine bz_iload (pc := 170) dX12_copy_170 rfl ?_
    refine bz_iadd (pc := 172) dX12_copy_172 ?_
    refine bz_aload_n (pc := 173) dX12_copy_173 rfl rfl ?_
    refine bz_rw_rR (pc := 174) dX12_copy_174 fl_X12_61 hP3 (fun r_50 hP4 => ?_)
    clear hP3
    refine bz_iload (pc := 177) dX12_copy_177 rfl ?_
    obtain ⟨a_51, rfl, hP5⟩ := hP4
    refine bz_rw_rA (pc := 179) dX12_copy_179 hP5 (fun x_52 hP6 => ?_)
    clear hP5
    obtain ⟨a_53, rfl, hP7⟩ := hP6
    refine bz_rw_wA (pc := 180) dX12_copy_180 hP7 (fun h_54 hP8 => ?_)
    clear hP7
    refine bz_s_iinc (pc := 181) dX12_copy_181 (Nat.le_of_ble_eq_true rfl) rfl rfl [some (.inr (some a0)), some (.inl x1), some (.inl x2), some (.inl x3), some (.inl x4), some (.inl x5), some (.inl (x6 + 1))] rfl ?_
    refine bz_goto (tgt := 152) (pc := 184) dX12_copy_184 rfl ?_
    exact hP8
theorem m_X12_copy {G : bz_G} {l : Launch} {d mc ms : Nat} {F : Option bz_V → bz_H → Prop} (a0 : Nat) (x1 : Int32) (x2 : Int32) (x3 : Int32) (x4 : Int32) (x5 : Int32) (h : bz_H) (hP : ∀ (κ : bz_K) (bc bs : Nat), κ.2.1 = l → w_X12_copy_0 G κ l d F bc bs a0 x1 x2 x3 x4 x5 h) : bz_Call G l (d + 1) kX12_copy [.inr (some a0), .inl x1, .inl x2, .inl x3, .inl x4, .inl x5] h mc ms F :=
  bz_body (by decide) (Nat.le_of_ble_eq_true rfl) (fun κ hl => g_X12_copy_0 hl a0 x1 x2 x3 x4 x5 h (hP κ mc ms hl))
def w_X12_count_0 (G : bz_G) (κ : bz_K) (l : Launch) (d : Nat) (F : Option bz_V → bz_H → Prop) (bc bs : Nat) (a0 : Nat) (x1 : Int32) (h : bz_H) : Prop := (x1 = 0 → bz_rR h a0 12 0 (fun r_1 => bz_nn r_1 (fun a_2 => bz_rA h a_2 0 (fun x_3 => F (some (.inl x_3)) h)))) ∧ (¬ x1 = 0 → (x1 = 1 → bz_rR h a0 12 0 (fun r_4 => bz_nn r_4 (fun a_5 => bz_rA h a_5 1 (fun x_6 => F (some (.inl x_6)) h)))) ∧ (¬ x1 = 1 → (x1 = 2 → bz_rR h a0 12 0 (fun r_7 => bz_nn r_7 (fun a_8 => bz_rA h a_8 2 (fun x_9 => F (some (.inl x_9)) h)))) ∧ (¬ x1 = 2 → (x1 = 3 → bz_J G κ kX12_count (d + 1) F bc bs 69 [some (.inr (some a0)), some (.inl x1), some (.inl 0), some (.inl 0)] [] h) ∧ (¬ x1 = 3 → (x1 = 4 → bz_rR h a0 12 0 (fun r_10 => bz_nn r_10 (fun a_11 => bz_rA h a_11 3 (fun x_12 => F (some (.inl x_12)) h)))) ∧ (¬ x1 = 4 → (x1 = 5 → bz_rR h a0 12 0 (fun r_13 => bz_nn r_13 (fun a_14 => bz_rA h a_14 4 (fun x_15 => F (some (.inl x_15)) h)))) ∧ (¬ x1 = 5 → (x1 = 6 → bz_rI h a0 12 14 (fun x_16 => F (some (.inl x_16)) h)) ∧ (¬ x1 = 6 → bz_rc h a0 12 (bz_cI G l d kX12_finding [.inr (some a0), .inl 0] h 0 0 (fun x_17 h_18 => F (some (.inl x_17)) h_18)))))))))
set_option maxRecDepth 20000 in
set_option maxHeartbeats 4000000 in
theorem g_X12_count_0 {G : bz_G} {κ : bz_K} {l : Launch} {d : Nat} {F : Option bz_V → bz_H → Prop} {bc bs : Nat} (hl : κ.2.1 = l) (a0 : Nat) (x1 : Int32) (h : bz_H) (hP0 : w_X12_count_0 G κ l d F bc bs a0 x1 h) : bz_J G κ kX12_count (d + 1) F bc bs 0 [some (.inr (some a0)), some (.inl x1), none, none] [] h := by
  subst hl
  unfold w_X12_count_0 at hP0
  refine bz_iload_n (pc := 0) dX12_count_0 rfl rfl ?_
  refine bz_table (pc := 1) [(0, 43), (1, 50), (2, 57), (3, 64), (4, 102), (5, 109), (6, 116)] dX12_count_1 (by decide) (by decide) (by decide) (by decide) (by decide) ?_
  refine ⟨fun c => ?_, fun c => ?_⟩
  · have hP1 := hP0.1 c
    clear hP0
    show bz_J G κ kX12_count (d + 1) F bc bs 44 [some (.inr (some a0)), some (.inl x1), none, none] [] h
    refine bz_aload_n (pc := 44) dX12_count_44 rfl rfl ?_
    refine bz_rw_rR (pc := 45) dX12_count_45 fl_X12_7 hP1 (fun r_1 hP2 => ?_)
    clear hP1
    refine bz_iconst (pc := 48) dX12_count_48 ci_0 ?_
    obtain ⟨a_2, rfl, hP3⟩ := hP2
    refine bz_rw_rA (pc := 49) dX12_count_49 hP3 (fun x_3 hP4 => ?_)
    clear hP3
    exact bz_retI (pc := 50) dX12_count_50 rfl rfl hP4
  · have hP5 := hP0.2 c
    clear hP0
    refine ⟨fun c => ?_, fun c => ?_⟩
    · have hP6 := hP5.1 c
      clear hP5
      show bz_J G κ kX12_count (d + 1) F bc bs 51 [some (.inr (some a0)), some (.inl x1), none, none] [] h
      refine bz_aload_n (pc := 51) dX12_count_51 rfl rfl ?_
      refine bz_rw_rR (pc := 52) dX12_count_52 fl_X12_7 hP6 (fun r_4 hP7 => ?_)
      clear hP6
      refine bz_iconst (pc := 55) dX12_count_55 ci_1 ?_
      obtain ⟨a_5, rfl, hP8⟩ := hP7
      refine bz_rw_rA (pc := 56) dX12_count_56 hP8 (fun x_6 hP9 => ?_)
      clear hP8
      exact bz_retI (pc := 57) dX12_count_57 rfl rfl hP9
    · have hP10 := hP5.2 c
      clear hP5
      refine ⟨fun c => ?_, fun c => ?_⟩
      · have hP11 := hP10.1 c
        clear hP10
        show bz_J G κ kX12_count (d + 1) F bc bs 58 [some (.inr (some a0)), some (.inl x1), none, none] [] h
        refine bz_aload_n (pc := 58) dX12_count_58 rfl rfl ?_
        refine bz_rw_rR (pc := 59) dX12_count_59 fl_X12_7 hP11 (fun r_7 hP12 => ?_)
        clear hP11
        refine bz_iconst (pc := 62) dX12_count_62 ci_2 ?_
        obtain ⟨a_8, rfl, hP13⟩ := hP12
        refine bz_rw_rA (pc := 63) dX12_count_63 hP13 (fun x_9 hP14 => ?_)
        clear hP13
        exact bz_retI (pc := 64) dX12_count_64 rfl rfl hP14
      · have hP15 := hP10.2 c
        clear hP10
        refine ⟨fun c => ?_, fun c => ?_⟩
        · have hP16 := hP15.1 c
          clear hP15
          show bz_J G κ kX12_count (d + 1) F bc bs 65 [some (.inr (some a0)), some (.inl x1), none, none] [] h
          refine bz_iconst (pc := 65) dX12_count_65 ci_0 ?_
          refine bz_s_istore_n (pc := 66) dX12_count_66 rfl (Nat.le_of_ble_eq_true rfl) [some (.inr (some a0)), some (.inl x1), some (.inl 0), none] rfl ?_
          refine bz_iconst (pc := 67) dX12_count_67 ci_0 ?_
          refine bz_s_istore_n (pc := 68) dX12_count_68 rfl (Nat.le_of_ble_eq_true rfl) [some (.inr (some a0)), some (.inl x1), some (.inl 0), some (.inl 0)] rfl ?_
          exact hP16
        · have hP17 := hP15.2 c
          clear hP15
          refine ⟨fun c => ?_, fun c => ?_⟩
          · have hP18 := hP17.1 c
            clear hP17
            show bz_J G κ kX12_count (d + 1) F bc bs 103 [some (.inr (some a0)), some (.inl x1), none, none] [] h
            refine bz_aload_n (pc := 103) dX12_count_103 rfl rfl ?_
            refine bz_rw_rR (pc := 104) dX12_count_104 fl_X12_7 hP18 (fun r_10 hP19 => ?_)
            clear hP18
            refine bz_iconst (pc := 107) dX12_count_107 ci_3 ?_
            obtain ⟨a_11, rfl, hP20⟩ := hP19
            refine bz_rw_rA (pc := 108) dX12_count_108 hP20 (fun x_12 hP21 => ?_)
            clear hP20
            exact bz_retI (pc := 109) dX12_count_109 rfl rfl hP21
          · have hP22 := hP17.2 c
            clear hP17
            refine ⟨fun c => ?_, fun c => ?_⟩
            · have hP23 := hP22.1 c
              clear hP22
              show bz_J G κ kX12_count (d + 1) F bc bs 110 [some (.inr (some a0)), some (.inl x1), none, none] [] h
              refine bz_aload_n (pc := 110) dX12_count_110 rfl rfl ?_
              refine bz_rw_rR (pc := 111) dX12_count_111 fl_X12_7 hP23 (fun r_13 hP24 => ?_)
              clear hP23
              refine bz_iconst (pc := 114) dX12_count_114 ci_4 ?_
              obtain ⟨a_14, rfl, hP25⟩ := hP24
              refine bz_rw_rA (pc := 115) dX12_count_115 hP25 (fun x_15 hP26 => ?_)
              clear hP25
              exact bz_retI (pc := 116) dX12_count_116 rfl rfl hP26
            · have hP27 := hP22.2 c
              clear hP22
              refine ⟨fun c => ?_, fun c => ?_⟩
              · have hP28 := hP27.1 c
                clear hP27
                show bz_J G κ kX12_count (d + 1) F bc bs 117 [some (.inr (some a0)), some (.inl x1), none, none] [] h
                refine bz_aload_n (pc := 117) dX12_count_117 rfl rfl ?_
                refine bz_rw_rI (pc := 118) dX12_count_118 fl_X12_235 hP28 (fun x_16 hP29 => ?_)
                clear hP28
                exact bz_retI (pc := 121) dX12_count_121 rfl rfl hP29
              · have hP30 := hP27.2 c
                clear hP27
                show bz_J G κ kX12_count (d + 1) F bc bs 122 [some (.inr (some a0)), some (.inl x1), none, none] [] h
                refine bz_aload_n (pc := 122) dX12_count_122 rfl rfl ?_
                refine bz_iconst (pc := 123) dX12_count_123 ci_0 ?_
                refine bz_kIV (as := [.inl 0]) (st := []) (ci := 12) (n := 1) (mc := 0) (ms := 0) (bc := bc) (bs := bs) (yc := kX12_finding) (q := (RX12, TX12, 34)) (b := a0) (pc := 124) dX12_count_124 sc_X12_finding ml_X12_73 im_X12_finding se_X12_finding rfl rfl rfl (Nat.le_of_ble_eq_true rfl) hP30 (fun x_17 h_18 hP31 => ?_)
                clear hP30
                exact bz_retI (pc := 127) dX12_count_127 rfl rfl hP31
def w_X12_count_69 (G : bz_G) (κ : bz_K) (l : Launch) (d : Nat) (F : Option bz_V → bz_H → Prop) (bc bs : Nat) (a0 : Nat) (x1 : Int32) (x2 : Int32) (x3 : Int32) (h : bz_H) : Prop := bz_rR h a0 12 0 (fun r_19 => bz_nn r_19 (fun a_20 => bz_rA h a_20 2 (fun x_21 => (x_21 ≤ x3 → F (some (.inl x2)) h) ∧ (¬ (x_21 ≤ x3) → bz_rc h a0 12 (bz_cI G l d kX12_isWaiting [.inr (some a0), .inl x3] h 0 0 (fun x_22 h_23 => bz_J G κ kX12_count (d + 1) F bc bs 69 [some (.inr (some a0)), some (.inl x1), some (.inl (x2 + (if x_22 = 0 then 0 else 1))), some (.inl (x3 + 1))] [] h_23))))))
set_option maxRecDepth 20000 in
set_option maxHeartbeats 4000000 in
theorem g_X12_count_69 {G : bz_G} {κ : bz_K} {l : Launch} {d : Nat} {F : Option bz_V → bz_H → Prop} {bc bs : Nat} (hl : κ.2.1 = l) (a0 : Nat) (x1 : Int32) (x2 : Int32) (x3 : Int32) (h : bz_H) (hP0 : w_X12_count_69 G κ l d F bc bs a0 x1 x2 x3 h) : bz_J G κ kX12_count (d + 1) F bc bs 69 [some (.inr (some a0)), some (.inl x1), some (.inl x2), some (.inl x3)] [] h := by
  subst hl
  unfold w_X12_count_69 at hP0
  refine bz_iload_n (pc := 69) dX12_count_69 rfl rfl ?_
  refine bz_aload_n (pc := 70) dX12_count_70 rfl rfl ?_
  refine bz_rw_rR (pc := 71) dX12_count_71 fl_X12_7 hP0 (fun r_19 hP1 => ?_)
  clear hP0
  refine bz_iconst (pc := 74) dX12_count_74 ci_2 ?_
  obtain ⟨a_20, rfl, hP2⟩ := hP1
  refine bz_rw_rA (pc := 75) dX12_count_75 hP2 (fun x_21 hP3 => ?_)
  clear hP2
  refine bz_icmp_ge (tgt := 101) (pc := 76) dX12_count_76 rfl (fun c => ?_) (fun c => ?_)
  · have hP4 := hP3.1 c
    clear hP3
    refine bz_iload_n (pc := 101) dX12_count_101 rfl rfl ?_
    exact bz_retI (pc := 102) dX12_count_102 rfl rfl hP4
  · have hP5 := hP3.2 c
    clear hP3
    refine bz_iload_n (pc := 79) dX12_count_79 rfl rfl ?_
    refine bz_aload_n (pc := 80) dX12_count_80 rfl rfl ?_
    refine bz_iload_n (pc := 81) dX12_count_81 rfl rfl ?_
    refine bz_kIV (as := [.inl x3]) (st := [.inl x2]) (ci := 12) (n := 1) (mc := 0) (ms := 0) (bc := bc) (bs := bs) (yc := kX12_isWaiting) (q := (RX12, TX12, 34)) (b := a0) (pc := 82) dX12_count_82 sc_X12_isWaiting ml_X12_129 im_X12_isWaiting se_X12_isWaiting rfl rfl rfl (Nat.le_of_ble_eq_true rfl) hP5 (fun x_22 h_23 hP6 => ?_)
    clear hP5
    have hJ : bz_J G κ kX12_count (d + 1) F bc bs 93 [some (.inr (some a0)), some (.inl x1), some (.inl x2), some (.inl x3)] [.inl (if x_22 = 0 then 0 else 1), .inl x2] h_23 := by
      refine bz_iadd (pc := 93) dX12_count_93 ?_
      refine bz_s_istore_n (pc := 94) dX12_count_94 rfl (Nat.le_of_ble_eq_true rfl) [some (.inr (some a0)), some (.inl x1), some (.inl (x2 + (if x_22 = 0 then 0 else 1))), some (.inl x3)] rfl ?_
      refine bz_s_iinc (pc := 95) dX12_count_95 (Nat.le_of_ble_eq_true rfl) rfl rfl [some (.inr (some a0)), some (.inl x1), some (.inl (x2 + (if x_22 = 0 then 0 else 1))), some (.inl (x3 + 1))] rfl ?_
      refine bz_goto (tgt := 69) (pc := 98) dX12_count_98 rfl ?_
      exact hP6
    refine bz_if_eq (tgt := 92) (pc := 85) dX12_count_85 rfl (fun c => ?_) (fun c => ?_)
    · have e9 : ((if x_22 = 0 then 0 else 1) : Int32) = (0) := if_pos c
      rw [e9] at hJ
      refine bz_iconst (pc := 92) dX12_count_92 ci_0 ?_
      exact hJ
    · have e9 : ((if x_22 = 0 then 0 else 1) : Int32) = (1) := if_neg c
      rw [e9] at hJ
      refine bz_iconst (pc := 88) dX12_count_88 ci_1 ?_
      refine bz_goto (tgt := 93) (pc := 89) dX12_count_89 rfl ?_
      exact hJ
theorem m_X12_count {G : bz_G} {l : Launch} {d mc ms : Nat} {F : Option bz_V → bz_H → Prop} (a0 : Nat) (x1 : Int32) (h : bz_H) (hP : ∀ (κ : bz_K) (bc bs : Nat), κ.2.1 = l → w_X12_count_0 G κ l d F bc bs a0 x1 h) : bz_Call G l (d + 1) kX12_count [.inr (some a0), .inl x1] h mc ms F :=
  bz_body (by decide) (Nat.le_of_ble_eq_true rfl) (fun κ hl => g_X12_count_0 hl a0 x1 h (hP κ mc ms hl))
def w_X12_counting_0 (G : bz_G) (κ : bz_K) (l : Launch) (d : Nat) (F : Option bz_V → bz_H → Prop) (bc bs : Nat) (a0 : Nat) (x1 : Int32) (h : bz_H) : Prop := bz_J G κ kX12_counting (d + 1) F bc bs 4 [some (.inr (some a0)), some (.inl x1), some (.inl 0), some (.inl 0), none] [] h
set_option maxRecDepth 20000 in
set_option maxHeartbeats 4000000 in
theorem g_X12_counting_0 {G : bz_G} {κ : bz_K} {l : Launch} {d : Nat} {F : Option bz_V → bz_H → Prop} {bc bs : Nat} (hl : κ.2.1 = l) (a0 : Nat) (x1 : Int32) (h : bz_H) (hP0 : w_X12_counting_0 G κ l d F bc bs a0 x1 h) : bz_J G κ kX12_counting (d + 1) F bc bs 0 [some (.inr (some a0)), some (.inl x1), none, none, none] [] h := by
  subst hl
  unfold w_X12_counting_0 at hP0
  refine bz_iconst (pc := 0) dX12_counting_0 ci_0 ?_
  refine bz_s_istore_n (pc := 1) dX12_counting_1 rfl (Nat.le_of_ble_eq_true rfl) [some (.inr (some a0)), some (.inl x1), some (.inl 0), none, none] rfl ?_
  refine bz_iconst (pc := 2) dX12_counting_2 ci_0 ?_
  refine bz_s_istore_n (pc := 3) dX12_counting_3 rfl (Nat.le_of_ble_eq_true rfl) [some (.inr (some a0)), some (.inl x1), some (.inl 0), some (.inl 0), none] rfl ?_
  exact hP0
def w_X12_counting_4 (G : bz_G) (κ : bz_K) (l : Launch) (d : Nat) (F : Option bz_V → bz_H → Prop) (bc bs : Nat) (a0 : Nat) (x1 : Int32) (x2 : Int32) (x3 : Int32) (u4 : Option bz_V) (h : bz_H) : Prop := bz_rR h a0 12 0 (fun r_1 => bz_nn r_1 (fun a_2 => bz_rA h a_2 10 (fun x_3 => (x_3 ≤ x3 → bz_rc h a0 12 (bz_cI G l d kX12_engaged [.inr (some a0), .inl x1] h 0 0 (fun x_4 h_5 => F (some (.inl ((x_4 - x2) + (x2 / 2)))) h_5))) ∧ (¬ (x_3 ≤ x3) → bz_rR h a0 12 0 (fun r_6 => bz_nn r_6 (fun a_7 => bz_rA h a_7 ((894 + (3 * x3)) + 1) (fun x_8 => bz_J G κ kX12_counting (d + 1) F bc bs 31 [some (.inr (some a0)), some (.inl x1), some (.inl x2), some (.inl x3), some (.inl x_8)] [] h)))))))
set_option maxRecDepth 20000 in
set_option maxHeartbeats 4000000 in
theorem g_X12_counting_4 {G : bz_G} {κ : bz_K} {l : Launch} {d : Nat} {F : Option bz_V → bz_H → Prop} {bc bs : Nat} (hl : κ.2.1 = l) (a0 : Nat) (x1 : Int32) (x2 : Int32) (x3 : Int32) (u4 : Option bz_V) (h : bz_H) (hP0 : w_X12_counting_4 G κ l d F bc bs a0 x1 x2 x3 u4 h) : bz_J G κ kX12_counting (d + 1) F bc bs 4 [some (.inr (some a0)), some (.inl x1), some (.inl x2), some (.inl x3), u4] [] h := by
  subst hl
  unfold w_X12_counting_4 at hP0
  refine bz_iload_n (pc := 4) dX12_counting_4 rfl rfl ?_
  refine bz_aload_n (pc := 5) dX12_counting_5 rfl rfl ?_
  refine bz_rw_rR (pc := 6) dX12_counting_6 fl_X12_7 hP0 (fun r_1 hP1 => ?_)
  clear hP0
  refine bz_bipush (pc := 9) dX12_counting_9 cb_10 ?_
  obtain ⟨a_2, rfl, hP2⟩ := hP1
  refine bz_rw_rA (pc := 11) dX12_counting_11 hP2 (fun x_3 hP3 => ?_)
  clear hP2
  refine bz_icmp_ge (tgt := 96) (pc := 12) dX12_counting_12 rfl (fun c => ?_) (fun c => ?_)
  · have hP4 := hP3.1 c
    clear hP3
    refine bz_aload_n (pc := 96) dX12_counting_96 rfl rfl ?_
    refine bz_iload_n (pc := 97) dX12_counting_97 rfl rfl ?_
    refine bz_kIV (as := [.inl x1]) (st := []) (ci := 12) (n := 1) (mc := 0) (ms := 0) (bc := bc) (bs := bs) (yc := kX12_engaged) (q := (RX12, TX12, 34)) (b := a0) (pc := 98) dX12_counting_98 sc_X12_engaged ml_X12_142 im_X12_engaged se_X12_engaged rfl rfl rfl (Nat.le_of_ble_eq_true rfl) hP4 (fun x_4 h_5 hP5 => ?_)
    clear hP4
    refine bz_iload_n (pc := 101) dX12_counting_101 rfl rfl ?_
    refine bz_isub (pc := 102) dX12_counting_102 ?_
    refine bz_iload_n (pc := 103) dX12_counting_103 rfl rfl ?_
    refine bz_iconst (pc := 104) dX12_counting_104 ci_2 ?_
    refine bz_idiv (pc := 105) dX12_counting_105 (by decide) ?_
    refine bz_iadd (pc := 106) dX12_counting_106 ?_
    exact bz_retI (pc := 107) dX12_counting_107 rfl rfl hP5
  · have hP6 := hP3.2 c
    clear hP3
    refine bz_aload_n (pc := 15) dX12_counting_15 rfl rfl ?_
    refine bz_rw_rR (pc := 16) dX12_counting_16 fl_X12_7 hP6 (fun r_6 hP7 => ?_)
    clear hP6
    refine bz_sipush (pc := 19) dX12_counting_19 cs_894 ?_
    refine bz_iconst (pc := 22) dX12_counting_22 ci_3 ?_
    refine bz_iload_n (pc := 23) dX12_counting_23 rfl rfl ?_
    refine bz_imul (pc := 24) dX12_counting_24 ?_
    refine bz_iadd (pc := 25) dX12_counting_25 ?_
    refine bz_iconst (pc := 26) dX12_counting_26 ci_1 ?_
    refine bz_iadd (pc := 27) dX12_counting_27 ?_
    obtain ⟨a_7, rfl, hP8⟩ := hP7
    refine bz_rw_rA (pc := 28) dX12_counting_28 hP8 (fun x_8 hP9 => ?_)
    clear hP8
    refine bz_s_istore (pc := 29) dX12_counting_29 (Nat.le_of_ble_eq_true rfl) [some (.inr (some a0)), some (.inl x1), some (.inl x2), some (.inl x3), some (.inl x_8)] rfl ?_
    exact hP9
def w_X12_counting_31 (G : bz_G) (κ : bz_K) (l : Launch) (d : Nat) (F : Option bz_V → bz_H → Prop) (bc bs : Nat) (a0 : Nat) (x1 : Int32) (x2 : Int32) (x3 : Int32) (x4 : Int32) (h : bz_H) : Prop := bz_rR h a0 12 0 (fun r_9 => bz_nn r_9 (fun a_10 => bz_rA h a_10 ((894 + (3 * x3)) + 2) (fun x_11 => (x_11 ≤ x4 → bz_J G κ kX12_counting (d + 1) F bc bs 4 [some (.inr (some a0)), some (.inl x1), some (.inl x2), some (.inl (x3 + 1)), some (.inl x4)] [] h) ∧ (¬ (x_11 ≤ x4) → bz_rR h a0 12 0 (fun r_12 => bz_nn r_12 (fun a_13 => bz_rA h a_13 (894 + (3 * x3)) (fun x_14 => (¬ x_14 = x1 → bz_J G κ kX12_counting (d + 1) F bc bs 4 [some (.inr (some a0)), some (.inl x1), some (.inl x2), some (.inl (x3 + 1)), some (.inl x4)] [] h) ∧ (x_14 = x1 → bz_rc h a0 12 (bz_cI G l d kX12_isElsewhere [.inr (some a0), .inl x1, .inl x4] h 0 0 (fun x_15 h_16 => bz_J G κ kX12_counting (d + 1) F bc bs 31 [some (.inr (some a0)), some (.inl x1), some (.inl (x2 + (if x_15 = 0 then 0 else 1))), some (.inl x3), some (.inl (x4 + 1))] [] h_16))))))))))
set_option maxRecDepth 20000 in
set_option maxHeartbeats 4000000 in
theorem g_X12_counting_31 {G : bz_G} {κ : bz_K} {l : Launch} {d : Nat} {F : Option bz_V → bz_H → Prop} {bc bs : Nat} (hl : κ.2.1 = l) (a0 : Nat) (x1 : Int32) (x2 : Int32) (x3 : Int32) (x4 : Int32) (h : bz_H) (hP0 : w_X12_counting_31 G κ l d F bc bs a0 x1 x2 x3 x4 h) : bz_J G κ kX12_counting (d + 1) F bc bs 31 [some (.inr (some a0)), some (.inl x1), some (.inl x2), some (.inl x3), some (.inl x4)] [] h := by
  subst hl
  unfold w_X12_counting_31 at hP0
  refine bz_iload (pc := 31) dX12_counting_31 rfl ?_
  refine bz_aload_n (pc := 33) dX12_counting_33 rfl rfl ?_
  refine bz_rw_rR (pc := 34) dX12_counting_34 fl_X12_7 hP0 (fun r_9 hP1 => ?_)
  clear hP0
  refine bz_sipush (pc := 37) dX12_counting_37 cs_894 ?_
  refine bz_iconst (pc := 40) dX12_counting_40 ci_3 ?_
  refine bz_iload_n (pc := 41) dX12_counting_41 rfl rfl ?_
  refine bz_imul (pc := 42) dX12_counting_42 ?_
  refine bz_iadd (pc := 43) dX12_counting_43 ?_
  refine bz_iconst (pc := 44) dX12_counting_44 ci_2 ?_
  refine bz_iadd (pc := 45) dX12_counting_45 ?_
  obtain ⟨a_10, rfl, hP2⟩ := hP1
  refine bz_rw_rA (pc := 46) dX12_counting_46 hP2 (fun x_11 hP3 => ?_)
  clear hP2
  refine bz_icmp_ge (tgt := 90) (pc := 47) dX12_counting_47 rfl (fun c => ?_) (fun c => ?_)
  · have hP4 := hP3.1 c
    clear hP3
    refine bz_s_iinc (pc := 90) dX12_counting_90 (Nat.le_of_ble_eq_true rfl) rfl rfl [some (.inr (some a0)), some (.inl x1), some (.inl x2), some (.inl (x3 + 1)), some (.inl x4)] rfl ?_
    refine bz_goto (tgt := 4) (pc := 93) dX12_counting_93 rfl ?_
    exact hP4
  · have hP5 := hP3.2 c
    clear hP3
    refine bz_aload_n (pc := 50) dX12_counting_50 rfl rfl ?_
    refine bz_rw_rR (pc := 51) dX12_counting_51 fl_X12_7 hP5 (fun r_12 hP6 => ?_)
    clear hP5
    refine bz_sipush (pc := 54) dX12_counting_54 cs_894 ?_
    refine bz_iconst (pc := 57) dX12_counting_57 ci_3 ?_
    refine bz_iload_n (pc := 58) dX12_counting_58 rfl rfl ?_
    refine bz_imul (pc := 59) dX12_counting_59 ?_
    refine bz_iadd (pc := 60) dX12_counting_60 ?_
    obtain ⟨a_13, rfl, hP7⟩ := hP6
    refine bz_rw_rA (pc := 61) dX12_counting_61 hP7 (fun x_14 hP8 => ?_)
    clear hP7
    refine bz_iload_n (pc := 62) dX12_counting_62 rfl rfl ?_
    refine bz_icmp_ne (tgt := 90) (pc := 63) dX12_counting_63 rfl (fun c => ?_) (fun c => ?_)
    · have hP9 := hP8.1 c
      clear hP8
      refine bz_s_iinc (pc := 90) dX12_counting_90 (Nat.le_of_ble_eq_true rfl) rfl rfl [some (.inr (some a0)), some (.inl x1), some (.inl x2), some (.inl (x3 + 1)), some (.inl x4)] rfl ?_
      refine bz_goto (tgt := 4) (pc := 93) dX12_counting_93 rfl ?_
      exact hP9
    · have hP10 := hP8.2 c
      clear hP8
      refine bz_iload_n (pc := 66) dX12_counting_66 rfl rfl ?_
      refine bz_aload_n (pc := 67) dX12_counting_67 rfl rfl ?_
      refine bz_iload_n (pc := 68) dX12_counting_68 rfl rfl ?_
      refine bz_iload (pc := 69) dX12_counting_69 rfl ?_
      refine bz_kIV (as := [.inl x1, .inl x4]) (st := [.inl x2]) (ci := 12) (n := 2) (mc := 0) (ms := 0) (bc := bc) (bs := bs) (yc := kX12_isElsewhere) (q := (RX12, TX12, 34)) (b := a0) (pc := 71) dX12_counting_71 sc_X12_isElsewhere ml_X12_308 im_X12_isElsewhere se_X12_isElsewhere rfl rfl rfl (Nat.le_of_ble_eq_true rfl) hP10 (fun x_15 h_16 hP11 => ?_)
      clear hP10
      have hJ : bz_J G κ kX12_counting (d + 1) F bc bs 82 [some (.inr (some a0)), some (.inl x1), some (.inl x2), some (.inl x3), some (.inl x4)] [.inl (if x_15 = 0 then 0 else 1), .inl x2] h_16 := by
        refine bz_iadd (pc := 82) dX12_counting_82 ?_
        refine bz_s_istore_n (pc := 83) dX12_counting_83 rfl (Nat.le_of_ble_eq_true rfl) [some (.inr (some a0)), some (.inl x1), some (.inl (x2 + (if x_15 = 0 then 0 else 1))), some (.inl x3), some (.inl x4)] rfl ?_
        refine bz_s_iinc (pc := 84) dX12_counting_84 (Nat.le_of_ble_eq_true rfl) rfl rfl [some (.inr (some a0)), some (.inl x1), some (.inl (x2 + (if x_15 = 0 then 0 else 1))), some (.inl x3), some (.inl (x4 + 1))] rfl ?_
        refine bz_goto (tgt := 31) (pc := 87) dX12_counting_87 rfl ?_
        exact hP11
      refine bz_if_eq (tgt := 81) (pc := 74) dX12_counting_74 rfl (fun c => ?_) (fun c => ?_)
      · have e9 : ((if x_15 = 0 then 0 else 1) : Int32) = (0) := if_pos c
        rw [e9] at hJ
        refine bz_iconst (pc := 81) dX12_counting_81 ci_0 ?_
        exact hJ
      · have e9 : ((if x_15 = 0 then 0 else 1) : Int32) = (1) := if_neg c
        rw [e9] at hJ
        refine bz_iconst (pc := 77) dX12_counting_77 ci_1 ?_
        refine bz_goto (tgt := 82) (pc := 78) dX12_counting_78 rfl ?_
        exact hJ
theorem m_X12_counting {G : bz_G} {l : Launch} {d mc ms : Nat} {F : Option bz_V → bz_H → Prop} (a0 : Nat) (x1 : Int32) (h : bz_H) (hP : ∀ (κ : bz_K) (bc bs : Nat), κ.2.1 = l → w_X12_counting_0 G κ l d F bc bs a0 x1 h) : bz_Call G l (d + 1) kX12_counting [.inr (some a0), .inl x1] h mc ms F :=
  bz_body (by decide) (Nat.le_of_ble_eq_true rfl) (fun κ hl => g_X12_counting_0 hl a0 x1 h (hP κ mc ms hl))
