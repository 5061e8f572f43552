/-! gifts, on both sides -/
theorem wv_c {μ : Nat → Nat → Int32} {B c a : Nat} (k : Nat) (v : Int32) (h : c = B + a) : wv (bz_u μ c k v) B = bz_u (wv μ B) a k v := by
  subst h
  exact wv_u μ B a k v
theorem sy_uu {μ : Nat → Nat → Int32} {s : Nat → Int32} {B c a k i : Nat} {v : Int32} (h : sy (wv μ B) s) (hi : i < 976) (hc : tb_c i = some (a, k)) (e : c = B + a) : sy (wv (bz_u μ c k v) B) (upd s i v) := by
  rw [wv_c k v e]
  exact sy_u h hi hc
theorem sy_xx {μ : Nat → Nat → Int32} {s : Nat → Int32} {B c a k : Nat} {v : Int32} (h : sy (wv μ B) s) (hc : ∀ i, i < 976 → ¬ tb_c i = some (a, k)) (e : c = B + a) : sy (wv (bz_u μ c k v) B) s := by
  rw [wv_c k v e]
  exact sy_x h hc
theorem tc_ox0 : ∀ o, o < 24 → (¬ tb_c (tb_i (18 + o) 1) = some (18 + o, 1)) ∧ (¬ tb_c (tb_i (18 + o) 4) = some (18 + o, 4)) ∧ (¬ tb_c (tb_i (18 + o) 6) = some (18 + o, 6)) ∧ (¬ tb_c (tb_i (18 + o) 11) = some (18 + o, 11)) ∧ (¬ tb_c (tb_i (18 + o) 12) = some (18 + o, 12)) ∧ (¬ tb_c (tb_i (18 + o) 14) = some (18 + o, 14)) := by decide +kernel
theorem tc_ox : ∀ o, o < 24 → ∀ k, (k = 1 ∨ k = 4 ∨ k = 6 ∨ k = 11 ∨ k = 12 ∨ k = 14) → ¬ tb_c (tb_i (18 + o) k) = some (18 + o, k) := by
  intro o ho k hk
  have := tc_ox0 o ho
  rcases hk with q | q | q | q | q | q <;> subst q
  · exact this.1
  · exact this.2.1
  · exact this.2.2.1
  · exact this.2.2.2.1
  · exact this.2.2.2.2.1
  · exact this.2.2.2.2.2
theorem fr_v {X : Nat → Nat → Prop} {S : bz_S} {μ : Nat → Nat → Int32} {q : (Nat → Nat → Option Nat) × List (Nat × (Nat → Int32))} {c k : Nat} {v : Int32} (h : fr X S (μ, q)) (x : X c k) : fr X S (bz_u μ c k v, q) := fr_t h (fr_u (S := (μ, q)) x)
theorem fr_0 (X : Nat → Nat → Prop) (S : bz_S) : fr X S (S.1, S.2) := fr_r X S
/-! bounds of differences -/
def bd (x : Int32) (B : Int) : Prop := -B ≤ x.toInt ∧ x.toInt ≤ B
theorem bd_n {n : Nat} {B : Int} (h : n < 2 ^ 31) (hb : (n : Int) ≤ B) : bd (nI n) B := by
  unfold bd
  rw [nI_toInt h]
  omega
theorem bd_add {x y : Int32} {a b : Int} (hx : bd x a) (hy : bd y b) (h : a + b < 2147483648) : bd (x + y) (a + b) ∧ (x + y).toInt = x.toInt + y.toInt := by
  unfold bd at *
  have e : (x + y).toInt = x.toInt + y.toInt := by
    rw [Int32.toInt_add]
    refine Int.bmod_eq_of_le ?_ ?_ <;> omega
  rw [e]
  exact ⟨by omega, rfl⟩
theorem bd_sub {x y : Int32} {a b : Int} (hx : bd x a) (hy : bd y b) (h : a + b < 2147483648) : bd (x - y) (a + b) ∧ (x - y).toInt = x.toInt - y.toInt := by
  unfold bd at *
  have e : (x - y).toInt = x.toInt - y.toInt := by
    rw [Int32.toInt_sub]
    refine Int.bmod_eq_of_le ?_ ?_ <;> omega
  rw [e]
  exact ⟨by omega, rfl⟩
theorem bd_div {x : Int32} {k : Nat} {a : Int} (hx : bd x a) (h0 : 0 < k) (hk : k < 1000) (h : a < 2147483648) : bd (x / nI k) a := by
  unfold bd at *
  have e : (x / nI k).toInt = x.toInt.tdiv (k : Int) := by
    rw [Int32.toInt_div, nI_toInt (by omega)]
    have b1 : (x.toInt.tdiv (k : Int)).natAbs ≤ x.toInt.natAbs := by
      rw [Int.natAbs_tdiv]
      exact Nat.div_le_self _ _
    refine Int.bmod_eq_of_le ?_ ?_ <;> omega
  have b1 : (x.toInt.tdiv (k : Int)).natAbs ≤ x.toInt.natAbs := by
    rw [Int.natAbs_tdiv]
    exact Nat.div_le_self _ _
  rw [e]
  omega
theorem bd_lt {x : Int32} {B : Int} (h : bd x B) (hB : B < 100000) : ¬ x < -100000 ∧ x < 100000 := by
  unfold bd at h
  have z1 : (100000 : Int32).toInt = 100000 := rfl
  have z2 : (-100000 : Int32).toInt = -100000 := rfl
  refine ⟨fun q => ?_, ?_⟩
  · have := Int32.lt_iff_toInt_lt.mp q
    omega
  · rw [Int32.lt_iff_toInt_lt]
    omega
theorem bd_z {x : Int32} {B : Int} (h : bd x B) (hB : 0 ≤ B) : bd (if x ≤ 0 then 0 else x) B := by
  split
  · unfold bd
    have z : (0 : Int32).toInt = 0 := rfl
    omega
  · exact h
theorem bd_lk {s : Nat → Int32} (hg : gd_b s) {o : Nat} (ho : o < 24) : bd (f_l0 s o) 60 ∧ bd (f_late s o) 3000 ∧ bd (f_l1 s o) 3060 ∧ bd (f_l2 s o) 3039 := by
  obtain ⟨a, ha, ea⟩ : bz_lt (s (312 + 12 * o + 4)) 61 := gb_o hg ho 4 (by decide)
  obtain ⟨b, hb, eb⟩ : bz_lt (s (312 + 12 * o + 2)) 1440 := gb_o hg ho 2 (by decide)
  obtain ⟨c, hc, ec⟩ : bz_lt (s (312 + 12 * o + 3)) 121 := gb_o hg ho 3 (by decide)
  obtain ⟨e, he, ee⟩ : bz_lt (s (312 + 12 * o + 8)) 1440 := gb_o hg ho 8 (by decide)
  obtain ⟨f, hf, ef⟩ : bz_lt (s (312 + 12 * o + 7)) 1440 := gb_o hg ho 7 (by decide)
  obtain ⟨y, hy, ey⟩ := gb_rdy hg ho
  have l0 : bd (f_l0 s o) 60 := by
    unfold f_l0
    rw [ea]
    exact bd_div (k := 5) (bd_n (by omega) (by omega)) (by decide) (by decide) (by decide)
  have lt : bd (f_late s o) 3000 := by
    unfold f_late f_lateBy
    rw [eb, ec, ee]
    have := (bd_sub (bd_sub (bd_n (n := e) (B := 1439) (by omega) (by omega)) (bd_n (n := b) (B := 1440) (by omega) (by omega)) (by decide)).1 (bd_n (n := c) (B := 121) (by omega) (by omega)) (by decide)).1
    exact bd_z this (by decide)
  refine ⟨l0, lt, ?_, ?_⟩
  · unfold f_l1
    exact bd_z (bd_sub (bd_div (k := 5) lt (by decide) (by decide) (by decide)) l0 (by decide)).1 (by decide)
  · unfold f_l2
    rw [ef, ey]
    exact bd_div (k := 4) (bd_sub (bd_n (n := f) (B := 1439) (by omega) (by omega)) (bd_n (n := y) (B := 1600) (by omega) (by omega)) (by decide)).1 (by decide) (by decide) (by decide)
theorem f_50_x (x : Int32) (h : ¬ x < -100000) (h2 : x < 100000) : (if 0 < 50 - x then 50 - x else 0) = f_50 x := by
  unfold f_50
  have e : (50 - x).toInt = 50 - x.toInt := by
    rw [Int32.toInt_sub]
    have a1 := Int32.lt_iff_toInt_lt.mp h2
    have a2 : ¬ x.toInt < (-100000 : Int32).toInt := fun q => h (Int32.lt_iff_toInt_lt.mpr q)
    have z1 : (100000 : Int32).toInt = 100000 := rfl
    have z2 : (-100000 : Int32).toInt = -100000 := rfl
    have z3 : (50 : Int32).toInt = 50 := rfl
    rw [z3]
    refine Int.bmod_eq_of_le ?_ ?_ <;> omega
  have z0 : (0 : Int32).toInt = 0 := rfl
  have z5 : (50 : Int32).toInt = 50 := rfl
  by_cases q : 50 ≤ x
  · rw [if_pos q, if_neg]
    intro q2
    have := Int32.lt_iff_toInt_lt.mp q2
    have := Int32.le_iff_toInt_le.mp q
    omega
  · rw [if_neg q, if_pos]
    rw [Int32.lt_iff_toInt_lt]
    have : ¬ (50 : Int32).toInt ≤ x.toInt := fun z => q (Int32.le_iff_toInt_le.mpr z)
    omega
theorem f_rt_x {s : Nat → Int32} (hg : gd_b s) {o : Nat} (ho : o < 24) : (if 0 < 50 - (f_l0 s o + f_l1 s o + f_l2 s o) then 50 - (f_l0 s o + f_l1 s o + f_l2 s o) else 0) = f_rat s o ∧ (if 0 < 50 - f_l2 s o then 50 - f_l2 s o else 0) = f_50 (f_l2 s o) := by
  obtain ⟨h0, h1, h2, h3⟩ := bd_lk hg ho
  have b := (bd_add (bd_add h0 h2 (by decide)).1 h3 (by decide)).1
  obtain ⟨q1, q2⟩ := bd_lt b (by decide)
  obtain ⟨q3, q4⟩ := bd_lt h3 (by decide)
  exact ⟨f_50_x _ q1 q2, f_50_x _ q3 q4⟩
section HND
variable {G : bz_G} {l : Launch} {d : Nat} {E : Nat × (Nat → Int32)} {S : bz_S} {s : Nat → Int32}
theorem X_lackR {P : Int32 → bz_H → Prop} {o : Nat} {x : Int32} (ho : o < 24) (hP : P (if x = 0 then S.1 (24 + o) 5 / 5 else if x = 1 then (if S.1 (24 + o) 11 / 5 - S.1 (24 + o) 5 / 5 ≤ 0 then 0 else S.1 (24 + o) 11 / 5 - S.1 (24 + o) 5 / 5) else (S.1 (24 + o) 9 - S.1 (24 + o) 6) / 4) (bz_hp E S)) : bz_cI G l (d + 1) kX2_lackBy [.inr (some (24 + o)), .inl x] (bz_hp E S) 0 0 P := by
  refine m_X2_lackBy _ _ _ ?_
  unfold w_X2_lackBy_0
  repeat (first | ((with_reducible apply ap_rc); rfl) | ((with_reducible apply ap_nn)) | ((with_reducible apply ap_rR); rfl) | ((with_reducible apply M_ofOrder); rfl; (exact bz_lit _); omega; (first | omega | decide)) | ((with_reducible apply M_ofRider); rfl; (exact bz_lit _); omega; (first | omega | decide)) | ((with_reducible apply ap_rI); exact kd_ord _ (by omega) _ (by decide)) | ((with_reducible apply ap_wI); exact kd_ord _ (by omega) _ (by decide)) | ((with_reducible apply ap_rI); exact kd_rid _ (by omega) _ (by decide)) | ((with_reducible apply ap_wI); exact kd_rid _ (by omega) _ (by decide)) | ((with_reducible apply ap_rc); exact (kd_clO _ (by omega)).1) | ((with_reducible apply ap_rc); exact (kd_clR _ (by omega)).1) | ((with_reducible apply ap_rc); exact (kd_clR _ (by omega)).2.2.1) | ((with_reducible apply ap_rR); exact (kd_ridA _ (by omega)).1) | ((with_reducible apply ap_rN); rfl) | ((with_reducible apply M_in)) | ((with_reducible apply X_isWithin)) | ((with_reducible apply ap_rI); rfl) | ((with_reducible apply ap_wI); rfl) | ((with_reducible apply ap_iA); rfl; (try simp only [bz_lit, pk_mul, nI_add]); rfl; omega) | ((with_reducible apply ap_iW); rfl; (try simp only [bz_lit, pk_mul, nI_add]); rfl; omega))
  refine ⟨fun c => ?_, fun c => ⟨fun c1 => ?_, fun c1 => ?_⟩⟩
  · rw [if_pos c] at hP
    exact ⟨_, rfl, hP⟩
  · rw [if_neg c, if_pos c1] at hP
    repeat (first | ((with_reducible apply ap_rc); rfl) | ((with_reducible apply ap_nn)) | ((with_reducible apply ap_rR); rfl) | ((with_reducible apply M_ofOrder); rfl; (exact bz_lit _); omega; (first | omega | decide)) | ((with_reducible apply M_ofRider); rfl; (exact bz_lit _); omega; (first | omega | decide)) | ((with_reducible apply ap_rI); exact kd_ord _ (by omega) _ (by decide)) | ((with_reducible apply ap_wI); exact kd_ord _ (by omega) _ (by decide)) | ((with_reducible apply ap_rI); exact kd_rid _ (by omega) _ (by decide)) | ((with_reducible apply ap_wI); exact kd_rid _ (by omega) _ (by decide)) | ((with_reducible apply ap_rc); exact (kd_clO _ (by omega)).1) | ((with_reducible apply ap_rc); exact (kd_clR _ (by omega)).1) | ((with_reducible apply ap_rc); exact (kd_clR _ (by omega)).2.2.1) | ((with_reducible apply ap_rR); exact (kd_ridA _ (by omega)).1) | ((with_reducible apply ap_rN); rfl) | ((with_reducible apply M_in)) | ((with_reducible apply X_isWithin)) | ((with_reducible apply ap_rI); rfl) | ((with_reducible apply ap_wI); rfl) | ((with_reducible apply ap_iA); rfl; (try simp only [bz_lit, pk_mul, nI_add]); rfl; omega) | ((with_reducible apply ap_iW); rfl; (try simp only [bz_lit, pk_mul, nI_add]); rfl; omega))
    rw [mx_0]
    exact ⟨_, rfl, hP⟩
  · rw [if_neg c, if_neg c1] at hP
    repeat (first | ((with_reducible apply ap_rc); rfl) | ((with_reducible apply ap_nn)) | ((with_reducible apply ap_rR); rfl) | ((with_reducible apply M_ofOrder); rfl; (exact bz_lit _); omega; (first | omega | decide)) | ((with_reducible apply M_ofRider); rfl; (exact bz_lit _); omega; (first | omega | decide)) | ((with_reducible apply ap_rI); exact kd_ord _ (by omega) _ (by decide)) | ((with_reducible apply ap_wI); exact kd_ord _ (by omega) _ (by decide)) | ((with_reducible apply ap_rI); exact kd_rid _ (by omega) _ (by decide)) | ((with_reducible apply ap_wI); exact kd_rid _ (by omega) _ (by decide)) | ((with_reducible apply ap_rc); exact (kd_clO _ (by omega)).1) | ((with_reducible apply ap_rc); exact (kd_clR _ (by omega)).1) | ((with_reducible apply ap_rc); exact (kd_clR _ (by omega)).2.2.1) | ((with_reducible apply ap_rR); exact (kd_ridA _ (by omega)).1) | ((with_reducible apply ap_rN); rfl) | ((with_reducible apply M_in)) | ((with_reducible apply X_isWithin)) | ((with_reducible apply ap_rI); rfl) | ((with_reducible apply ap_wI); rfl) | ((with_reducible apply ap_iA); rfl; (try simp only [bz_lit, pk_mul, nI_add]); rfl; omega) | ((with_reducible apply ap_iW); rfl; (try simp only [bz_lit, pk_mul, nI_add]); rfl; omega))
    exact ⟨_, rfl, hP⟩
theorem X_lateR {P : Int32 → bz_H → Prop} {o : Nat} {x : Int32} (ho : o < 24) (hd : S.1 (24 + o) 4 = s (312 + 12 * o + 2) + s (312 + 12 * o + 3)) (hP : P (f_lateBy s o x) (bz_hp E S)) : bz_cI G l (d + 1) kX2_lateAt [.inr (some (24 + o)), .inl x] (bz_hp E S) 0 0 P := by
  refine m_X2_lateAt _ _ _ ?_
  unfold w_X2_lateAt_0
  repeat (first | ((with_reducible apply ap_rc); rfl) | ((with_reducible apply ap_nn)) | ((with_reducible apply ap_rR); rfl) | ((with_reducible apply M_ofOrder); rfl; (exact bz_lit _); omega; (first | omega | decide)) | ((with_reducible apply M_ofRider); rfl; (exact bz_lit _); omega; (first | omega | decide)) | ((with_reducible apply ap_rI); exact kd_ord _ (by omega) _ (by decide)) | ((with_reducible apply ap_wI); exact kd_ord _ (by omega) _ (by decide)) | ((with_reducible apply ap_rI); exact kd_rid _ (by omega) _ (by decide)) | ((with_reducible apply ap_wI); exact kd_rid _ (by omega) _ (by decide)) | ((with_reducible apply ap_rc); exact (kd_clO _ (by omega)).1) | ((with_reducible apply ap_rc); exact (kd_clR _ (by omega)).1) | ((with_reducible apply ap_rc); exact (kd_clR _ (by omega)).2.2.1) | ((with_reducible apply ap_rR); exact (kd_ridA _ (by omega)).1) | ((with_reducible apply ap_rN); rfl) | ((with_reducible apply M_in)) | ((with_reducible apply X_isWithin)) | ((with_reducible apply ap_rI); rfl) | ((with_reducible apply ap_wI); rfl) | ((with_reducible apply ap_iA); rfl; (try simp only [bz_lit, pk_mul, nI_add]); rfl; omega) | ((with_reducible apply ap_iW); rfl; (try simp only [bz_lit, pk_mul, nI_add]); rfl; omega))
  rw [hd, mx_0, sub_2]
  exact ⟨_, rfl, hP⟩
theorem X_becomeGiven {P : bz_H → Prop} {o r : Nat} {p e y : Int32} (ho : o < 24) (hpl : o < (s 2).toNatClampNeg) (hr : r < 12) (hg : gd_b s) (hp : bz_lt p 1440) (he : bz_lt e 1440) (hy : bz_lt y 10000) (hw : wo (wv S.1 6) s) (hP : ∀ S', fr (fun c _ => c = 24 + o) S S' → wo (wv S'.1 6) (f_bg0 s r o p e y) → S'.1 (24 + o) 10 = e → P (bz_hp E S')) : bz_cV G l (d + 2) kX2_becomeGiven [.inr (some (24 + o)), .inl (nI r), .inl p, .inl e, .inl y] (bz_hp E S) 0 0 P := by
  refine m_X2_becomeGiven _ _ _ _ _ _ ?_
  unfold w_X2_becomeGiven_0
  obtain ⟨hs, hd, hww, hwr⟩ := hw
  have k4 := dv_due hd ho
  obtain ⟨k1, k6, -, k14⟩ := dv_pl hd ho hpl
  have k5 := sy_o hs ho 4 5 (by decide) rfl
  have hg' : gd_b (f_bg0 s r o p e y) := gd_b_bg0 hg hr ho hp he hy
  have u : ∀ i, ¬ (312 + 12 * o + 5 ≤ i ∧ i ≤ 312 + 12 * o + 9) → f_bg0 s r o p e y i = s i := fun i a => by
    unfold f_bg0
    simp (disch := omega) only [pk_un]
  have u7 : f_bg0 s r o p e y (312 + 12 * o + 7) = p := by
    unfold f_bg0
    simp (disch := omega) only [pk_us, pk_un]
  have u8 : f_bg0 s r o p e y (312 + 12 * o + 8) = e := by
    unfold f_bg0
    simp (disch := omega) only [pk_us, pk_un]
  have hrd : f_rdy (f_bg0 s r o p e y) o = f_rdy s o := f_rdy_c (gb_kn hg ho) (u _ (by omega)) (u _ (by omega)) (u _ (by omega)) (fun i hi => u i (by omega))
  have hka : f_ka (f_bg0 s r o p e y) o = f_ka s o := f_ka_c (gb_kn hg ho) (u _ (by omega)) (fun i hi => u i (by omega))
  have hlt : f_late (f_bg0 s r o p e y) o = f_lateBy s o e := by
    unfold f_late f_lateBy
    rw [u8, u _ (by omega), u _ (by omega)]
  have hl0 : f_l0 (f_bg0 s r o p e y) o = S.1 (24 + o) 5 / 5 := by
    unfold f_l0
    rw [u _ (by omega), k5]
  have hl1 : f_l1 (f_bg0 s r o p e y) o = if f_lateBy s o e / 5 - S.1 (24 + o) 5 / 5 ≤ 0 then 0 else f_lateBy s o e / 5 - S.1 (24 + o) 5 / 5 := by
    unfold f_l1
    rw [hlt, hl0]
  have hl2 : f_l2 (f_bg0 s r o p e y) o = (p - S.1 (24 + o) 6) / 4 := by
    unfold f_l2
    rw [u7, hrd, k6]
  have hrt := (f_rt_x hg' ho).1
  repeat (first | ((with_reducible apply ap_rc); rfl) | ((with_reducible apply ap_nn)) | ((with_reducible apply ap_rR); rfl) | ((with_reducible apply M_ofOrder); rfl; (exact bz_lit _); omega; (first | omega | decide)) | ((with_reducible apply M_ofRider); rfl; (exact bz_lit _); omega; (first | omega | decide)) | ((with_reducible apply ap_rI); exact kd_ord _ (by omega) _ (by decide)) | ((with_reducible apply ap_wI); exact kd_ord _ (by omega) _ (by decide)) | ((with_reducible apply ap_rI); exact kd_rid _ (by omega) _ (by decide)) | ((with_reducible apply ap_wI); exact kd_rid _ (by omega) _ (by decide)) | ((with_reducible apply ap_rc); exact (kd_clO _ (by omega)).1) | ((with_reducible apply ap_rc); exact (kd_clR _ (by omega)).1) | ((with_reducible apply ap_rc); exact (kd_clR _ (by omega)).2.2.1) | ((with_reducible apply ap_rR); exact (kd_ridA _ (by omega)).1) | ((with_reducible apply ap_rN); rfl) | ((with_reducible apply M_in)) | ((with_reducible apply X_isWithin)) | ((with_reducible apply ap_rI); rfl) | ((with_reducible apply ap_wI); rfl) | ((with_reducible apply ap_iA); rfl; (try simp only [bz_lit, pk_mul, nI_add]); rfl; omega) | ((with_reducible apply ap_iW); rfl; (try simp only [bz_lit, pk_mul, nI_add]); rfl; omega))
  refine X_lateR (s := s) ho (by dsimp only; simp (disch := omega) only [bz_u_ne]; exact k4) ?_
  repeat (first | ((with_reducible apply ap_rc); rfl) | ((with_reducible apply ap_nn)) | ((with_reducible apply ap_rR); rfl) | ((with_reducible apply M_ofOrder); rfl; (exact bz_lit _); omega; (first | omega | decide)) | ((with_reducible apply M_ofRider); rfl; (exact bz_lit _); omega; (first | omega | decide)) | ((with_reducible apply ap_rI); exact kd_ord _ (by omega) _ (by decide)) | ((with_reducible apply ap_wI); exact kd_ord _ (by omega) _ (by decide)) | ((with_reducible apply ap_rI); exact kd_rid _ (by omega) _ (by decide)) | ((with_reducible apply ap_wI); exact kd_rid _ (by omega) _ (by decide)) | ((with_reducible apply ap_rc); exact (kd_clO _ (by omega)).1) | ((with_reducible apply ap_rc); exact (kd_clR _ (by omega)).1) | ((with_reducible apply ap_rc); exact (kd_clR _ (by omega)).2.2.1) | ((with_reducible apply ap_rR); exact (kd_ridA _ (by omega)).1) | ((with_reducible apply ap_rN); rfl) | ((with_reducible apply M_in)) | ((with_reducible apply X_isWithin)) | ((with_reducible apply ap_rI); rfl) | ((with_reducible apply ap_wI); rfl) | ((with_reducible apply ap_iA); rfl; (try simp only [bz_lit, pk_mul, nI_add]); rfl; omega) | ((with_reducible apply ap_iW); rfl; (try simp only [bz_lit, pk_mul, nI_add]); rfl; omega))
  refine X_lackR ho ?_
  repeat (first | ((with_reducible apply ap_rc); rfl) | ((with_reducible apply ap_nn)) | ((with_reducible apply ap_rR); rfl) | ((with_reducible apply M_ofOrder); rfl; (exact bz_lit _); omega; (first | omega | decide)) | ((with_reducible apply M_ofRider); rfl; (exact bz_lit _); omega; (first | omega | decide)) | ((with_reducible apply ap_rI); exact kd_ord _ (by omega) _ (by decide)) | ((with_reducible apply ap_wI); exact kd_ord _ (by omega) _ (by decide)) | ((with_reducible apply ap_rI); exact kd_rid _ (by omega) _ (by decide)) | ((with_reducible apply ap_wI); exact kd_rid _ (by omega) _ (by decide)) | ((with_reducible apply ap_rc); exact (kd_clO _ (by omega)).1) | ((with_reducible apply ap_rc); exact (kd_clR _ (by omega)).1) | ((with_reducible apply ap_rc); exact (kd_clR _ (by omega)).2.2.1) | ((with_reducible apply ap_rR); exact (kd_ridA _ (by omega)).1) | ((with_reducible apply ap_rN); rfl) | ((with_reducible apply M_in)) | ((with_reducible apply X_isWithin)) | ((with_reducible apply ap_rI); rfl) | ((with_reducible apply ap_wI); rfl) | ((with_reducible apply ap_iA); rfl; (try simp only [bz_lit, pk_mul, nI_add]); rfl; omega) | ((with_reducible apply ap_iW); rfl; (try simp only [bz_lit, pk_mul, nI_add]); rfl; omega))
  refine X_lackR ho ?_
  repeat (first | ((with_reducible apply ap_rc); rfl) | ((with_reducible apply ap_nn)) | ((with_reducible apply ap_rR); rfl) | ((with_reducible apply M_ofOrder); rfl; (exact bz_lit _); omega; (first | omega | decide)) | ((with_reducible apply M_ofRider); rfl; (exact bz_lit _); omega; (first | omega | decide)) | ((with_reducible apply ap_rI); exact kd_ord _ (by omega) _ (by decide)) | ((with_reducible apply ap_wI); exact kd_ord _ (by omega) _ (by decide)) | ((with_reducible apply ap_rI); exact kd_rid _ (by omega) _ (by decide)) | ((with_reducible apply ap_wI); exact kd_rid _ (by omega) _ (by decide)) | ((with_reducible apply ap_rc); exact (kd_clO _ (by omega)).1) | ((with_reducible apply ap_rc); exact (kd_clR _ (by omega)).1) | ((with_reducible apply ap_rc); exact (kd_clR _ (by omega)).2.2.1) | ((with_reducible apply ap_rR); exact (kd_ridA _ (by omega)).1) | ((with_reducible apply ap_rN); rfl) | ((with_reducible apply M_in)) | ((with_reducible apply X_isWithin)) | ((with_reducible apply ap_rI); rfl) | ((with_reducible apply ap_wI); rfl) | ((with_reducible apply ap_iA); rfl; (try simp only [bz_lit, pk_mul, nI_add]); rfl; omega) | ((with_reducible apply ap_iW); rfl; (try simp only [bz_lit, pk_mul, nI_add]); rfl; omega))
  refine X_lackR ho ?_
  repeat (first | ((with_reducible apply ap_rc); rfl) | ((with_reducible apply ap_nn)) | ((with_reducible apply ap_rR); rfl) | ((with_reducible apply M_ofOrder); rfl; (exact bz_lit _); omega; (first | omega | decide)) | ((with_reducible apply M_ofRider); rfl; (exact bz_lit _); omega; (first | omega | decide)) | ((with_reducible apply ap_rI); exact kd_ord _ (by omega) _ (by decide)) | ((with_reducible apply ap_wI); exact kd_ord _ (by omega) _ (by decide)) | ((with_reducible apply ap_rI); exact kd_rid _ (by omega) _ (by decide)) | ((with_reducible apply ap_wI); exact kd_rid _ (by omega) _ (by decide)) | ((with_reducible apply ap_rc); exact (kd_clO _ (by omega)).1) | ((with_reducible apply ap_rc); exact (kd_clR _ (by omega)).1) | ((with_reducible apply ap_rc); exact (kd_clR _ (by omega)).2.2.1) | ((with_reducible apply ap_rR); exact (kd_ridA _ (by omega)).1) | ((with_reducible apply ap_rN); rfl) | ((with_reducible apply M_in)) | ((with_reducible apply X_isWithin)) | ((with_reducible apply ap_rI); rfl) | ((with_reducible apply ap_wI); rfl) | ((with_reducible apply ap_iA); rfl; (try simp only [bz_lit, pk_mul, nI_add]); rfl; omega) | ((with_reducible apply ap_iW); rfl; (try simp only [bz_lit, pk_mul, nI_add]); rfl; omega))
  refine ⟨rfl, ?_⟩
  simp (disch := omega) only [bz_u_same, bz_u_ne]
  simp only [if_true, if_neg (by decide : ¬ (1 : Int32) = 0), if_neg (by decide : ¬ (2 : Int32) = 0), if_neg (by decide : ¬ (2 : Int32) = 1)]
  rw [← hl1, ← hl2, ← hl0, hrt]
  refine hP _ (fr_v (fr_v (fr_v (fr_v (fr_v (fr_v (fr_v (fr_0 _ S) (by first | omega | (dsimp only; omega))) (by first | omega | (dsimp only; omega))) (by first | omega | (dsimp only; omega))) (by first | omega | (dsimp only; omega))) (by first | omega | (dsimp only; omega))) (by first | omega | (dsimp only; omega))) (by first | omega | (dsimp only; omega))) ⟨?_, ?_, ?_, ?_⟩ ?_
  · unfold f_bg0
    exact sy_xx (a := 18 + o) (sy_xx (a := 18 + o) (sy_uu (a := 18 + o) (sy_uu (a := 18 + o) (sy_uu (a := 18 + o) (sy_uu (a := 18 + o) (sy_uu (a := 18 + o) hs (by omega) (tc_bo o ho 5 (by decide)) (by omega)) (by omega) (tc_bo o ho 6 (by decide)) (by omega)) (by omega) (tc_bo o ho 7 (by decide)) (by omega)) (by omega) (tc_bo o ho 8 (by decide)) (by omega)) (by omega) (tc_bo o ho 9 (by decide)) (by omega)) (sy_xi (tc_ox o ho 11 (by omega))) (by omega)) (sy_xi (tc_ox o ho 12 (by omega))) (by omega)
  · intro q hq
    by_cases hqo : q = o
    · subst hqo
      unfold wv
      rw [show 6 + (18 + q) = 24 + q by omega]
      dsimp only
      simp (disch := omega) only [bz_u_same, bz_u_ne]
      rw [u _ (by omega), u _ (by omega), hka, hrd, hlt]
      exact ⟨k4, fun _ => ⟨k1, k6, fun _ => ⟨by first | rfl | trivial, by first | rfl | trivial⟩, fun r' hr' => by rw [u _ (by omega)]; exact k14 r' hr'⟩⟩
    · refine dv_oc (w := wv S.1 6) hg hd hq (fun k hk => ?_) (u _ (by omega)) (fun i hi => u i (by omega)) (fun k hk => u _ (by omega)) (fun r' hr' => u _ (by omega))
      unfold wv
      dsimp only
      simp (disch := omega) only [bz_u_ne]
  · intro a b ha hb
    unfold wv
    dsimp only
    rw [f_wy_c (s := s) (fun i hi => u i (by omega))]
    simp (disch := omega) only [bz_u_ne]
    exact hww a b ha hb
  · intro r' hr'
    rw [u 3 (by omega)] at hr'
    have := hwr r' hr'
    have hq3 := (n_lt hg).2.1
    unfold wv at this ⊢
    dsimp only
    simp (disch := omega) only [bz_u_ne]
    rw [u _ (by omega)]
    exact this
  · dsimp only
    simp (disch := omega) only [bz_u_same, bz_u_ne]
end HND
