/-! rows that change: what stays, what a gift does (three rows of counting begun from the kit's COUNTS) -/
theorem fb_ct_cong {p q : Nat → Bool} : ∀ {n : Nat}, (∀ k, k < n → p k = q k) → fb_ct p n = fb_ct q n
  | 0, _ => rfl
  | n + 1, h => by
    rw [fb_ct_succ, fb_ct_succ, fb_ct_cong (fun k hk => h k (by omega)), h n (by omega)]
/-- one place changed -/
theorem fb_ct_out (p : Nat → Bool) (b : Bool) {i n : Nat} (h : n ≤ i) : fb_ct (fun k => if k = i then b else p k) n = fb_ct p n :=
  fb_ct_cong fun k hk => if_neg (by omega)
theorem fb_ct_upd (p : Nat → Bool) (b : Bool) {i : Nat} : ∀ {n : Nat}, i < n → fb_ct (fun k => if k = i then b else p k) n + (if p i then 1 else 0) = fb_ct p n + (if b then 1 else 0)
  | 0, h => absurd h (Nat.not_lt_zero i)
  | n + 1, h => by
    rw [fb_ct_succ, fb_ct_succ]
    rcases Nat.lt_or_ge i n with q | q
    · have := fb_ct_upd p b q
      have e : (if n = i then b else p n) = p n := if_neg (by omega)
      rw [e]
      omega
    · have e : i = n := by omega
      subst e
      rw [fb_ct_out p b (Nat.le_refl _)]
      simp only [if_true]
      omega
theorem f_d_c {s s' : Nat → Int32} (e : ∀ i, (12 ≤ i ∧ i < 28) ∨ (44 ≤ i ∧ i < 300) → s' i = s i) : f_d s' = f_d s := by
  funext a b
  unfold f_d
  by_cases h : a = b
  · rw [if_pos h, if_pos h]
  · rw [if_neg h, if_neg h]
    by_cases h2 : 16 ≤ a ∨ 16 ≤ b
    · rw [if_pos h2, if_pos h2]
    · rw [if_neg h2, if_neg h2, e (44 + 16 * a + b) (by omega), e (12 + a) (by omega), e (12 + b) (by omega)]
theorem f_wy_c {s s' : Nat → Int32} (e : ∀ i, (12 ≤ i ∧ i < 28) ∨ (44 ≤ i ∧ i < 300) → s' i = s i) (k a b : Nat) : f_wy s' k a b = f_wy s k a b := by
  unfold f_wy
  rw [f_d_c e]
theorem fd_s {S S' : bz_S} (h : fd S) (h1 : S'.1 186 5 = S.1 186 5) (h2 : S'.1 190 = S.1 190) (e : ∀ i, (12 ≤ i ∧ i < 28) ∨ (44 ≤ i ∧ i < 300) → S'.1 187 i = S.1 187 i) : fd S' := by
  rcases h with h | ⟨h, h3⟩
  · exact Or.inl (h1.trans h)
  · refine Or.inr ⟨by rw [h1]; exact h, fun j hj => ?_⟩
    rw [h2, h3 j hj]
    unfold f_tb
    rw [f_wy_c e]
/-- order slots that the class reckons with -/
def dR (i : Nat) : Prop := i = 2 ∨ i = 3 ∨ (12 ≤ i ∧ i < 28) ∨ (44 ≤ i ∧ i < 312) ∨ (312 ≤ i ∧ i < 600 ∧ ((i - 312) % 12 = 0 ∨ (i - 312) % 12 = 2 ∨ (i - 312) % 12 = 3 ∨ (i - 312) % 12 = 4 ∨ (i - 312) % 12 = 5 ∨ (i - 312) % 12 = 7 ∨ (i - 312) % 12 = 8)) ∨ (696 ≤ i ∧ i < 708)
theorem f_ka_c {s s' : Nat → Int32} {o : Nat} (hk : (s (312 + 12 * o + 0)).toNatClampNeg < 6) (e0 : s' (312 + 12 * o + 0) = s (312 + 12 * o + 0)) (e : ∀ i, 300 ≤ i ∧ i < 312 → s' i = s i) : f_ka s' o = f_ka s o := by
  unfold f_ka
  rw [e0, e _ (by omega)]
theorem f_rdy_c {s s' : Nat → Int32} {o : Nat} (hk : (s (312 + 12 * o + 0)).toNatClampNeg < 6) (e0 : s' (312 + 12 * o + 0) = s (312 + 12 * o + 0)) (e2 : s' (312 + 12 * o + 2) = s (312 + 12 * o + 2)) (e4 : s' (312 + 12 * o + 4) = s (312 + 12 * o + 4)) (e : ∀ i, 300 ≤ i ∧ i < 312 → s' i = s i) : f_rdy s' o = f_rdy s o := by
  unfold f_rdy
  rw [e0, e2, e4, e _ (by omega)]
theorem f_late_c {s s' : Nat → Int32} {o : Nat} (e2 : s' (312 + 12 * o + 2) = s (312 + 12 * o + 2)) (e3 : s' (312 + 12 * o + 3) = s (312 + 12 * o + 3)) (e8 : s' (312 + 12 * o + 8) = s (312 + 12 * o + 8)) : f_late s' o = f_late s o := by
  unfold f_late f_lateBy
  rw [e2, e3, e8]
theorem f_rat_c {s s' : Nat → Int32} {o : Nat} (hr : f_rdy s' o = f_rdy s o) (hl : f_late s' o = f_late s o) (e4 : s' (312 + 12 * o + 4) = s (312 + 12 * o + 4)) (e7 : s' (312 + 12 * o + 7) = s (312 + 12 * o + 7)) : f_rat s' o = f_rat s o := by
  unfold f_rat f_l1 f_l2 f_l0
  rw [hr, hl, e4, e7]
theorem gb_kn {s : Nat → Int32} (h : gd_b s) {o : Nat} (ho : o < 24) : (s (312 + 12 * o + 0)).toNatClampNeg < 6 := by
  obtain ⟨k, hk, e⟩ : bz_lt (s (312 + 12 * o + 0)) 6 := gb_o h ho 0 (by decide)
  rw [e, nI_clamp (by omega)]
  exact hk
/-- the class's own numbers where nothing that they rest on has changed -/
theorem dv_oc {w w' : Nat → Nat → Int32} {s s' : Nat → Int32} (hg : gd_b s) (h : dv_o w s) {o : Nat} (ho : o < 24) (ew : ∀ k, (k = 1 ∨ k = 4 ∨ k = 6 ∨ k = 11 ∨ k = 12 ∨ k = 14) → w' (18 + o) k = w (18 + o) k) (e2 : s' 2 = s 2) (ek : ∀ i, 300 ≤ i ∧ i < 312 → s' i = s i) (eo : ∀ k, (k = 0 ∨ k = 2 ∨ k = 3 ∨ k = 4 ∨ k = 5 ∨ k = 7 ∨ k = 8) → s' (312 + 12 * o + k) = s (312 + 12 * o + k)) (er : ∀ r, r < 12 → s' (696 + r) = s (696 + r)) : w' (18 + o) 4 = s' (312 + 12 * o + 2) + s' (312 + 12 * o + 3) ∧ (o < (s' 2).toNatClampNeg → w' (18 + o) 1 = f_ka s' o ∧ w' (18 + o) 6 = f_rdy s' o ∧ (s' (312 + 12 * o + 5) = 1 → w' (18 + o) 11 = f_late s' o ∧ w' (18 + o) 12 = f_rat s' o) ∧ ∀ r, r < 12 → (w' (18 + o) 14 >>> (nI r &&& 31)) &&& 1 = (s' (696 + r) >>> (nI o &&& 31)) &&& 1) := by
  obtain ⟨h1, h2⟩ := h o ho
  have hk := gb_kn hg ho
  have ka := f_ka_c hk (eo 0 (by omega)) ek
  have rd := f_rdy_c hk (eo 0 (by omega)) (eo 2 (by omega)) (eo 4 (by omega)) ek
  have lt := f_late_c (eo 2 (by omega)) (eo 3 (by omega)) (eo 8 (by omega))
  have rt := f_rat_c rd lt (eo 4 (by omega)) (eo 7 (by omega))
  rw [ew 4 (by omega), ew 1 (by omega), ew 6 (by omega), ew 11 (by omega), ew 12 (by omega), ew 14 (by omega), eo 2 (by omega), eo 3 (by omega), eo 5 (by omega), e2, ka, rd, lt, rt]
  refine ⟨h1, fun hn => ?_⟩
  obtain ⟨q1, q2, q3, q4⟩ := h2 hn
  exact ⟨q1, q2, q3, fun r hr => by rw [er r hr]; exact q4 r hr⟩
theorem wo_n {w w' : Nat → Nat → Int32} {s s' : Nat → Int32} (hg : gd_b s) (h : wo w s) (hs : sy w' s') (ew : ∀ a k, a = 5 ∨ (18 ≤ a ∧ a < 42 ∧ (k = 1 ∨ k = 4 ∨ k = 6 ∨ k = 11 ∨ k = 12 ∨ k = 14)) ∨ (42 ≤ a ∧ a < 78 ∧ k = 7) → w' a k = w a k) (es : ∀ i, dR i → s' i = s i) : wo w' s' := by
  obtain ⟨-, h2, h3, h4⟩ := h
  refine ⟨hs, fun o ho => ?_, fun a b ha hb => ?_, fun r hr => ?_⟩
  · exact dv_oc hg h2 ho (fun k hk => ew _ _ (by omega)) (es 2 (by unfold dR; omega)) (fun i hi => es i (by unfold dR; omega)) (fun k hk => es _ (by unfold dR; omega)) (fun r hr => es _ (by unfold dR; omega))
  · rw [ew 5 _ (by omega), f_wy_c (fun i hi => es i (by unfold dR; omega))]
    exact h3 a b ha hb
  · rw [es 3 (by unfold dR; omega)] at hr
    have hr12 : r < 12 := by
      obtain ⟨n, hn, en⟩ : bz_lt (s 3) 13 := hg 3 (by decide) (by decide) (by decide)
      rw [en, nI_clamp (by omega)] at hr
      omega
    rw [ew _ 7 (by omega), es _ (by unfold dR; omega)]
    exact h4 r hr
/-- places that the reference's own order rests on -/
def gR (i : Nat) : Prop := (1 ≤ i ∧ i ≤ 6) ∨ i = 10 ∨ (312 ≤ i ∧ i < 600 ∧ ((i - 312) % 12 = 0 ∨ (i - 312) % 12 = 5 ∨ (i - 312) % 12 = 6)) ∨ (600 ≤ i ∧ i < 696 ∧ (i - 600) % 8 = 3) ∨ (696 ≤ i ∧ i < 708) ∨ (726 ≤ i ∧ i < 834 ∧ (i - 726) % 9 = 0) ∨ (966 ≤ i ∧ i < 976)
theorem n_lt {s : Nat → Int32} (h : gd_b s) : (s 2).toNatClampNeg ≤ 24 ∧ (s 3).toNatClampNeg ≤ 12 ∧ (s 4).toNatClampNeg ≤ 8 ∧ (s 1).toNatClampNeg ≤ 6 ∧ (s 10).toNatClampNeg ≤ 24 := by
  obtain ⟨n2, h2, e2⟩ : bz_lt (s 2) 25 := h 2 (by decide) (by decide) (by decide)
  obtain ⟨n3, h3, e3⟩ : bz_lt (s 3) 13 := h 3 (by decide) (by decide) (by decide)
  obtain ⟨n4, h4, e4⟩ : bz_lt (s 4) 9 := h 4 (by decide) (by decide) (by decide)
  obtain ⟨n1, h1, e1⟩ : bz_lt (s 1) 7 := h 1 (by decide) (by decide) (by decide)
  obtain ⟨n10, h10, e10⟩ : bz_lt (s 10) 25 := h 10 (by decide) (by decide) (by decide)
  rw [e2, e3, e4, e1, e10, nI_clamp (by omega), nI_clamp (by omega), nI_clamp (by omega), nI_clamp (by omega), nI_clamp (by omega)]
  omega
theorem f_his_c {s s' : Nat → Int32} {r o : Nat} (e5 : s' (312 + 12 * o + 5) = s (312 + 12 * o + 5)) (e6 : s' (312 + 12 * o + 6) = s (312 + 12 * o + 6)) : f_his s' r o = f_his s r o := by
  unfold f_his
  rw [e5, e6]
theorem f_cnt_c {s s' : Nat → Int32} {r n : Nat} (h : ∀ o, o < n → f_his s' r o = f_his s r o) : f_cnt s' r n = f_cnt s r n := by
  unfold f_cnt
  exact fb_ct_cong (fun o ho => by rw [h o ho])
theorem gd_n {s s' : Nat → Int32} (h : gd s) (hb : gd_b s') (e : ∀ i, gR i → s' i = s i) : gd s' := by
  obtain ⟨h1, h2, h3, h4, h5, h6⟩ := h
  obtain ⟨q2, q3, q4, q1, q10⟩ := n_lt h1
  have e1 : s' 1 = s 1 := e 1 (by unfold gR; omega)
  have e2 : s' 2 = s 2 := e 2 (by unfold gR; omega)
  have e3 : s' 3 = s 3 := e 3 (by unfold gR; omega)
  have e4 : s' 4 = s 4 := e 4 (by unfold gR; omega)
  refine ⟨hb, fun r hr => ?_, fun o ho => ?_, ⟨fun r hr h12 => ?_, fun r hr o ho h24 => ?_⟩, ?_, ⟨fun i hi => ?_, fun j hj => ?_⟩⟩
  · rw [e2, e _ (by unfold gR; omega), f_cnt_c (fun o ho => f_his_c (e _ (by unfold gR; omega)) (e _ (by unfold gR; omega)))]
    exact h2 r hr
  · rw [e2] at ho
    rw [e1, e _ (by unfold gR; omega)]
    exact h3 o ho
  · rw [e3] at hr
    rw [e _ (by unfold gR; omega), e _ (by unfold gR; omega), e _ (by unfold gR; omega)]
    exact h4.1 r hr h12
  · rw [e2] at ho
    rw [e _ (by unfold gR; omega)]
    exact h4.2 r hr o ho h24
  · unfold gd_t
    rw [e2, e 10 (by unfold gR; omega)]
    have : f_gn s' (s 2).toNatClampNeg = f_gn s (s 2).toNatClampNeg := by
      unfold f_gn
      exact fb_ct_cong (fun o ho => by rw [e _ (by unfold gR; omega)])
    rw [this]
    exact h5
  · rw [e _ (by unfold gR; omega), e4]
    exact h6.1 i hi
  · rw [e _ (by unfold gR; omega), e3]
    exact h6.2 j hj
/-! what a gift writes -/
def f_ends (s : Nat → Int32) (r : Nat) (e b : Int32) : Nat → Int32 := upd (upd (upd (upd (upd (upd s (894 + 3 * (s 10).toNatClampNeg) (nI r)) (894 + 3 * (s 10).toNatClampNeg + 1) (nI (f_bg s r))) (894 + 3 * (s 10).toNatClampNeg + 2) e) 10 (s 10 + 1)) (600 + 8 * r + 1) b) (600 + 8 * r + 2) e
def f_bgv (s : Nat → Int32) (r o : Nat) (p e y : Int32) : Nat → Int32 := upd (upd (upd (upd (upd (upd s (312 + 12 * o + 5) 1) (312 + 12 * o + 6) (nI r)) (312 + 12 * o + 7) p) (312 + 12 * o + 8) e) (312 + 12 * o + 9) y) (600 + 8 * r + 3) (s (600 + 8 * r + 3) + 1)
def f_bg0 (s : Nat → Int32) (r o : Nat) (p e y : Int32) : Nat → Int32 := upd (upd (upd (upd (upd s (312 + 12 * o + 5) 1) (312 + 12 * o + 6) (nI r)) (312 + 12 * o + 7) p) (312 + 12 * o + 8) e) (312 + 12 * o + 9) y
def f_en3 (s : Nat → Int32) (r : Nat) (bb e b n : Int32) : Nat → Int32 := upd (upd (upd (upd (upd (upd (upd s (894 + 3 * (s 10).toNatClampNeg) (nI r)) (894 + 3 * (s 10).toNatClampNeg + 1) bb) (894 + 3 * (s 10).toNatClampNeg + 2) e) 10 (s 10 + 1)) (600 + 8 * r + 1) b) (600 + 8 * r + 2) e) (600 + 8 * r + 3) (s (600 + 8 * r + 3) + n)
section GIV
variable {s : Nat → Int32} {r o o1 o2 : Nat} {p e e' b y p1 e1 y1 p2 e2 y2 : Int32}
theorem f_cm (hr : r < 12) (ho : o < 24) : f_bgv (f_ends s r e b) r o p e' y = f_ends (f_bgv s r o p e' y) r e b := by
  have t1 : f_bgv s r o p e' y 10 = s 10 := by
    unfold f_bgv
    simp (disch := omega) only [pk_un]
  have t2 : f_bg (f_bgv s r o p e' y) r = f_bg s r := by
    unfold f_bg f_bgv
    simp (disch := omega) only [pk_un]
  have t3 : f_ends s r e b (600 + 8 * r + 3) = s (600 + 8 * r + 3) := by
    unfold f_ends
    simp (disch := omega) only [pk_un]
  rw [show f_ends (f_bgv s r o p e' y) r e b = upd (upd (upd (upd (upd (upd (f_bgv s r o p e' y) (894 + 3 * (s 10).toNatClampNeg) (nI r)) (894 + 3 * (s 10).toNatClampNeg + 1) (nI (f_bg s r))) (894 + 3 * (s 10).toNatClampNeg + 2) e) 10 (s 10 + 1)) (600 + 8 * r + 1) b) (600 + 8 * r + 2) e by unfold f_ends; rw [t1, t2]]
  rw [show f_bgv (f_ends s r e b) r o p e' y = upd (upd (upd (upd (upd (upd (f_ends s r e b) (312 + 12 * o + 5) 1) (312 + 12 * o + 6) (nI r)) (312 + 12 * o + 7) p) (312 + 12 * o + 8) e') (312 + 12 * o + 9) y) (600 + 8 * r + 3) (s (600 + 8 * r + 3) + 1) by unfold f_bgv; rw [t3]]
  unfold f_bgv f_ends
  funext j
  by_cases hx0 : j = 312 + 12 * o + 5
  · subst hx0
    simp (disch := omega) only [pk_us, pk_un]
  by_cases hx1 : j = 312 + 12 * o + 6
  · subst hx1
    simp (disch := omega) only [pk_us, pk_un]
  by_cases hx2 : j = 312 + 12 * o + 7
  · subst hx2
    simp (disch := omega) only [pk_us, pk_un]
  by_cases hx3 : j = 312 + 12 * o + 8
  · subst hx3
    simp (disch := omega) only [pk_us, pk_un]
  by_cases hx4 : j = 312 + 12 * o + 9
  · subst hx4
    simp (disch := omega) only [pk_us, pk_un]
  by_cases hx5 : j = 600 + 8 * r + 3
  · subst hx5
    simp (disch := omega) only [pk_us, pk_un]
  by_cases hx6 : j = 894 + 3 * (s 10).toNatClampNeg
  · subst hx6
    simp (disch := omega) only [pk_us, pk_un]
  by_cases hx7 : j = 894 + 3 * (s 10).toNatClampNeg + 1
  · subst hx7
    simp (disch := omega) only [pk_us, pk_un]
  by_cases hx8 : j = 894 + 3 * (s 10).toNatClampNeg + 2
  · subst hx8
    simp (disch := omega) only [pk_us, pk_un]
  by_cases hx9 : j = 10
  · subst hx9
    simp (disch := omega) only [pk_us, pk_un]
  by_cases hx10 : j = 600 + 8 * r + 1
  · subst hx10
    simp (disch := omega) only [pk_us, pk_un]
  by_cases hx11 : j = 600 + 8 * r + 2
  · subst hx11
    simp (disch := omega) only [pk_us, pk_un]
  simp (disch := omega) only [pk_un]
theorem f_xo (hr : r < 12) (ho : o < 24) : f_en3 (f_bg0 s r o p e' y) r (nI (f_bg s r)) e b 1 = f_bgv (f_ends s r e b) r o p e' y := by
  have t1 : f_bg0 s r o p e' y 10 = s 10 := by
    unfold f_bg0
    simp (disch := omega) only [pk_un]
  have t2 : f_bg0 s r o p e' y (600 + 8 * r + 3) = s (600 + 8 * r + 3) := by
    unfold f_bg0
    simp (disch := omega) only [pk_un]
  have t3 : f_ends s r e b (600 + 8 * r + 3) = s (600 + 8 * r + 3) := by
    unfold f_ends
    simp (disch := omega) only [pk_un]
  unfold f_en3 f_bgv
  rw [t1, t2, t3]
  unfold f_bg0 f_ends
  funext j
  by_cases hx0 : j = 312 + 12 * o + 5
  · subst hx0
    simp (disch := omega) only [pk_us, pk_un]
  by_cases hx1 : j = 312 + 12 * o + 6
  · subst hx1
    simp (disch := omega) only [pk_us, pk_un]
  by_cases hx2 : j = 312 + 12 * o + 7
  · subst hx2
    simp (disch := omega) only [pk_us, pk_un]
  by_cases hx3 : j = 312 + 12 * o + 8
  · subst hx3
    simp (disch := omega) only [pk_us, pk_un]
  by_cases hx4 : j = 312 + 12 * o + 9
  · subst hx4
    simp (disch := omega) only [pk_us, pk_un]
  by_cases hx5 : j = 600 + 8 * r + 3
  · subst hx5
    simp (disch := omega) only [pk_us, pk_un]
  by_cases hx6 : j = 894 + 3 * (s 10).toNatClampNeg
  · subst hx6
    simp (disch := omega) only [pk_us, pk_un]
  by_cases hx7 : j = 894 + 3 * (s 10).toNatClampNeg + 1
  · subst hx7
    simp (disch := omega) only [pk_us, pk_un]
  by_cases hx8 : j = 894 + 3 * (s 10).toNatClampNeg + 2
  · subst hx8
    simp (disch := omega) only [pk_us, pk_un]
  by_cases hx9 : j = 10
  · subst hx9
    simp (disch := omega) only [pk_us, pk_un]
  by_cases hx10 : j = 600 + 8 * r + 1
  · subst hx10
    simp (disch := omega) only [pk_us, pk_un]
  by_cases hx11 : j = 600 + 8 * r + 2
  · subst hx11
    simp (disch := omega) only [pk_us, pk_un]
  simp (disch := omega) only [pk_un]
theorem f_xo2 (hr : r < 12) (h1 : o1 < 24) (h2 : o2 < 24) (hne : ¬ o1 = o2) : f_en3 (f_bg0 (f_bg0 s r o1 p1 e1 y1) r o2 p2 e2 y2) r (nI (f_bg s r)) e b 2 = f_bgv (f_bgv (f_ends s r e b) r o1 p1 e1 y1) r o2 p2 e2 y2 := by
  have t1 : f_bg0 (f_bg0 s r o1 p1 e1 y1) r o2 p2 e2 y2 10 = s 10 := by
    unfold f_bg0
    simp (disch := omega) only [pk_un]
  have t2 : f_bg0 (f_bg0 s r o1 p1 e1 y1) r o2 p2 e2 y2 (600 + 8 * r + 3) = s (600 + 8 * r + 3) := by
    unfold f_bg0
    simp (disch := omega) only [pk_un]
  have t3 : f_ends s r e b (600 + 8 * r + 3) = s (600 + 8 * r + 3) := by
    unfold f_ends
    simp (disch := omega) only [pk_un]
  have t4 : f_bgv (f_ends s r e b) r o1 p1 e1 y1 (600 + 8 * r + 3) = s (600 + 8 * r + 3) + 1 := by
    unfold f_bgv
    rw [pk_us, t3]
  have t5 : s (600 + 8 * r + 3) + 2 = s (600 + 8 * r + 3) + 1 + 1 := by rw [Int32.add_assoc]; rfl
  rw [show f_bgv (f_bgv (f_ends s r e b) r o1 p1 e1 y1) r o2 p2 e2 y2 = upd (upd (upd (upd (upd (upd (f_bgv (f_ends s r e b) r o1 p1 e1 y1) (312 + 12 * o2 + 5) 1) (312 + 12 * o2 + 6) (nI r)) (312 + 12 * o2 + 7) p2) (312 + 12 * o2 + 8) e2) (312 + 12 * o2 + 9) y2) (600 + 8 * r + 3) (s (600 + 8 * r + 3) + 2) by rw [t5, ← t4]; rfl]
  unfold f_en3
  rw [t1, t2]
  unfold f_bgv
  rw [t3]
  unfold f_bg0 f_ends
  funext j
  by_cases hx0 : j = 312 + 12 * o1 + 5
  · subst hx0
    simp (disch := omega) only [pk_us, pk_un]
  by_cases hx1 : j = 312 + 12 * o1 + 6
  · subst hx1
    simp (disch := omega) only [pk_us, pk_un]
  by_cases hx2 : j = 312 + 12 * o1 + 7
  · subst hx2
    simp (disch := omega) only [pk_us, pk_un]
  by_cases hx3 : j = 312 + 12 * o1 + 8
  · subst hx3
    simp (disch := omega) only [pk_us, pk_un]
  by_cases hx4 : j = 312 + 12 * o1 + 9
  · subst hx4
    simp (disch := omega) only [pk_us, pk_un]
  by_cases hx5 : j = 312 + 12 * o2 + 5
  · subst hx5
    simp (disch := omega) only [pk_us, pk_un]
  by_cases hx6 : j = 312 + 12 * o2 + 6
  · subst hx6
    simp (disch := omega) only [pk_us, pk_un]
  by_cases hx7 : j = 312 + 12 * o2 + 7
  · subst hx7
    simp (disch := omega) only [pk_us, pk_un]
  by_cases hx8 : j = 312 + 12 * o2 + 8
  · subst hx8
    simp (disch := omega) only [pk_us, pk_un]
  by_cases hx9 : j = 312 + 12 * o2 + 9
  · subst hx9
    simp (disch := omega) only [pk_us, pk_un]
  by_cases hx10 : j = 600 + 8 * r + 3
  · subst hx10
    simp (disch := omega) only [pk_us, pk_un]
  by_cases hx11 : j = 894 + 3 * (s 10).toNatClampNeg
  · subst hx11
    simp (disch := omega) only [pk_us, pk_un]
  by_cases hx12 : j = 894 + 3 * (s 10).toNatClampNeg + 1
  · subst hx12
    simp (disch := omega) only [pk_us, pk_un]
  by_cases hx13 : j = 894 + 3 * (s 10).toNatClampNeg + 2
  · subst hx13
    simp (disch := omega) only [pk_us, pk_un]
  by_cases hx14 : j = 10
  · subst hx14
    simp (disch := omega) only [pk_us, pk_un]
  by_cases hx15 : j = 600 + 8 * r + 1
  · subst hx15
    simp (disch := omega) only [pk_us, pk_un]
  by_cases hx16 : j = 600 + 8 * r + 2
  · subst hx16
    simp (disch := omega) only [pk_us, pk_un]
  simp (disch := omega) only [pk_un]
theorem f_bg_l (hg : gd_b s) (hr : r < 12) : f_bg s r < 1440 := by
  obtain ⟨p, hp, ep⟩ : bz_lt (s (600 + 8 * r + 2)) 1440 := gb_r hg hr 2 (by decide)
  obtain ⟨n, hn, en⟩ : bz_lt (s 0) 1440 := hg 0 (by decide) (by decide) (by decide)
  unfold f_bg
  rw [ep, en, nI_clamp (by omega), nI_clamp (by omega)]
  split <;> omega
theorem f_gn_u {n : Nat} (ho : o < n) (h0 : s (312 + 12 * o + 5) = 0) (s' : Nat → Int32) (h1 : s' (312 + 12 * o + 5) = 1) (hs : ∀ q, ¬ q = o → s' (312 + 12 * q + 5) = s (312 + 12 * q + 5)) : f_gn s' n = f_gn s n + 1 := by
  unfold f_gn
  have a := fb_ct_upd (fun q => s (312 + 12 * q + 5) == 1) true (i := o) ho
  have b : fb_ct (fun q => s' (312 + 12 * q + 5) == 1) n = fb_ct (fun k => if k = o then true else (s (312 + 12 * k + 5) == 1)) n := fb_ct_cong (fun q hq => by
    by_cases h : q = o
    · subst h; rw [if_pos rfl, h1]; rfl
    · rw [if_neg h, hs q h])
  rw [b]
  have c : (s (312 + 12 * o + 5) == 1) = false := by rw [h0]; rfl
  rw [c] at a
  simpa using a
theorem f_cnt_u {n : Nat} (ho : o < n) (h0 : f_his s r o = 0) (s' : Nat → Int32) (h1 : f_his s' r o = 1) (hs : ∀ q, ¬ q = o → f_his s' r q = f_his s r q) : f_cnt s' r n = f_cnt s r n + 1 := by
  unfold f_cnt
  have a := fb_ct_upd (fun q => f_his s r q == 1) true (i := o) ho
  have b : fb_ct (fun q => f_his s' r q == 1) n = fb_ct (fun k => if k = o then true else (f_his s r k == 1)) n := fb_ct_cong (fun q hq => by
    by_cases h : q = o
    · subst h; rw [if_pos rfl, h1]; rfl
    · rw [if_neg h, hs q h])
  rw [b]
  have c : (f_his s r o == 1) = false := by rw [h0]; rfl
  rw [c] at a
  simpa using a
theorem gb_u {s : Nat → Int32} {i : Nat} {v : Int32} {n : Nat} (h : gd_b s) (hi : tb_b i = n) (hv : bz_lt v n) : gd_b (upd s i v) := gd_b_u h (by rw [hi]; exact hv)
theorem gd_b_bg0 (hg : gd_b s) (hr : r < 12) (ho : o < 24) (hp : bz_lt p 1440) (he : bz_lt e 1440) (hy : bz_lt y 10000) : gd_b (f_bg0 s r o p e y) := by
  unfold f_bg0
  exact gb_u (gb_u (gb_u (gb_u (gb_u hg (tb_bo o ho 5 (by decide)) ⟨1, by decide, rfl⟩) (tb_bo o ho 6 (by decide)) ⟨r, hr, rfl⟩) (tb_bo o ho 7 (by decide)) hp) (tb_bo o ho 8 (by decide)) he) (tb_bo o ho 9 (by decide)) hy
theorem f_bgv_0 : f_bgv s r o p e y = upd (f_bg0 s r o p e y) (600 + 8 * r + 3) (s (600 + 8 * r + 3) + 1) := rfl
theorem gd_bgv (h : gd s) (hr : r < (s 3).toNatClampNeg) (ho : o < (s 2).toNatClampNeg) (h0 : s (312 + 12 * o + 5) = 0) (hp : bz_lt p 1440) (he : bz_lt e 1440) (hy : bz_lt y 10000) : gd (f_bgv s r o p e y) ∧ f_gn (f_bgv s r o p e y) (s 2).toNatClampNeg = f_gn s (s 2).toNatClampNeg + 1 := by
  obtain ⟨h1, h2, h3, h4, h5, h6⟩ := h
  obtain ⟨q2, q3, q4, q1, q10⟩ := n_lt h1
  have hr12 : r < 12 := by omega
  have ho24 : o < 24 := by omega
  have c1 : f_cnt s r (s 2).toNatClampNeg + 1 ≤ 24 := by
    have : f_cnt (f_bgv s r o p e y) r (s 2).toNatClampNeg = f_cnt s r (s 2).toNatClampNeg + 1 := f_cnt_u ho (by unfold f_his; rw [h0, if_neg (by decide)]) _ (by
      unfold f_his f_bgv
      simp (disch := omega) only [pk_us, pk_un]
      rfl) (fun q hq => f_his_c (by unfold f_bgv; simp (disch := omega) only [pk_un]) (by unfold f_bgv; simp (disch := omega) only [pk_un]))
    have := f_cnt_le (f_bgv s r o p e y) r (s 2).toNatClampNeg
    omega
  have gn : f_gn (f_bgv s r o p e y) (s 2).toNatClampNeg = f_gn s (s 2).toNatClampNeg + 1 := f_gn_u ho h0 _ (by unfold f_bgv; simp (disch := omega) only [pk_us, pk_un]) (fun q hq => by unfold f_bgv; simp (disch := omega) only [pk_un])
  have u : ∀ i, ¬ (312 + 12 * o + 5 ≤ i ∧ i ≤ 312 + 12 * o + 9) → ¬ i = 600 + 8 * r + 3 → f_bgv s r o p e y i = s i := fun i a b => by
    unfold f_bgv
    simp (disch := omega) only [pk_un]
  refine ⟨⟨?_, fun r' hr' => ?_, fun o' ho' => ?_, ⟨fun r' hr' h12 => ?_, fun r' hr' o' ho' h24 => ?_⟩, ?_, ⟨fun i hi => ?_, fun j hj => ?_⟩⟩, gn⟩
  · rw [f_bgv_0]
    refine gb_u (gd_b_bg0 h1 hr12 ho24 hp he hy) (tb_br r hr12 3 (by decide)) ⟨f_cnt s r (s 2).toNatClampNeg + 1, by show _ < 25; omega, ?_⟩
    rw [h2 r hr12, nI_succ]
  · rw [u 2 (by omega) (by omega)]
    by_cases hrr : r' = r
    · subst hrr
      rw [f_cnt_u ho (by unfold f_his; rw [h0, if_neg (by decide)]) (f_bgv s r' o p e y) (by
        unfold f_his f_bgv
        simp (disch := omega) only [pk_us, pk_un]
        rfl) (fun q hq => f_his_c (u _ (by omega) (by omega)) (u _ (by omega) (by omega))), nI_succ, ← h2 r' hr']
      unfold f_bgv
      rw [pk_us]
    · rw [u (600 + 8 * r' + 3) (by omega) (by omega), f_cnt_c (s := s) (fun q hq => ?_)]
      · exact h2 r' hr'
      · by_cases hqo : q = o
        · subst hqo
          have z1 : f_his s r' q = 0 := by unfold f_his; rw [h0, if_neg (by decide)]
          rw [z1]
          unfold f_his f_bgv
          simp (disch := omega) only [pk_us, pk_un]
          rw [if_pos trivial, if_neg (fun h => hrr ((nI_eq (by omega) (by omega)).mp h).symm)]
        · exact f_his_c (u _ (by omega) (by omega)) (u _ (by omega) (by omega))
  · rw [u 2 (by omega) (by omega)] at ho'
    rw [u 1 (by omega) (by omega), u _ (by omega) (by omega)]
    exact h3 o' ho'
  · rw [u 3 (by omega) (by omega)] at hr'
    rw [u _ (by omega) (by omega), u _ (by omega) (by omega), u _ (by omega) (by omega)]
    exact h4.1 r' hr' h12
  · rw [u 2 (by omega) (by omega)] at ho'
    rw [u _ (by omega) (by omega)]
    exact h4.2 r' hr' o' ho' h24
  · unfold gd_t
    rw [u 2 (by omega) (by omega), u 10 (by omega) (by omega), gn]
    have := h5
    unfold gd_t at this
    omega
  · rw [u _ (by omega) (by omega), u 4 (by omega) (by omega)]
    exact h6.1 i hi
  · rw [u _ (by omega) (by omega), u 3 (by omega) (by omega)]
    exact h6.2 j hj
theorem tb_b10 : tb_b 10 = 25 := rfl
theorem gd_ends (h : gd s) (hr : r < (s 3).toNatClampNeg) (he : bz_lt e 1440) (hb : bz_lt b 16) (ht : (s 10).toNatClampNeg < f_gn s (s 2).toNatClampNeg) : gd (f_ends s r e b) := by
  obtain ⟨h1, h2, h3, h4, h5, h6⟩ := h
  obtain ⟨q2, q3, q4, q1, q10⟩ := n_lt h1
  have hr12 : r < 12 := by omega
  have gl : f_gn s (s 2).toNatClampNeg ≤ (s 2).toNatClampNeg := fb_ct_le _ _
  obtain ⟨t, ht', et⟩ : bz_lt (s 10) 25 := h1 10 (by decide) (by decide) (by decide)
  rw [et, nI_clamp (by omega)] at ht
  have u : ∀ i, ¬ (894 + 3 * t ≤ i ∧ i ≤ 894 + 3 * t + 2) → ¬ i = 600 + 8 * r + 1 → ¬ i = 600 + 8 * r + 2 → ¬ i = 10 → f_ends s r e b i = s i := fun i a b c d => by
    unfold f_ends
    rw [et, nI_clamp (by omega)]
    simp (disch := omega) only [pk_un]
  have u10 : f_ends s r e b 10 = nI (t + 1) := by
    unfold f_ends
    rw [et, nI_clamp (by omega)]
    simp (disch := omega) only [pk_un, pk_us]
    rw [nI_succ]
  refine ⟨?_, fun r' hr' => ?_, fun o' ho' => ?_, ⟨fun r' hr' h12 => ?_, fun r' hr' o' ho' h24 => ?_⟩, ?_, ⟨fun i hi => ?_, fun j hj => ?_⟩⟩
  · unfold f_ends
    rw [et, nI_clamp (by omega)]
    exact gb_u (gb_u (gb_u (gb_u (gb_u (gb_u h1 (tb_bt t (by omega) 0 (by decide)) ⟨r, hr12, rfl⟩) (tb_bt t (by omega) 1 (by decide)) ⟨_, f_bg_l h1 hr12, rfl⟩) (tb_bt t (by omega) 2 (by decide)) he) tb_b10 ⟨t + 1, by omega, by rw [nI_succ]⟩) (tb_br r hr12 1 (by decide)) hb) (tb_br r hr12 2 (by decide)) he
  · rw [u 2 (by omega) (by omega) (by omega) (by omega), u _ (by omega) (by omega) (by omega) (by omega), f_cnt_c (s := s) (fun q hq => f_his_c (u _ (by omega) (by omega) (by omega) (by omega)) (u _ (by omega) (by omega) (by omega) (by omega)))]
    exact h2 r' hr'
  · rw [u 2 (by omega) (by omega) (by omega) (by omega)] at ho'
    rw [u 1 (by omega) (by omega) (by omega) (by omega), u _ (by omega) (by omega) (by omega) (by omega)]
    exact h3 o' ho'
  · rw [u 3 (by omega) (by omega) (by omega) (by omega)] at hr'
    rw [u _ (by omega) (by omega) (by omega) (by omega), u _ (by omega) (by omega) (by omega) (by omega), u _ (by omega) (by omega) (by omega) (by omega)]
    exact h4.1 r' hr' h12
  · rw [u 2 (by omega) (by omega) (by omega) (by omega)] at ho'
    rw [u _ (by omega) (by omega) (by omega) (by omega)]
    exact h4.2 r' hr' o' ho' h24
  · unfold gd_t
    rw [u 2 (by omega) (by omega) (by omega) (by omega), u10, nI_clamp (by omega)]
    have : f_gn (f_ends s r e b) (s 2).toNatClampNeg = f_gn s (s 2).toNatClampNeg := by
      unfold f_gn
      exact fb_ct_cong (fun q hq => by rw [u _ (by omega) (by omega) (by omega) (by omega)])
    rw [this]
    omega
  · rw [u _ (by omega) (by omega) (by omega) (by omega), u 4 (by omega) (by omega) (by omega) (by omega)]
    exact h6.1 i hi
  · rw [u _ (by omega) (by omega) (by omega) (by omega), u 3 (by omega) (by omega) (by omega) (by omega)]
    exact h6.2 j hj
end GIV
