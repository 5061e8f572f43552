/-! what is held between calls: the reference's row, and the class's world beside it -/
/-- given orders among the first n -/
def f_gn (s : Nat → Int32) (n : Nat) : Nat := fb_ct (fun o => s (312 + 12 * o + 5) == 1) n
def gd_k (s : Nat → Int32) : Prop := ∀ o, o < (s 2).toNatClampNeg → (s (312 + 12 * o + 0)).toNatClampNeg < (s 1).toNatClampNeg
def gd_f (s : Nat → Int32) : Prop := (∀ r, (s 3).toNatClampNeg ≤ r → r < 12 → s (696 + r) = 0 ∧ s (726 + 9 * r) = 0 ∧ s (600 + 8 * r + 3) = 0) ∧ ∀ r, r < 12 → ∀ o, (s 2).toNatClampNeg ≤ o → o < 24 → (s (696 + r) >>> (nI o &&& 31)) &&& 1 = 0
def gd_t (s : Nat → Int32) : Prop := (s 10).toNatClampNeg ≤ f_gn s (s 2).toNatClampNeg
def gd_u (s : Nat → Int32) : Prop := (∀ i, i < 2 → s (5 + i) = -1 ∨ bz_lt (s (5 + i)) (s 4).toNatClampNeg) ∧ ∀ j, j < 10 → s (966 + j) = -1 ∨ bz_lt (s (966 + j)) (s 3).toNatClampNeg
def gd (s : Nat → Int32) : Prop := gd_b s ∧ gd_g s ∧ gd_k s ∧ gd_f s ∧ gd_t s ∧ gd_u s
def wo_w (w : Nat → Nat → Int32) (s : Nat → Int32) : Prop := ∀ a b, a < 16 → b < 16 → w 5 (16 * a + b) = f_no (f_wy s 16 a b)
def wo_r (w : Nat → Nat → Int32) (s : Nat → Int32) : Prop := ∀ r, r < (s 3).toNatClampNeg → w (42 + 3 * r) 7 = f_ref (s (696 + r))
/-- a world of the class beside a row of the reference -/
def wo (w : Nat → Nat → Int32) (s : Nat → Int32) : Prop := sy w s ∧ dv_o w s ∧ wo_w w s ∧ wo_r w s
theorem tb_c78 : ∀ i, i < 976 → ((tb_c i).all (fun p => decide (p.1 < 78))) = true := by decide +kernel
theorem sy_f {w w' : Nat → Nat → Int32} {s : Nat → Int32} (h : sy w s) (e : ∀ a, a < 78 → w' a = w a) : sy w' s := by
  intro i hi a k hc
  have := tb_c78 i hi
  rw [hc] at this
  have h8 : a < 78 := of_decide_eq_true this
  rw [e a h8]
  exact h i hi a k hc
theorem wo_f {w w' : Nat → Nat → Int32} {s : Nat → Int32} (hg : gd_b s) (h : wo w s) (e : ∀ a, a < 78 → w' a = w a) : wo w' s := by
  obtain ⟨h1, h2, h3, h4⟩ := h
  refine ⟨sy_f h1 e, fun o ho => ?_, fun a b ha hb => ?_, fun r hr => ?_⟩
  · rw [e (18 + o) (by omega)]; exact h2 o ho
  · rw [e 5 (by omega)]; exact h3 a b ha hb
  · obtain ⟨n, hn, en⟩ : bz_lt (s 3) 13 := hg 3 (by decide) (by decide) (by decide)
    rw [en, nI_clamp (by omega)] at hr
    rw [e (42 + 3 * r) (by omega)]; exact h4 r (by rw [en, nI_clamp (by omega)]; exact hr)
/-- the class's world in use, beside a row -/
def tw (S : bz_S) (s : Nat → Int32) : Prop := gd s ∧ wo (wv S.1 6) s
theorem tw_b {S : bz_S} {s : Nat → Int32} (h : tw S s) : gd_b s := h.1.1
theorem tw_g {S : bz_S} {s : Nat → Int32} (h : tw S s) : gd_g s := h.1.2.1
theorem tw_s {S : bz_S} {s : Nat → Int32} (h : tw S s) : sy (wv S.1 6) s := h.2.1
theorem tw_d {S : bz_S} {s : Nat → Int32} (h : tw S s) : dv_o (wv S.1 6) s := h.2.2.1
theorem tw_w {S : bz_S} {s : Nat → Int32} (h : tw S s) {a b : Nat} (ha : a < 16) (hb : b < 16) : S.1 11 (16 * a + b) = f_no (f_wy s 16 a b) := h.2.2.2.1 a b ha hb
theorem tw_f {X : Nat → Nat → Prop} {S S' : bz_S} {s : Nat → Int32} (h : tw S s) (f : fr X S S') (hX : ∀ c k, X c k → ¬ (6 ≤ c ∧ c < 84)) : tw S' s := by
  refine ⟨h.1, wo_f h.1.1 h.2 (fun a ha => ?_)⟩
  funext k
  unfold wv
  exact f.2 _ _ (fun x => hX _ _ x (by omega))
theorem tb_bk : ∀ k, k < 6 → tb_b (300 + 2 * k) = 16 ∧ tb_b (300 + 2 * k + 1) = 61 := by decide +kernel
theorem gb_ka {s : Nat → Int32} (h : gd_b s) {o : Nat} (ho : o < 24) : bz_lt (f_ka s o) 16 := by
  obtain ⟨k, hk, e⟩ : bz_lt (s (312 + 12 * o + 0)) 6 := gb_o h ho 0 (by decide)
  unfold f_ka
  rw [e, nI_clamp (by omega), ← (tb_bk k hk).1]
  exact h _ (by omega) (by omega) (by omega)
theorem gb_rdy {s : Nat → Int32} (h : gd_b s) {o : Nat} (ho : o < 24) : bz_lt (f_rdy s o) 1600 := by
  obtain ⟨k, hk, e⟩ : bz_lt (s (312 + 12 * o + 0)) 6 := gb_o h ho 0 (by decide)
  obtain ⟨p, hp, ep⟩ : bz_lt (s (312 + 12 * o + 2)) 1440 := gb_o h ho 2 (by decide)
  obtain ⟨y, hy, ey⟩ : bz_lt (s (312 + 12 * o + 4)) 61 := gb_o h ho 4 (by decide)
  obtain ⟨c, hc, ec⟩ : bz_lt (s (300 + 2 * k + 1)) 61 := by
    rw [← (tb_bk k hk).2]; exact h _ (by omega) (by omega) (by omega)
  refine ⟨p + c + y, by omega, ?_⟩
  unfold f_rdy
  rw [e, nI_clamp (by omega), ep, ec, ey, nI_add, nI_add]
/-! the stops of a line -/
def f_pk (s : Nat → Int32) (x : Int32) (o : Nat) (st : Option (Nat × Nat)) : Option (Nat × Nat) := (f_ri s x (f_ka s o).toNatClampNeg st).map (fun q => (if q.1 ≤ (f_rdy s o).toNatClampNeg then (f_rdy s o).toNatClampNeg else q.1, q.2))
def f_dr (s : Nat → Int32) (x : Int32) (o : Nat) (st : Option (Nat × Nat)) : Option (Nat × Nat) := f_ri s x (s (312 + 12 * o + 1)).toNatClampNeg st
def sb (st : Option (Nat × Nat)) (K : Nat) : Prop := ∀ m a, st = some (m, a) → m ≤ K ∧ a < 16
theorem sb_ri {s : Nat → Int32} (hg : gd_b s) {x : Int32} {b K : Nat} {st : Option (Nat × Nat)} (hb : b < 16) (h : sb st K) : sb (f_ri s x b st) (K + 2400) := by
  intro m a e
  unfold f_ri at e
  cases st with
  | none => cases e
  | some q =>
    obtain ⟨m0, a0⟩ := q
    have e' : (f_wy s 16 a0 b).map (fun w => (m0 + f_leg x w, b)) = some (m, a) := e
    cases hw : f_wy s 16 a0 b with
    | none => rw [hw] at e'; cases e'
    | some w =>
      rw [hw] at e'
      have q := Option.some.inj e'
      have q1 : m0 + f_leg x w = m := congrArg Prod.fst q
      have q2 : b = a := congrArg Prod.snd q
      have := (f_leg_e x (f_wy_b hg (by omega) hw)).2
      have := (h m0 a0 rfl).1
      exact ⟨by omega, by omega⟩
theorem sb_pk {s : Nat → Int32} (hg : gd_b s) {x : Int32} {o K : Nat} {st : Option (Nat × Nat)} (ho : o < 24) (h : sb st K) : sb (f_pk s x o st) (K + 2400) := by
  obtain ⟨a, ha, ea⟩ := gb_ka hg ho
  obtain ⟨y, hy, ey⟩ := gb_rdy hg ho
  have r0 := sb_ri hg (x := x) ha h
  unfold f_pk
  rw [ea, ey, nI_clamp (by omega), nI_clamp (by omega)]
  intro m b e
  cases hr : f_ri s x a st with
  | none => rw [hr] at e; cases e
  | some q =>
    obtain ⟨m1, a1⟩ := q
    rw [hr] at e
    have q := Option.some.inj e
    have q1 : (if m1 ≤ y then y else m1) = m := congrArg Prod.fst q
    have q2 : a1 = b := congrArg Prod.snd q
    have r := r0 m1 a1 hr
    split at q1 <;> exact ⟨by omega, by omega⟩
theorem sb_dr {s : Nat → Int32} (hg : gd_b s) {x : Int32} {o K : Nat} {st : Option (Nat × Nat)} (ho : o < 24) (h : sb st K) : sb (f_dr s x o st) (K + 2400) := by
  obtain ⟨a, ha, ea⟩ : bz_lt (s (312 + 12 * o + 1)) 16 := gb_o hg ho 1 (by decide)
  unfold f_dr
  rw [ea, nI_clamp (by omega)]
  exact sb_ri hg ha h
def f_stp (s : Nat → Int32) (x : Int32) (o1 o2 c : Nat) (st : Option (Nat × Nat)) : Option (Nat × Nat) := if c % 2 = 0 then f_pk s x (if c < 2 then o1 else o2) st else f_dr s x (if c < 2 then o1 else o2) st
def f_wk (s : Nat → Int32) (x : Int32) (o1 o2 m a : Nat) (L : Nat → Nat) : Nat → Option (Nat × Nat) × (Nat → Nat)
  | 0 => (some (m, a), fun _ => 0)
  | k + 1 => (f_stp s x o1 o2 (L k) (f_wk s x o1 o2 m a L k).1, fun c => if c = L k then (match f_stp s x o1 o2 (L k) (f_wk s x o1 o2 m a L k).1 with | none => 0 | some q => q.1) else (f_wk s x o1 o2 m a L k).2 c)
def li (j : Nat) : Nat := ([0, 1, 2, 3, 2, 3, 0, 1, 0, 2, 1, 3, 0, 2, 3, 1, 2, 0, 1, 3, 2, 0, 3, 1] : List Nat).getD j 0
theorem li_e : ∀ j, j < 24 → bz_lin j = nI (li j) ∧ li j < 4 := by decide +kernel
theorem f_stp_n (s : Nat → Int32) (x : Int32) (o1 o2 c : Nat) : f_stp s x o1 o2 c none = none := by
  unfold f_stp f_pk f_dr f_ri
  split <;> rfl
theorem sb_stp {s : Nat → Int32} (hg : gd_b s) {x : Int32} {o1 o2 c K : Nat} {st : Option (Nat × Nat)} (h1 : o1 < 24) (h2 : o2 < 24) (h : sb st K) : sb (f_stp s x o1 o2 c st) (K + 2400) := by
  unfold f_stp
  have ho : (if c < 2 then o1 else o2) < 24 := by split <;> assumption
  split
  · exact sb_pk hg ho h
  · exact sb_dr hg ho h
theorem sb_wk {s : Nat → Int32} (hg : gd_b s) {x : Int32} {o1 o2 m a : Nat} {L : Nat → Nat} (h1 : o1 < 24) (h2 : o2 < 24) (ha : a < 16) : ∀ k, sb (f_wk s x o1 o2 m a L k).1 (m + 2400 * k)
  | 0 => fun m' a' e => by cases e; exact ⟨by omega, ha⟩
  | k + 1 => by
    have := sb_stp (c := L k) (x := x) hg h1 h2 (sb_wk hg h1 h2 ha k (x := x) (m := m) (L := L))
    rw [f_wk]
    rw [show m + 2400 * k + 2400 = m + 2400 * (k + 1) by omega] at this
    exact this
theorem f_wk_n {s : Nat → Int32} {x : Int32} {o1 o2 m a : Nat} {L : Nat → Nat} {k : Nat} (h : (f_wk s x o1 o2 m a L k).1 = none) : ∀ n, (f_wk s x o1 o2 m a L (k + n)).1 = none
  | 0 => h
  | n + 1 => by
    rw [← Nat.add_assoc, f_wk, f_wk_n h n]
    exact f_stp_n _ _ _ _ _
