/-! the reference finds all ways -/
def f_d (s : Nat → Int32) (a b : Nat) : Option Nat := if a = b then some 0 else if 16 ≤ a ∨ 16 ≤ b then none else if s (44 + 16 * a + b) = 0 then none else some ((s (44 + 16 * a + b)).toNatClampNeg + ((s (12 + b)).toNatClampNeg - (s (12 + a)).toNatClampNeg))
def f_wy (s : Nat → Int32) (k a b : Nat) : Option Nat := wy_D (f_d s) k a b
def f_far (o : Option Nat) : Int32 := match o with
  | none => 1000000
  | some n => nI n
def f_no (o : Option Nat) : Int32 := match o with
  | none => -1
  | some n => nI n
theorem bz_ur_ur (μ : Nat → Nat → Int32) (c : Nat) (g g' : Nat → Int32) : bz_ur (bz_ur μ c g) c g' = bz_ur μ c g' := by
  funext b
  unfold bz_ur
  by_cases h : b = c
  · rw [if_pos h, if_pos h]
  · rw [if_neg h, if_neg h, if_neg h]
theorem bz_ur_same (μ : Nat → Nat → Int32) (c : Nat) (g : Nat → Int32) : bz_ur μ c g c = g := by
  unfold bz_ur
  rw [if_pos rfl]
theorem bz_ur_ne (μ : Nat → Nat → Int32) {c b : Nat} (g : Nat → Int32) (h : b ≠ c) : bz_ur μ c g b = μ b := by
  unfold bz_ur
  rw [if_neg h]
theorem bz_u_of_ur (μ : Nat → Nat → Int32) (c k : Nat) (g : Nat → Int32) (v : Int32) : bz_u (bz_ur μ c g) c k v = bz_ur μ c (upd g k v) := by
  rw [bz_u_ur, bz_ur_ur, bz_ur_same]
theorem tb_bh : (∀ j, j < 16 → tb_b (12 + j) = 10) ∧ (∀ j, j < 256 → tb_b (44 + j) = 61) := by decide +kernel
theorem gb_h {s : Nat → Int32} (h : gd_b s) {j : Nat} (hj : j < 16) : bz_lt (s (12 + j)) 10 := by
  rw [← tb_bh.1 j hj]
  exact h _ (by omega) (by omega) (by omega)
theorem gb_rd {s : Nat → Int32} (h : gd_b s) {j : Nat} (hj : j < 256) : bz_lt (s (44 + j)) 61 := by
  rw [← tb_bh.2 j hj]
  exact h _ (by omega) (by omega) (by omega)
theorem f_d_b {s : Nat → Int32} (h : gd_b s) (a b v : Nat) (e : f_d s a b = some v) : v ≤ 69 := by
  unfold f_d at e
  split at e
  · cases e; decide
  · split at e
    · cases e
    · next hab =>
      have ha : a < 16 := by omega
      have hb : b < 16 := by omega
      obtain ⟨m, hm, em⟩ := gb_rd h (j := 16 * a + b) (by omega)
      obtain ⟨x, hx, ex⟩ := gb_h h ha
      obtain ⟨y, hy, ey⟩ := gb_h h hb
      rw [← Nat.add_assoc] at em
      rw [em, ex, ey, nI_clamp (by omega), nI_clamp (by omega), nI_clamp (by omega)] at e
      split at e
      · cases e
      · cases e; omega
theorem f_d_0 (s : Nat → Int32) (a : Nat) : f_d s a a = some 0 := if_pos rfl
theorem f_wy_b {s : Nat → Int32} (h : gd_b s) {k a b v : Nat} (hk : k ≤ 16) (e : f_wy s k a b = some v) : v ≤ 1173 := wy_small (f_d_b h) hk e
theorem f_far_min {x y z : Option Nat} (hx : ∀ v, x = some v → v ≤ 1173) (hy : ∀ v, y = some v → v ≤ 1173) (hz : ∀ v, z = some v → v ≤ 1173) : f_far (wy_min x (wy_add y z)) = if f_far x ≤ f_far y + f_far z then f_far x else f_far y + f_far z := by
  have L : (1000000 : Int32) = nI 1000000 := rfl
  cases x with
  | none =>
    cases y with
    | none =>
      cases z with
      | none => decide
      | some c =>
        have hc := hz c rfl
        show (1000000 : Int32) = if (1000000 : Int32) ≤ 1000000 + nI c then 1000000 else 1000000 + nI c
        rw [L, nI_add, if_pos (nI_le (by omega) (by omega))]
    | some b =>
      have hb := hy b rfl
      cases z with
      | none =>
        show (1000000 : Int32) = if (1000000 : Int32) ≤ nI b + 1000000 then 1000000 else nI b + 1000000
        rw [L, nI_add, if_pos (nI_le (by omega) (by omega))]
      | some c =>
        have hc := hz c rfl
        show nI (b + c) = if (1000000 : Int32) ≤ nI b + nI c then 1000000 else nI b + nI c
        rw [L, nI_add, if_neg (nI_ge (by omega) (by omega))]
  | some a =>
    have ha := hx a rfl
    cases y with
    | none =>
      cases z with
      | none =>
        show nI a = if nI a ≤ (1000000 : Int32) + 1000000 then nI a else 1000000 + 1000000
        rw [L, nI_add, if_pos (nI_le (by omega) (by omega))]
      | some c =>
        have hc := hz c rfl
        show nI a = if nI a ≤ (1000000 : Int32) + nI c then nI a else 1000000 + nI c
        rw [L, nI_add, if_pos (nI_le (by omega) (by omega))]
    | some b =>
      have hb := hy b rfl
      cases z with
      | none =>
        show nI a = if nI a ≤ nI b + (1000000 : Int32) then nI a else nI b + 1000000
        rw [L, nI_add, if_pos (nI_le (by omega) (by omega))]
      | some c =>
        have hc := hz c rfl
        show nI (if b + c < a then b + c else a) = if nI a ≤ nI b + nI c then nI a else nI b + nI c
        rw [nI_add]
        by_cases q : b + c < a
        · rw [if_pos q, if_neg (nI_ge q (by omega))]
        · rw [if_neg q, if_pos (nI_le (by omega) (by omega))]
/-- the direct way as the reference writes it -/
theorem f_far_d {s : Nat → Int32} (h : gd_b s) {a b : Nat} (ha : a < 16) (hb : b < 16) : f_far (f_d s a b) = if a = b then 0 else if s (44 + 16 * a + b) = 0 then 1000000 else s (44 + 16 * a + b) + (if s (12 + b) - s (12 + a) ≤ 0 then 0 else s (12 + b) - s (12 + a)) := by
  unfold f_d
  by_cases q : a = b
  · rw [if_pos q, if_pos q]; rfl
  · rw [if_neg q, if_neg q, if_neg (by omega)]
    by_cases z : s (44 + 16 * a + b) = 0
    · rw [if_pos z, if_pos z]; rfl
    · rw [if_neg z, if_neg z]
      obtain ⟨m, hm, em⟩ := gb_rd h (j := 16 * a + b) (by omega)
      obtain ⟨x, hx, ex⟩ := gb_h h ha
      obtain ⟨y, hy, ey⟩ := gb_h h hb
      rw [← Nat.add_assoc] at em
      rw [em, ex, ey, nI_clamp (by omega), nI_clamp (by omega), nI_clamp (by omega)]
      show nI (m + (y - x)) = _
      have e1 : (nI y - nI x).toInt = (y : Int) - x := pk_sub_toInt (by omega) (by omega)
      by_cases q2 : nI y - nI x ≤ 0
      · rw [if_pos q2]
        have := Int32.le_iff_toInt_le.mp q2
        rw [e1] at this
        have e0 : (0 : Int32).toInt = 0 := rfl
        rw [show y - x = 0 by omega, Nat.add_zero, Int32.add_zero]
      · rw [if_neg q2]
        have : x ≤ y := by
          apply Classical.byContradiction
          intro hh
          apply q2
          rw [Int32.le_iff_toInt_le, e1]
          have e0 : (0 : Int32).toInt = 0 := rfl
          omega
        rw [pk_sub this, nI_add]
