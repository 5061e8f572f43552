/-! the tables: bounds of the reference's row, and where the class holds the same number -/
def tb_o : List Nat := [6, 16, 1440, 121, 61, 3, 12, 1440, 1440, 10000, 1, 1]
def tb_r : List Nat := [7, 16, 1440, 25, 16, 1440, 1, 1]
def tb_a : List Nat := [5, 1440, 1440, 1440, 1440, 1440, 1440, 1440, 1440]
def tb_n : List Nat := [1440, 7, 25, 13, 9, 0, 0, 7, 1000, 21, 25, 1]
/-- the bound of a place below 976; 0: none is told here -/
def tb_b (i : Nat) : Nat := if i < 12 then tb_n.getD i 0 else if i < 28 then 10 else if i < 44 then 4 else if i < 300 then 61 else if i < 312 then (if (i - 300) % 2 = 0 then 16 else 61) else if i < 600 then tb_o.getD ((i - 312) % 12) 0 else if i < 696 then tb_r.getD ((i - 600) % 8) 0 else if i < 708 then 16777216 else if i < 726 then (if (i - 708) % 3 = 2 then 100 else 1440) else if i < 834 then tb_a.getD ((i - 726) % 9) 0 else if i < 894 then ([12, 16, 1440] : List Nat).getD ((i - 834) % 3) 0 else if i < 966 then ([12, 1440, 1440] : List Nat).getD ((i - 894) % 3) 0 else 0
def tc_o : List (Option Nat) := [some 0, some 2, some 3, none, some 5, some 7, some 8, some 9, some 10, some 13, none, none]
def tc_r : List (Option Nat) := [some 1, some 4, some 5, some 6, some 2, some 3, none, none]
def tc_n : List (Option (Nat × Nat)) := [some (0, 12), some (6, 1), some (0, 9), some (0, 10), some (0, 11), some (0, 13), some (0, 14), some (13, 1), some (0, 15), some (15, 1), some (11, 1), none]
/-- where the class holds the number of a place: cell, counted from its World, and slot -/
def tb_c (i : Nat) : Option (Nat × Nat) := if i < 12 then tc_n.getD i none else if i < 28 then some (2, i - 12) else if i < 44 then some (3, i - 28) else if i < 300 then some (4, i - 44) else if i < 312 then some (7, 3 * ((i - 300) / 2) + (i - 300) % 2) else if i < 600 then (tc_o.getD ((i - 312) % 12) none).map (fun k => (18 + (i - 312) / 12, k)) else if i < 696 then (tc_r.getD ((i - 600) % 8) none).map (fun k => (42 + 3 * ((i - 600) / 8), k)) else if i < 708 then none else if i < 726 then some (14, i - 708) else if i < 834 then (if (i - 726) % 9 = 0 then some (43 + 3 * ((i - 726) / 9), 1) else some (44 + 3 * ((i - 726) / 9), 3 * (((i - 726) % 9 - 1) / 2) + ((i - 726) % 9 - 1) % 2)) else if i < 894 then some (16, i - 834) else if i < 966 then some (12, i - 894) else if i < 976 then some (17, i - 966) else none
def ti_o : List Nat := [0, 999, 1, 2, 999, 4, 999, 5, 6, 7, 8, 999, 999, 9, 999]
def ti_r : List Nat := [999, 0, 4, 5, 1, 2, 3, 999]
def ti_w : List Nat := [999, 999, 999, 999, 999, 999, 999, 999, 999, 2, 3, 4, 0, 5, 6, 8]
/-- back: the place of a cell and a slot; 999 and above: none -/
def tb_i (a k : Nat) : Nat := if a = 0 then ti_w.getD k 999 else if a = 2 then 12 + k else if a = 3 then 28 + k else if a = 4 then 44 + k else if a = 6 then 1 else if a = 7 then 300 + 2 * (k / 3) + k % 3 else if a = 11 then 10 else if a = 12 then 894 + k else if a = 13 then 7 else if a = 14 then 708 + k else if a = 15 then 9 else if a = 16 then 834 + k else if a = 17 then 966 + k else if 18 ≤ a ∧ a < 42 then 312 + 12 * (a - 18) + ti_o.getD k 999 else if 42 ≤ a ∧ (a - 42) % 3 = 0 then 600 + 8 * ((a - 42) / 3) + ti_r.getD k 999 else if 42 ≤ a ∧ (a - 42) % 3 = 1 then 726 + 9 * ((a - 42) / 3) else if 42 ≤ a then 726 + 9 * ((a - 42) / 3) + 1 + 2 * (k / 3) + k % 3 else 999
theorem tb_ci : ∀ i, i < 976 → ((tb_c i).all (fun p => tb_i p.1 p.2 == i)) = true := by decide +kernel
theorem tb_inv {i a k : Nat} (hi : i < 976) (h : tb_c i = some (a, k)) : tb_i a k = i := by
  have := tb_ci i hi
  rw [h] at this
  exact eq_of_beq this
theorem tb_inj {i j a k : Nat} (hi : i < 976) (hj : j < 976) (h : tb_c i = some (a, k)) (h' : tb_c j = some (a, k)) : i = j := by
  rw [← tb_inv hi h, tb_inv hj h']
/-- all numbers of the row are within their bounds -/
def gd_b (s : Nat → Int32) : Prop := ∀ i, i < 966 → ¬ i = 5 → ¬ i = 6 → bz_lt (s i) (tb_b i)
/-- the class holds the same numbers -/
def sy (w : Nat → Nat → Int32) (s : Nat → Int32) : Prop := ∀ i, i < 976 → ∀ a k, tb_c i = some (a, k) → w a k = s i
theorem gd_b_u {s : Nat → Int32} {i : Nat} {v : Int32} (h : gd_b s) (hv : bz_lt v (tb_b i)) : gd_b (upd s i v) := by
  intro j hj h5 h6
  by_cases e : j = i
  · subst e; rw [pk_us]; exact hv
  · rw [pk_un e]; exact h j hj h5 h6
theorem gd_b_o {s : Nat → Int32} {i : Nat} {v : Int32} (h : gd_b s) (hi : i = 5 ∨ i = 6 ∨ 966 ≤ i) : gd_b (upd s i v) := by
  intro j hj h5 h6
  rw [pk_un (by omega)]; exact h j hj h5 h6
/-- the view of a world -/
def wv (μ : Nat → Nat → Int32) (B : Nat) : Nat → Nat → Int32 := fun a k => μ (B + a) k
theorem wv_u (μ : Nat → Nat → Int32) (B a k : Nat) (v : Int32) : wv (bz_u μ (B + a) k v) B = bz_u (wv μ B) a k v := by
  funext b j
  unfold wv
  by_cases h : b = a
  · subst h; rw [bz_u_row, bz_u_row]
  · rw [bz_u_cell _ _ _ h, bz_u_cell _ _ _ (by omega)]
theorem wv_o (μ : Nat → Nat → Int32) {B c : Nat} (k : Nat) (v : Int32) (h : c < B ∨ B + 78 ≤ c) : ∀ a, a < 78 → wv (bz_u μ c k v) B a = wv μ B a := by
  intro a ha
  unfold wv
  funext j
  rw [bz_u_cell _ _ _ (by omega)]
/-- one number on both sides -/
theorem sy_u {w : Nat → Nat → Int32} {s : Nat → Int32} {i a k : Nat} {v : Int32} (h : sy w s) (hi : i < 976) (hc : tb_c i = some (a, k)) : sy (bz_u w a k v) (upd s i v) := by
  intro j hj b m e
  by_cases q : j = i
  · subst q
    rw [hc] at e
    cases e
    rw [bz_u_same, pk_us]
  · rw [pk_un q, bz_u_ne]
    · exact h j hj b m e
    · by_cases hb : b = a
      · subst hb
        refine Or.inr (fun hm => q ?_)
        subst hm
        exact tb_inj hj hi e hc
      · exact Or.inl hb
/-- a number of the class alone -/
theorem sy_x {w : Nat → Nat → Int32} {s : Nat → Int32} {a k : Nat} {v : Int32} (h : sy w s) (hn : ∀ i, i < 976 → ¬ tb_c i = some (a, k)) : sy (bz_u w a k v) s := by
  intro j hj b m e
  rw [bz_u_ne]
  · exact h j hj b m e
  · by_cases hb : b = a
    · subst hb
      refine Or.inr (fun hm => ?_)
      subst hm
      exact hn j hj e
    · exact Or.inl hb
theorem sy_xi {a k : Nat} (h : ¬ tb_c (tb_i a k) = some (a, k)) : ∀ i, i < 976 → ¬ tb_c i = some (a, k) := by
  intro i hi e
  have := tb_inv hi e
  rw [this] at h
  exact h e
/-- a number of the row alone -/
theorem sy_m {w : Nat → Nat → Int32} {s : Nat → Int32} {i : Nat} {v : Int32} (h : sy w s) (hc : i < 976 → tb_c i = none) : sy w (upd s i v) := by
  intro j hj b m e
  by_cases q : j = i
  · subst q; rw [hc hj] at e; cases e
  · rw [pk_un q]; exact h j hj b m e
