/-! the state: numbers by cell and place, the texts' references, the texts made -/
abbrev bz_S : Type := (Nat → Nat → Int32) × (Nat → Nat → Option Nat) × List (Nat × (Nat → Int32))
abbrev bz_KD : Type := Nat ⊕ ((Nat × List (Option (Option Nat))) ⊕ (Nat × Nat × (Nat → Option Nat)))
def bz_kinds : List bz_KD := [.inl 0, .inl 0, .inl 0, .inl 0, .inl 0,
  .inr (.inl (11, [some (some 6), some (some 84), none, some (some 162), some (some 165), some (some 174), some (some 175), some (some 178), some (some 181)])),
  .inr (.inl (10, [some (some 7), some (some 12), some (some 14), some (some 15), some (some 16), some (some 17), some (some 19), some (some 21), some (some 23), none, none, none, none, none, none, none])),
  .inr (.inl (8, [some (some 8), some (some 9), some (some 10), some (some 11)])),
  .inl 16,
  .inl 16,
  .inl 256,
  .inl 256,
  .inr (.inl (4, [some (some 13), none])),
  .inl 18,
  .inr (.inr (1, 24, fun j => if j < 24 then some (24 + 1 * j) else none)),
  .inr (.inr (2, 12, fun j => if j < 12 then some (48 + 3 * j) else none)),
  .inr (.inr (3, 8, fun _ => none)),
  .inr (.inl (4, [some (some 18), none])),
  .inl 72,
  .inr (.inl (4, [some (some 20), none])),
  .inl 18,
  .inr (.inl (4, [some (some 22), none])),
  .inl 60,
  .inl 10,
  .inr (.inl (2, [none, none, none, none, none, none, none, none, none, none, none, none, none, none, none])),
  .inr (.inl (2, [none, none, none, none, none, none, none, none, none, none, none, none, none, none, none])),
  .inr (.inl (2, [none, none, none, none, none, none, none, none, none, none, none, none, none, none, none])),
  .inr (.inl (2, [none, none, none, none, none, none, none, none, none, none, none, none, none, none, none])),
  .inr (.inl (2, [none, none, none, none, none, none, none, none, none, none, none, none, none, none, none])),
  .inr (.inl (2, [none, none, none, none, none, none, none, none, none, none, none, none, none, none, none])),
  .inr (.inl (2, [none, none, none, none, none, none, none, none, none, none, none, none, none, none, none])),
  .inr (.inl (2, [none, none, none, none, none, none, none, none, none, none, none, none, none, none, none])),
  .inr (.inl (2, [none, none, none, none, none, none, none, none, none, none, none, none, none, none, none])),
  .inr (.inl (2, [none, none, none, none, none, none, none, none, none, none, none, none, none, none, none])),
  .inr (.inl (2, [none, none, none, none, none, none, none, none, none, none, none, none, none, none, none])),
  .inr (.inl (2, [none, none, none, none, none, none, none, none, none, none, none, none, none, none, none])),
  .inr (.inl (2, [none, none, none, none, none, none, none, none, none, none, none, none, none, none, none])),
  .inr (.inl (2, [none, none, none, none, none, none, none, none, none, none, none, none, none, none, none])),
  .inr (.inl (2, [none, none, none, none, none, none, none, none, none, none, none, none, none, none, none])),
  .inr (.inl (2, [none, none, none, none, none, none, none, none, none, none, none, none, none, none, none])),
  .inr (.inl (2, [none, none, none, none, none, none, none, none, none, none, none, none, none, none, none])),
  .inr (.inl (2, [none, none, none, none, none, none, none, none, none, none, none, none, none, none, none])),
  .inr (.inl (2, [none, none, none, none, none, none, none, none, none, none, none, none, none, none, none])),
  .inr (.inl (2, [none, none, none, none, none, none, none, none, none, none, none, none, none, none, none])),
  .inr (.inl (2, [none, none, none, none, none, none, none, none, none, none, none, none, none, none, none])),
  .inr (.inl (2, [none, none, none, none, none, none, none, none, none, none, none, none, none, none, none])),
  .inr (.inl (2, [none, none, none, none, none, none, none, none, none, none, none, none, none, none, none])),
  .inr (.inl (2, [none, none, none, none, none, none, none, none, none, none, none, none, none, none, none])),
  .inr (.inl (3, [none, none, none, none, none, none, none, none, some (some 49)])),
  .inr (.inl (4, [some (some 50), none])),
  .inl 12,
  .inr (.inl (3, [none, none, none, none, none, none, none, none, some (some 52)])),
  .inr (.inl (4, [some (some 53), none])),
  .inl 12,
  .inr (.inl (3, [none, none, none, none, none, none, none, none, some (some 55)])),
  .inr (.inl (4, [some (some 56), none])),
  .inl 12,
  .inr (.inl (3, [none, none, none, none, none, none, none, none, some (some 58)])),
  .inr (.inl (4, [some (some 59), none])),
  .inl 12,
  .inr (.inl (3, [none, none, none, none, none, none, none, none, some (some 61)])),
  .inr (.inl (4, [some (some 62), none])),
  .inl 12,
  .inr (.inl (3, [none, none, none, none, none, none, none, none, some (some 64)])),
  .inr (.inl (4, [some (some 65), none])),
  .inl 12,
  .inr (.inl (3, [none, none, none, none, none, none, none, none, some (some 67)])),
  .inr (.inl (4, [some (some 68), none])),
  .inl 12,
  .inr (.inl (3, [none, none, none, none, none, none, none, none, some (some 70)])),
  .inr (.inl (4, [some (some 71), none])),
  .inl 12,
  .inr (.inl (3, [none, none, none, none, none, none, none, none, some (some 73)])),
  .inr (.inl (4, [some (some 74), none])),
  .inl 12,
  .inr (.inl (3, [none, none, none, none, none, none, none, none, some (some 76)])),
  .inr (.inl (4, [some (some 77), none])),
  .inl 12,
  .inr (.inl (3, [none, none, none, none, none, none, none, none, some (some 79)])),
  .inr (.inl (4, [some (some 80), none])),
  .inl 12,
  .inr (.inl (3, [none, none, none, none, none, none, none, none, some (some 82)])),
  .inr (.inl (4, [some (some 83), none])),
  .inl 12,
  .inr (.inl (10, [some (some 85), some (some 90), some (some 92), some (some 93), some (some 94), some (some 95), some (some 97), some (some 99), some (some 101), none, none, none, none, none, none, none])),
  .inr (.inl (8, [some (some 86), some (some 87), some (some 88), some (some 89)])),
  .inl 16,
  .inl 16,
  .inl 256,
  .inl 256,
  .inr (.inl (4, [some (some 91), none])),
  .inl 18,
  .inr (.inr (1, 24, fun j => if j < 24 then some (102 + 1 * j) else none)),
  .inr (.inr (2, 12, fun j => if j < 12 then some (126 + 3 * j) else none)),
  .inr (.inr (3, 8, fun _ => none)),
  .inr (.inl (4, [some (some 96), none])),
  .inl 72,
  .inr (.inl (4, [some (some 98), none])),
  .inl 18,
  .inr (.inl (4, [some (some 100), none])),
  .inl 60,
  .inl 10,
  .inr (.inl (2, [none, none, none, none, none, none, none, none, none, none, none, none, none, none, none])),
  .inr (.inl (2, [none, none, none, none, none, none, none, none, none, none, none, none, none, none, none])),
  .inr (.inl (2, [none, none, none, none, none, none, none, none, none, none, none, none, none, none, none])),
  .inr (.inl (2, [none, none, none, none, none, none, none, none, none, none, none, none, none, none, none])),
  .inr (.inl (2, [none, none, none, none, none, none, none, none, none, none, none, none, none, none, none])),
  .inr (.inl (2, [none, none, none, none, none, none, none, none, none, none, none, none, none, none, none])),
  .inr (.inl (2, [none, none, none, none, none, none, none, none, none, none, none, none, none, none, none])),
  .inr (.inl (2, [none, none, none, none, none, none, none, none, none, none, none, none, none, none, none])),
  .inr (.inl (2, [none, none, none, none, none, none, none, none, none, none, none, none, none, none, none])),
  .inr (.inl (2, [none, none, none, none, none, none, none, none, none, none, none, none, none, none, none])),
  .inr (.inl (2, [none, none, none, none, none, none, none, none, none, none, none, none, none, none, none])),
  .inr (.inl (2, [none, none, none, none, none, none, none, none, none, none, none, none, none, none, none])),
  .inr (.inl (2, [none, none, none, none, none, none, none, none, none, none, none, none, none, none, none])),
  .inr (.inl (2, [none, none, none, none, none, none, none, none, none, none, none, none, none, none, none])),
  .inr (.inl (2, [none, none, none, none, none, none, none, none, none, none, none, none, none, none, none])),
  .inr (.inl (2, [none, none, none, none, none, none, none, none, none, none, none, none, none, none, none])),
  .inr (.inl (2, [none, none, none, none, none, none, none, none, none, none, none, none, none, none, none])),
  .inr (.inl (2, [none, none, none, none, none, none, none, none, none, none, none, none, none, none, none])),
  .inr (.inl (2, [none, none, none, none, none, none, none, none, none, none, none, none, none, none, none])),
  .inr (.inl (2, [none, none, none, none, none, none, none, none, none, none, none, none, none, none, none])),
  .inr (.inl (2, [none, none, none, none, none, none, none, none, none, none, none, none, none, none, none])),
  .inr (.inl (2, [none, none, none, none, none, none, none, none, none, none, none, none, none, none, none])),
  .inr (.inl (2, [none, none, none, none, none, none, none, none, none, none, none, none, none, none, none])),
  .inr (.inl (2, [none, none, none, none, none, none, none, none, none, none, none, none, none, none, none])),
  .inr (.inl (3, [none, none, none, none, none, none, none, none, some (some 127)])),
  .inr (.inl (4, [some (some 128), none])),
  .inl 12,
  .inr (.inl (3, [none, none, none, none, none, none, none, none, some (some 130)])),
  .inr (.inl (4, [some (some 131), none])),
  .inl 12,
  .inr (.inl (3, [none, none, none, none, none, none, none, none, some (some 133)])),
  .inr (.inl (4, [some (some 134), none])),
  .inl 12,
  .inr (.inl (3, [none, none, none, none, none, none, none, none, some (some 136)])),
  .inr (.inl (4, [some (some 137), none])),
  .inl 12,
  .inr (.inl (3, [none, none, none, none, none, none, none, none, some (some 139)])),
  .inr (.inl (4, [some (some 140), none])),
  .inl 12,
  .inr (.inl (3, [none, none, none, none, none, none, none, none, some (some 142)])),
  .inr (.inl (4, [some (some 143), none])),
  .inl 12,
  .inr (.inl (3, [none, none, none, none, none, none, none, none, some (some 145)])),
  .inr (.inl (4, [some (some 146), none])),
  .inl 12,
  .inr (.inl (3, [none, none, none, none, none, none, none, none, some (some 148)])),
  .inr (.inl (4, [some (some 149), none])),
  .inl 12,
  .inr (.inl (3, [none, none, none, none, none, none, none, none, some (some 151)])),
  .inr (.inl (4, [some (some 152), none])),
  .inl 12,
  .inr (.inl (3, [none, none, none, none, none, none, none, none, some (some 154)])),
  .inr (.inl (4, [some (some 155), none])),
  .inl 12,
  .inr (.inl (3, [none, none, none, none, none, none, none, none, some (some 157)])),
  .inr (.inl (4, [some (some 158), none])),
  .inl 12,
  .inr (.inl (3, [none, none, none, none, none, none, none, none, some (some 160)])),
  .inr (.inl (4, [some (some 161), none])),
  .inl 12,
  .inr (.inl (6, [some (some 163), none, some (some 164), none, none, none, none, none])),
  .inl 80,
  .inl 80,
  .inr (.inr (4, 4, fun j => if j < 4 then some (166 + 2 * j) else none)),
  .inr (.inl (5, [some (some 167), none, none])),
  .inl 60,
  .inr (.inl (5, [some (some 169), none, none])),
  .inl 60,
  .inr (.inl (5, [some (some 171), none, none])),
  .inl 60,
  .inr (.inl (5, [some (some 173), none, none])),
  .inl 60,
  .inl 7,
  .inr (.inl (9, [some (some 7), some (some 176), some (some 177), none, none, none, none, none, none, none, none])),
  .inl 4,
  .inl 4,
  .inr (.inl (0, [some (some 179), some (some 180)])),
  .inl 7,
  .inl 80,
  .inr (.inl (1, [some (some 6), some (some 175), some (some 178), some (some 182), some (some 183), some (some 184), some (some 185), none, none, none])),
  .inl 12,
  .inl 12,
  .inl 12,
  .inl 24,
  .inr (.inl (12, [some (some 187), some (some 188), none, some (some 189), some (some 190), none, none, none, none, some (some 191), some (some 192), none, none, some (some 193), none, none, none, none, none, none, none, some (some 194), some (some 195), some (some 196), some (some 197), some (some 198), some (some 199), some (some 200), none, none, some (some 201), some (some 202), some (some 203), some (some 204)])),
  .inl 2296,
  .inl 2296,
  .inl 7,
  .inl 256,
  .inl 2,
  .inl 2,
  .inl 80,
  .inl 164,
  .inl 128,
  .inl 84,
  .inl 12,
  .inl 12,
  .inl 12,
  .inl 24,
  .inl 4,
  .inl 4,
  .inl 240,
  .inl 60]
def bz_kd (a : Nat) : bz_KD := bz_kinds.getD a (.inl 0)
def bz_fl (g : Nat → Int32) : Nat → List (Option (Option Nat)) → List bz_V
  | _, [] => []
  | k, none :: r => .inl (g k) :: bz_fl g (k + 1) r
  | k, some x :: r => .inr x :: bz_fl g (k + 1) r
def bz_cellK (kd : bz_KD) (g : Nat → Int32) (q : Nat → Option Nat) : bz_C := match kd with
  | .inl n => bz_ci n g
  | .inr (.inl (c, fs)) => bz_co c (bz_fl g 0 fs)
  | .inr (.inr (t, n, f)) => bz_cr t n (if t = 3 then q else f)
def bz_cell (S : bz_S) (a : Nat) : bz_C := bz_cellK (bz_kd a) (S.1 a) (S.2.1 a)
def bz_tc : Nat → List (Nat × (Nat → Int32)) → List bz_C
  | _, [] => []
  | i, q :: r => bz_co 7 [.inr (some (i + 1))] :: bz_ci q.1 q.2 :: bz_tc (i + 2) r
def bz_und (j : Nat) : Int32 := ([-1, 0, 0, 0, 1, 1, 3] : List Int32).getD j 0
def bz_lin (j : Nat) : Int32 := ([0, 1, 2, 3, 2, 3, 0, 1, 0, 2, 1, 3, 0, 2, 3, 1, 2, 0, 1, 3, 2, 0, 3, 1] : List Int32).getD j 0
def bz_olds (E : Nat × (Nat → Int32)) : List bz_C := [bz_ci 7 bz_und, bz_ci 24 bz_lin, bz_ci E.1 E.2, bz_co 99 [], bz_co 99 []]
def bz_hp (E : Nat × (Nat → Int32)) (S : bz_S) : bz_H := bz_olds E ++ ((List.range 200).map (fun i => bz_cell S (i + 5)) ++ bz_tc 205 S.2.2)
theorem bz_hp_get {E : Nat × (Nat → Int32)} {S : bz_S} {a : Nat} (h5 : 5 ≤ a) (h : a < 205) : (bz_hp E S)[a]? = some (bz_cell S a) := by
  unfold bz_hp
  rw [List.getElem?_append_right (by show 5 ≤ a; exact h5), List.getElem?_append_left (by rw [List.length_map, List.length_range]; show a - 5 < 200; omega), List.getElem?_map, List.getElem?_range (by show a - 5 < 200; omega)]
  show some (bz_cell S (a - 5 + 5)) = _
  rw [show a - 5 + 5 = a by omega]
theorem bz_hp_set {E : Nat × (Nat → Int32)} {S S' : bz_S} {a : Nat} (h5 : 5 ≤ a) (h : a < 205) (hc : ∀ b, b ≠ a → bz_cell S' b = bz_cell S b) (ht : S'.2.2 = S.2.2) : (bz_hp E S).set a (bz_cell S' a) = bz_hp E S' := by
  unfold bz_hp
  rw [ht, List.set_append_right _ _ (by show 5 ≤ a; exact h5), List.set_append_left _ _ (by rw [List.length_map, List.length_range]; show a - 5 < 200; omega)]
  congr 2
  apply List.ext_getElem?
  intro i
  show ((List.map (fun i => bz_cell S (i + 5)) (List.range 200)).set (a - 5) (bz_cell S' a))[i]? = _
  by_cases hi : i < 200
  · by_cases hia : i = a - 5
    · subst hia
      rw [List.getElem?_set_self (by rw [List.length_map, List.length_range]; omega), List.getElem?_map, List.getElem?_range (by omega)]
      show _ = some (bz_cell S' (a - 5 + 5))
      rw [show a - 5 + 5 = a by omega]
    · rw [List.getElem?_set_ne (Ne.symm hia), List.getElem?_map, List.getElem?_map, List.getElem?_range hi]
      show some (bz_cell S (i + 5)) = some (bz_cell S' (i + 5))
      rw [hc (i + 5) (by omega)]
  · rw [List.getElem?_eq_none (by rw [List.length_set, List.length_map, List.length_range]; omega), List.getElem?_eq_none (by rw [List.length_map, List.length_range]; omega)]
/-- a number of the state becomes v -/
def bz_u (μ : Nat → Nat → Int32) (a k : Nat) (v : Int32) : Nat → Nat → Int32 := fun b => if b = a then upd (μ b) k v else μ b
/-- a row of the state becomes g -/
def bz_ur (μ : Nat → Nat → Int32) (a : Nat) (g : Nat → Int32) : Nat → Nat → Int32 := fun b => if b = a then g else μ b
theorem bz_u_ur (μ : Nat → Nat → Int32) (a k : Nat) (v : Int32) : bz_u μ a k v = bz_ur μ a (upd (μ a) k v) := by
  funext b
  unfold bz_u bz_ur
  by_cases h : b = a
  · subst h; simp
  · rw [if_neg h, if_neg h]
theorem bz_hp_row {E : Nat × (Nat → Int32)} {S : bz_S} {a : Nat} {g : Nat → Int32} (h5 : 5 ≤ a) (h : a < 205) : (bz_hp E S).set a (bz_cellK (bz_kd a) g (S.2.1 a)) = bz_hp E (bz_ur S.1 a g, S.2) := by
  have h1 : bz_cell (bz_ur S.1 a g, S.2) a = bz_cellK (bz_kd a) g (S.2.1 a) := by
    unfold bz_cell bz_ur
    dsimp only
    rw [if_pos rfl]
  rw [← h1]
  refine bz_hp_set h5 h (fun b hb => ?_) rfl
  unfold bz_cell bz_ur
  dsimp only
  rw [if_neg hb]
theorem bz_fl_get (g : Nat → Int32) : ∀ (fs : List (Option (Option Nat))) (i k : Nat), (bz_fl g i fs)[k]? = fs[k]?.map (fun q => match q with | none => .inl (g (i + k)) | some x => .inr x)
  | [], i, k => by simp [bz_fl]
  | none :: r, i, 0 => by simp [bz_fl]
  | some x :: r, i, 0 => by simp [bz_fl]
  | none :: r, i, k + 1 => by
    rw [bz_fl, List.getElem?_cons_succ, bz_fl_get g r (i + 1) k, List.getElem?_cons_succ, show i + 1 + k = i + (k + 1) by omega]
  | some x :: r, i, k + 1 => by
    rw [bz_fl, List.getElem?_cons_succ, bz_fl_get g r (i + 1) k, List.getElem?_cons_succ, show i + 1 + k = i + (k + 1) by omega]
theorem bz_fl_len (g : Nat → Int32) : ∀ (fs : List (Option (Option Nat))) (i : Nat), (bz_fl g i fs).length = fs.length
  | [], i => rfl
  | none :: r, i => by rw [bz_fl, List.length_cons, bz_fl_len g r (i + 1), List.length_cons]
  | some x :: r, i => by rw [bz_fl, List.length_cons, bz_fl_len g r (i + 1), List.length_cons]
theorem bz_fl_set (g : Nat → Int32) (fs : List (Option (Option Nat))) (k : Nat) (v : Int32) (h : fs[k]? = some none) : (bz_fl g 0 fs).set k (.inl v) = bz_fl (upd g k v) 0 fs := by
  have hl : k < fs.length := (List.getElem?_eq_some_iff.mp h).1
  apply List.ext_getElem?
  intro i
  by_cases hik : i = k
  · subst hik
    rw [List.getElem?_set_self (by rw [bz_fl_len]; exact hl), bz_fl_get, h]
    simp [upd]
  · rw [List.getElem?_set_ne (Ne.symm hik), bz_fl_get, bz_fl_get]
    cases fs[i]? with
    | none => rfl
    | some q =>
      cases q with
      | none => simp [upd, hik]
      | some x => rfl
/-! looking things up in the table of kinds: all by evaluation -/
def bz_isI (a ci k : Nat) : Bool := decide (5 ≤ a) && decide (a < 205) && (match bz_kd a with
  | .inr (.inl (c, fs)) => decide (c = ci) && (match fs[k]? with | some none => true | _ => false)
  | _ => false)
def bz_rf (a ci k : Nat) : Option (Option Nat) := if 5 ≤ a ∧ a < 205 then (match bz_kd a with
  | .inr (.inl (c, fs)) => if c = ci then (match fs[k]? with | some (some x) => some x | _ => none) else none
  | _ => none) else none
def bz_ln (a : Nat) : Option Nat := if 5 ≤ a ∧ a < 205 then (match bz_kd a with
  | .inl n => some n
  | _ => none) else none
def bz_qf (a : Nat) : Option (Nat × Nat × (Nat → Option Nat)) := if 5 ≤ a ∧ a < 205 then (match bz_kd a with
  | .inr (.inr q) => some q
  | _ => none) else none
def bz_cls (a : Nat) : Option Nat := if 5 ≤ a ∧ a < 205 then (match bz_kd a with
  | .inr (.inl (c, fs)) => some c
  | _ => none) else none
theorem bz_isI_of {a ci k : Nat} (h : bz_isI a ci k = true) : 5 ≤ a ∧ a < 205 ∧ ∃ fs, bz_kd a = .inr (.inl (ci, fs)) ∧ fs[k]? = some none := by
  unfold bz_isI at h
  simp only [Bool.and_eq_true, decide_eq_true_eq] at h
  obtain ⟨⟨h1, h2⟩, h3⟩ := h
  refine ⟨h1, h2, ?_⟩
  split at h3
  · next c fs e =>
    simp only [Bool.and_eq_true, decide_eq_true_eq] at h3
    obtain ⟨rfl, h4⟩ := h3
    refine ⟨fs, e, ?_⟩
    split at h4
    · next e2 => exact e2
    · cases h4
  · cases h3
theorem bz_rf_of {a ci k : Nat} {x : Option Nat} (h : bz_rf a ci k = some x) : 5 ≤ a ∧ a < 205 ∧ ∃ fs, bz_kd a = .inr (.inl (ci, fs)) ∧ fs[k]? = some (some x) := by
  unfold bz_rf at h
  split at h
  · next h0 =>
    refine ⟨h0.1, h0.2, ?_⟩
    split at h
    · next c fs e =>
      split at h
      · next hc =>
        subst hc
        refine ⟨fs, e, ?_⟩
        split at h
        · next y e2 => rw [e2]; cases h; rfl
        · cases h
      · cases h
    · cases h
  · cases h
theorem bz_ln_of {a n : Nat} (h : bz_ln a = some n) : 5 ≤ a ∧ a < 205 ∧ bz_kd a = .inl n := by
  unfold bz_ln at h
  split at h
  · next h0 =>
    split at h
    · next m e => cases h; exact ⟨h0.1, h0.2, e⟩
    · cases h
  · cases h
theorem bz_qf_of {a : Nat} {q : Nat × Nat × (Nat → Option Nat)} (h : bz_qf a = some q) : 5 ≤ a ∧ a < 205 ∧ bz_kd a = .inr (.inr q) := by
  unfold bz_qf at h
  split at h
  · next h0 =>
    split at h
    · next m e => cases h; exact ⟨h0.1, h0.2, e⟩
    · cases h
  · cases h
theorem bz_cls_of {a c : Nat} (h : bz_cls a = some c) : 5 ≤ a ∧ a < 205 ∧ ∃ fs, bz_kd a = .inr (.inl (c, fs)) := by
  unfold bz_cls at h
  split at h
  · next h0 =>
    split at h
    · next m fs e => cases h; exact ⟨h0.1, h0.2, fs, e⟩
    · cases h
  · cases h
section BZS
variable {E : Nat × (Nat → Int32)} {S : bz_S} {a ci k n : Nat}
theorem ap_rI {P : Int32 → Prop} (h : bz_isI a ci k = true) (hP : P (S.1 a k)) : bz_rI (bz_hp E S) a ci k P := by
  obtain ⟨h1, h2, fs, e1, e2⟩ := bz_isI_of h
  refine ⟨bz_fl (S.1 a) 0 fs, S.1 a k, h1, ?_, ?_, hP⟩
  · rw [bz_hp_get h1 h2]; unfold bz_cell; rw [e1]; rfl
  · rw [bz_fl_get, e2, Nat.zero_add]; rfl
theorem ap_rR {P : Option Nat → Prop} {x : Option Nat} (h : bz_rf a ci k = some x) (hP : P x) : bz_rR (bz_hp E S) a ci k P := by
  obtain ⟨h1, h2, fs, e1, e2⟩ := bz_rf_of h
  refine ⟨bz_fl (S.1 a) 0 fs, x, h1, ?_, ?_, hP⟩
  · rw [bz_hp_get h1 h2]; unfold bz_cell; rw [e1]; rfl
  · rw [bz_fl_get, e2]; rfl
theorem ap_wI {P : bz_H → Prop} {v : Int32} (h : bz_isI a ci k = true) (hP : P (bz_hp E (bz_u S.1 a k v, S.2))) : bz_wI (bz_hp E S) a ci k v P := by
  obtain ⟨h1, h2, fs, e1, e2⟩ := bz_isI_of h
  refine ⟨bz_fl (S.1 a) 0 fs, h1, ?_, ?_, ?_⟩
  · rw [bz_hp_get h1 h2]; unfold bz_cell; rw [e1]; rfl
  · rw [bz_fl_len]; exact (List.getElem?_eq_some_iff.mp e2).1
  · rw [bz_fl_set _ _ _ _ e2]
    have e := bz_hp_row (E := E) (S := S) (g := upd (S.1 a) k v) h1 h2
    rw [e1] at e
    rw [← bz_u_ur] at e
    have e' : (bz_hp E S).set a (bz_co ci (bz_fl (upd (S.1 a) k v) 0 fs)) = bz_hp E (bz_u S.1 a k v, S.2) := e
    rw [e']
    exact hP
theorem ap_rA {P : Int32 → Prop} {j : Int32} (h : bz_ln a = some n) (hin : vp_in j n) (hP : P (S.1 a j.toNatClampNeg)) : bz_rA (bz_hp E S) a j P := by
  obtain ⟨h1, h2, e1⟩ := bz_ln_of h
  refine ⟨n, S.1 a, Or.inr h1, ?_, hin, hP⟩
  rw [bz_hp_get h1 h2]; unfold bz_cell; rw [e1]; rfl
theorem ap_rN {P : Int32 → Prop} (h : bz_ln a = some n) (hP : P (Int32.ofNat n)) : bz_rN (bz_hp E S) a P := by
  obtain ⟨h1, h2, e1⟩ := bz_ln_of h
  refine ⟨n, S.1 a, Or.inr h1, ?_, hP⟩
  rw [bz_hp_get h1 h2]; unfold bz_cell; rw [e1]; rfl
theorem ap_wA {P : bz_H → Prop} {j v : Int32} (h : bz_ln a = some n) (hin : vp_in j n) (hP : P (bz_hp E (bz_u S.1 a j.toNatClampNeg v, S.2))) : bz_wA (bz_hp E S) a j v P := by
  obtain ⟨h1, h2, e1⟩ := bz_ln_of h
  refine ⟨n, S.1 a, h1, ?_, hin, ?_⟩
  · rw [bz_hp_get h1 h2]; unfold bz_cell; rw [e1]; rfl
  · have e := bz_hp_row (E := E) (S := S) (g := upd (S.1 a) j.toNatClampNeg v) h1 h2
    rw [e1] at e
    rw [← bz_u_ur] at e
    have e' : (bz_hp E S).set a (bz_ci n (upd (S.1 a) j.toNatClampNeg v)) = bz_hp E (bz_u S.1 a j.toNatClampNeg v, S.2) := e
    rw [e']
    exact hP
theorem ap_rQ {P : Option Nat → Prop} {j : Int32} {t : Nat} {f : Nat → Option Nat} (h : bz_qf a = some (t, n, f)) (ht : 1 ≤ t ∧ t ≤ 4) (hin : vp_in j n) (hP : P ((if t = 3 then S.2.1 a else f) j.toNatClampNeg)) : bz_rQ (bz_hp E S) a j P := by
  obtain ⟨h1, h2, e1⟩ := bz_qf_of h
  refine ⟨t, n, _, h1, ?_, ht, hin, hP⟩
  rw [bz_hp_get h1 h2]; unfold bz_cell; rw [e1]; rfl
theorem ap_rc {P : Prop} (h : bz_cls a = some ci) (hP : P) : bz_rc (bz_hp E S) a ci P := by
  obtain ⟨h1, h2, fs, e1⟩ := bz_cls_of h
  refine ⟨bz_fl (S.1 a) 0 fs, h1, ?_, hP⟩
  rw [bz_hp_get h1 h2]; unfold bz_cell; rw [e1]; rfl
theorem ap_nn {P : Nat → Prop} (hP : P a) : bz_nn (some a) P := ⟨a, rfl, hP⟩
theorem ap_rA0 {P : Int32 → Prop} {j : Int32} (hin : vp_in j 7) (hP : P (bz_und j.toNatClampNeg)) : bz_rA (bz_hp E S) 0 j P := ⟨7, bz_und, Or.inl (by decide), rfl, hin, hP⟩
theorem ap_rA1 {P : Int32 → Prop} {j : Int32} (hin : vp_in j 24) (hP : P (bz_lin j.toNatClampNeg)) : bz_rA (bz_hp E S) 1 j P := ⟨24, bz_lin, Or.inl (by decide), rfl, hin, hP⟩
theorem ap_rA2 {P : Int32 → Prop} {j : Int32} (hin : vp_in j E.1) (hP : P (E.2 j.toNatClampNeg)) : bz_rA (bz_hp E S) 2 j P := ⟨E.1, E.2, Or.inl (by decide), rfl, hin, hP⟩
theorem ap_rN2 {P : Int32 → Prop} (hP : P (Int32.ofNat E.1)) : bz_rN (bz_hp E S) 2 P := ⟨E.1, E.2, Or.inl (by decide), rfl, hP⟩
theorem ap_cp {P : bz_H → Prop} {b m : Nat} {sp dp q : Int32} (h : bz_ln a = some n) (h' : bz_ln b = some m) (hb : ¬ sp < 0 ∧ ¬ dp < 0 ∧ ¬ q < 0 ∧ sp.toNatClampNeg + q.toNatClampNeg ≤ n ∧ dp.toNatClampNeg + q.toNatClampNeg ≤ m) (hP : P (bz_hp E (bz_ur S.1 b (va_cpy (S.1 a) (S.1 b) sp.toNatClampNeg dp.toNatClampNeg q.toNatClampNeg), S.2))) : bz_cp (bz_hp E S) a sp b dp q P := by
  obtain ⟨h1, h2, e1⟩ := bz_ln_of h
  obtain ⟨g1, g2, e2⟩ := bz_ln_of h'
  refine ⟨n, m, S.1 a, S.1 b, h1, ?_, g1, ?_, hb, ?_⟩
  · rw [bz_hp_get h1 h2]; unfold bz_cell; rw [e1]; rfl
  · rw [bz_hp_get g1 g2]; unfold bz_cell; rw [e2]; rfl
  · have e := bz_hp_row (E := E) (S := S) (g := va_cpy (S.1 a) (S.1 b) sp.toNatClampNeg dp.toNatClampNeg q.toNatClampNeg) g1 g2
    rw [e2] at e
    have e' : (bz_hp E S).set b (bz_ci m (va_cpy (S.1 a) (S.1 b) sp.toNatClampNeg dp.toNatClampNeg q.toNatClampNeg)) = bz_hp E (bz_ur S.1 b (va_cpy (S.1 a) (S.1 b) sp.toNatClampNeg dp.toNatClampNeg q.toNatClampNeg), S.2) := e
    rw [e']
    exact hP
end BZS
theorem kd_ord : ∀ o, o < 24 → ∀ k, k < 15 → bz_isI (24 + o) 2 k = true := by decide +kernel
theorem kd_ordK : ∀ o, o < 24 → ∀ k, k < 15 → bz_isI (102 + o) 2 k = true := by decide +kernel
theorem kd_rid : ∀ r, r < 12 → ∀ k, k < 8 → bz_isI (48 + 3 * r) 3 k = true := by decide +kernel
theorem kd_ridK : ∀ r, r < 12 → ∀ k, k < 8 → bz_isI (126 + 3 * r) 3 k = true := by decide +kernel
theorem kd_ridA : ∀ r, r < 12 → bz_rf (48 + 3 * r) 3 8 = some (some (49 + 3 * r)) ∧ bz_rf (126 + 3 * r) 3 8 = some (some (127 + 3 * r)) := by decide +kernel
theorem kd_app : ∀ r, r < 12 → bz_isI (49 + 3 * r) 4 1 = true ∧ bz_rf (49 + 3 * r) 4 0 = some (some (50 + 3 * r)) ∧ bz_ln (50 + 3 * r) = some 12 := by decide +kernel
theorem kd_appK : ∀ r, r < 12 → bz_isI (127 + 3 * r) 4 1 = true ∧ bz_rf (127 + 3 * r) 4 0 = some (some (128 + 3 * r)) ∧ bz_ln (128 + 3 * r) = some 12 := by decide +kernel
theorem kd_she : ∀ s, s < 4 → bz_isI (166 + 2 * s) 5 1 = true ∧ bz_isI (166 + 2 * s) 5 2 = true ∧ bz_rf (166 + 2 * s) 5 0 = some (some (167 + 2 * s)) ∧ bz_ln (167 + 2 * s) = some 60 := by decide +kernel
theorem kd_clO : ∀ o, o < 24 → bz_cls (24 + o) = some 2 ∧ bz_cls (102 + o) = some 2 := by decide +kernel
theorem kd_clR : ∀ r, r < 12 → bz_cls (48 + 3 * r) = some 3 ∧ bz_cls (126 + 3 * r) = some 3 ∧ bz_cls (49 + 3 * r) = some 4 ∧ bz_cls (127 + 3 * r) = some 4 := by decide +kernel
theorem kd_clS : ∀ s, s < 4 → bz_cls (166 + 2 * s) = some 5 := by decide +kernel
