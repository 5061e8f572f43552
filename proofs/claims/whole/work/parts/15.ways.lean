def fb_ct (p : Nat → Bool) : Nat → Nat
  | 0 => 0
  | n + 1 => fb_ct p n + (if p n then 1 else 0)
theorem fb_ct_succ (p : Nat → Bool) (n : Nat) : fb_ct p (n + 1) = fb_ct p n + (if p n then 1 else 0) := rfl
theorem fb_ct_le (p : Nat → Bool) : ∀ n, fb_ct p n ≤ n
  | 0 => Nat.le_refl _
  | n + 1 => by
    have h := fb_ct_le p n
    rw [fb_ct_succ]
    split <;> omega
theorem fb_ct_sub {p q : Nat → Bool} : ∀ {n : Nat}, (∀ k, k < n → p k = true → q k = true) → fb_ct p n ≤ fb_ct q n
  | 0, _ => Nat.le_refl _
  | n + 1, h => by
    have h1 := fb_ct_sub (n := n) (p := p) (q := q) (fun k hk => h k (by omega))
    have h2 := h n (by omega)
    rw [fb_ct_succ, fb_ct_succ]
    cases hp : p n <;> cases hq : q n <;> simp_all <;> omega
theorem fb_ct_or {p q : Nat → Bool} : ∀ {n : Nat}, (∀ k, k < n → ¬ (p k = true ∧ q k = true)) → fb_ct (fun k => p k || q k) n = fb_ct p n + fb_ct q n
  | 0, _ => rfl
  | n + 1, h => by
    have h1 := fb_ct_or (n := n) (p := p) (q := q) (fun k hk => h k (by omega))
    have h2 := h n (by omega)
    rw [fb_ct_succ, fb_ct_succ, fb_ct_succ, h1]
    cases hp : p n <;> cases hq : q n <;> simp_all <;> omega
/-! ways: distances through ever more crossings -/
def wy_add (x y : Option Nat) : Option Nat := match x, y with
  | some a, some b => some (a + b)
  | _, _ => none
def wy_min (x y : Option Nat) : Option Nat := match x, y with
  | some a, some b => some (if b < a then b else a)
  | some a, none => some a
  | none, q => q
def wy_D (f : Nat → Nat → Option Nat) : Nat → Nat → Nat → Option Nat
  | 0, a, b => f a b
  | k + 1, a, b => wy_min (wy_D f k a b) (wy_add (wy_D f k a k) (wy_D f k k b))
theorem wy_R (f : Nat → Nat → Option Nat) (k a b : Nat) : (wy_D f (k + 1) a b).isSome = ((wy_D f k a b).isSome || ((wy_D f k a k).isSome && (wy_D f k k b).isSome)) := by
  rw [wy_D]
  cases wy_D f k a b <;> cases wy_D f k a k <;> cases wy_D f k k b <;> rfl
theorem wy_close (f : Nat → Nat → Option Nat) : ∀ (k v a b : Nat), v < k → (wy_D f k a v).isSome = true → (wy_D f k v b).isSome = true → (wy_D f k a b).isSome = true
  | 0, v, a, b, h, _, _ => absurd h (Nat.not_lt_zero v)
  | k + 1, v, a, b, h, h1, h2 => by
    rw [wy_R, Bool.or_eq_true, Bool.and_eq_true] at h1 h2 ⊢
    have ih := wy_close f k
    rcases Nat.lt_or_ge v k with hv | hv
    · rcases h1 with h1 | ⟨h1, h1'⟩ <;> rcases h2 with h2 | ⟨h2, h2'⟩
      · exact Or.inl (ih v a b hv h1 h2)
      · exact Or.inr ⟨ih v a k hv h1 h2, h2'⟩
      · exact Or.inr ⟨h1, ih v k b hv h1' h2⟩
      · exact Or.inr ⟨h1, h2'⟩
    · have hvk : v = k := by omega
      subst hvk
      refine Or.inr ⟨?_, ?_⟩
      · rcases h1 with h1 | ⟨h1, -⟩ <;> exact h1
      · rcases h2 with h2 | ⟨-, h2⟩ <;> exact h2
def wy_bt (f : Nat → Nat → Option Nat) (k a b v : Nat) : Bool := (wy_D f k a v).isSome && (wy_D f k v b).isSome
theorem wy_bound {f : Nat → Nat → Option Nat} (hf : ∀ a b v, f a b = some v → v ≤ 69) : ∀ (k a b v : Nat), wy_D f k a b = some v → v ≤ 69 * (1 + fb_ct (wy_bt f k a b) k)
  | 0, a, b, v, h => by
    have := hf a b v h
    omega
  | k + 1, a, b, v, h => by
    have ih := wy_bound hf k
    have mono : ∀ x y, (wy_D f k x y).isSome = true → (wy_D f (k + 1) x y).isSome = true := fun x y q => by rw [wy_R, q]; rfl
    rw [wy_D] at h
    cases hab : wy_D f k a b with
    | some u =>
      have hu := ih a b u hab
      have hvu : v ≤ u := by
        rw [hab] at h
        cases hs : wy_add (wy_D f k a k) (wy_D f k k b) with
        | none => rw [hs] at h; cases h; exact Nat.le_refl _
        | some w =>
          rw [hs] at h
          have h' : (if w < u then w else u) = v := Option.some.inj h
          split at h' <;> omega
      have hc : fb_ct (wy_bt f k a b) k ≤ fb_ct (wy_bt f (k + 1) a b) (k + 1) := by
        rw [fb_ct_succ]
        have : fb_ct (wy_bt f k a b) k ≤ fb_ct (wy_bt f (k + 1) a b) k := fb_ct_sub (fun q _ hq => by
          unfold wy_bt at hq ⊢
          rw [Bool.and_eq_true] at hq ⊢
          exact ⟨mono _ _ hq.1, mono _ _ hq.2⟩)
        omega
      omega
    | none =>
      rw [hab] at h
      have h' : wy_add (wy_D f k a k) (wy_D f k k b) = some v := h
      cases hak : wy_D f k a k with
      | none => rw [hak] at h'; cases h'
      | some x =>
        cases hkb : wy_D f k k b with
        | none => rw [hak, hkb] at h'; cases h'
        | some y =>
          rw [hak, hkb] at h'
          have hv : x + y = v := Option.some.inj h'
          have hx := ih a k x hak
          have hy := ih k b y hkb
          have sak : (wy_D f k a k).isSome = true := by rw [hak]; rfl
          have skb : (wy_D f k k b).isSome = true := by rw [hkb]; rfl
          have hdis : ∀ q, q < k → ¬ (wy_bt f k a k q = true ∧ wy_bt f k k b q = true) := by
            intro q hq hh
            unfold wy_bt at hh
            rw [Bool.and_eq_true, Bool.and_eq_true] at hh
            have := wy_close f k q a b hq hh.1.1 hh.2.2
            rw [hab] at this
            cases this
          have hor := fb_ct_or (p := wy_bt f k a k) (q := wy_bt f k k b) (n := k) hdis
          have hsub : fb_ct (fun q => wy_bt f k a k q || wy_bt f k k b q) k ≤ fb_ct (wy_bt f (k + 1) a b) k := fb_ct_sub (fun q hq hh => by
            rw [Bool.or_eq_true] at hh
            unfold wy_bt at hh ⊢
            rw [Bool.and_eq_true]
            rcases hh with hh | hh
            · rw [Bool.and_eq_true] at hh
              refine ⟨mono _ _ hh.1, ?_⟩
              rw [wy_R, hh.2, skb]
              simp
            · rw [Bool.and_eq_true] at hh
              refine ⟨?_, mono _ _ hh.2⟩
              rw [wy_R, sak, hh.1]
              simp)
          have hk : wy_bt f (k + 1) a b k = true := by
            unfold wy_bt
            rw [Bool.and_eq_true]
            exact ⟨mono _ _ sak, mono _ _ skb⟩
          rw [fb_ct_succ, hk, if_pos rfl]
          omega
theorem wy_small {f : Nat → Nat → Option Nat} (hf : ∀ a b v, f a b = some v → v ≤ 69) {k a b v : Nat} (hk : k ≤ 16) (h : wy_D f k a b = some v) : v ≤ 1173 := by
  have h1 := wy_bound hf k a b v h
  have h2 := fb_ct_le (wy_bt f k a b) k
  omega
theorem wy_diag {f : Nat → Nat → Option Nat} (hf : ∀ a, f a a = some 0) : ∀ k a, wy_D f k a a = some 0
  | 0, a => hf a
  | k + 1, a => by
    rw [wy_D, wy_diag hf k a]
    cases wy_add (wy_D f k a k) (wy_D f k k a) with
    | none => rfl
    | some v => show some (if v < 0 then v else 0) = some 0; rw [if_neg (by omega)]
/-- through k itself nothing new comes to k or from it -/
theorem wy_col {f : Nat → Nat → Option Nat} (hf : ∀ a, f a a = some 0) (k a : Nat) : wy_D f (k + 1) a k = wy_D f k a k := by
  rw [wy_D, wy_diag hf k k]
  cases wy_D f k a k with
  | none => rfl
  | some v => show some (if v + 0 < v then v + 0 else v) = some v; rw [if_neg (by omega)]
theorem wy_rowk {f : Nat → Nat → Option Nat} (hf : ∀ a, f a a = some 0) (k b : Nat) : wy_D f (k + 1) k b = wy_D f k k b := by
  rw [wy_D, wy_diag hf k k]
  cases wy_D f k k b with
  | none => rfl
  | some v => show some (if 0 + v < v then 0 + v else v) = some v; rw [if_neg (by omega)]
