/-! how a tape is read -/
def t_sk (b : Nat → Nat) (N : Nat) : Nat → Nat → Nat
  | 0, p => p
  | f + 1, p => if p < N then (if b p = 32 then t_sk b N f (p + 1) else p) else p
def t_nm (b : Nat → Nat) (N : Nat) : Nat → Nat → Nat → Nat × Nat
  | 0, p, v => (v, p)
  | f + 1, p, v => if p < N ∧ 48 ≤ b p ∧ b p ≤ 57 then t_nm b N f (p + 1) (if v ≤ 9999 then 10 * v + b p - 48 else v) else (v, p)
def t_pl (b : Nat → Nat) (N p : Nat) : Nat := t_sk b N (N - p) p
def t_dg (c : Nat) : Prop := 48 ≤ c ∧ c ≤ 57
def t_ni (c : Nat) : Nat := if c = 100 then 0 else if c = 119 then 1 else if c = 104 then 2 else if c = 114 then 3 else if c = 108 then 4 else if c = 99 then 5 else if c = 110 then 6 else 7
def t_sg (c : Nat) : Prop := c = 43 ∨ c = 45 ∨ c = 42 ∨ c = 47 ∨ c = 40 ∨ c = 41 ∨ c = 60 ∨ c = 61
/-- a token: 0 end, 1 wrong, 2 number, 3 name, 4 sign; what it stands for -/
def t_tk (b : Nat → Nat) (N p : Nat) : Nat × Nat := if N ≤ t_pl b N p then (0, 0) else if 48 ≤ b (t_pl b N p) ∧ b (t_pl b N p) ≤ 57 then (if (t_nm b N (N - t_pl b N p) (t_pl b N p) 0).1 ≤ 9999 then (2, (t_nm b N (N - t_pl b N p) (t_pl b N p) 0).1) else (1, 0)) else if t_ni (b (t_pl b N p)) < 7 then (3, 10000 + t_ni (b (t_pl b N p))) else if b (t_pl b N p) = 43 ∨ b (t_pl b N p) = 45 ∨ b (t_pl b N p) = 42 ∨ b (t_pl b N p) = 47 ∨ b (t_pl b N p) = 40 ∨ b (t_pl b N p) = 41 ∨ b (t_pl b N p) = 60 ∨ b (t_pl b N p) = 61 then (4, b (t_pl b N p)) else (1, 0)
def t_nx (b : Nat → Nat) (N p : Nat) : Nat := if N ≤ t_pl b N p then t_pl b N p else if 48 ≤ b (t_pl b N p) ∧ b (t_pl b N p) ≤ 57 then (t_nm b N (N - t_pl b N p) (t_pl b N p) 0).2 else t_pl b N p + 1
theorem t_sk_b (b : Nat → Nat) (N : Nat) : ∀ f p, p ≤ N → p ≤ t_sk b N f p ∧ t_sk b N f p ≤ N
  | 0, p, h => ⟨Nat.le_refl _, h⟩
  | f + 1, p, h => by
    rw [t_sk]
    split
    · split
      · have := t_sk_b b N f (p + 1) (by omega)
        omega
      · omega
    · omega
theorem t_nm_b (b : Nat → Nat) (N : Nat) : ∀ f p v, p ≤ N → v ≤ 99999 → p ≤ (t_nm b N f p v).2 ∧ (t_nm b N f p v).2 ≤ N ∧ (t_nm b N f p v).1 ≤ 99999
  | 0, p, v, h, hv => ⟨Nat.le_refl _, h, hv⟩
  | f + 1, p, v, h, hv => by
    rw [t_nm]
    split
    · next q =>
      have := t_nm_b b N f (p + 1) (if v ≤ 9999 then 10 * v + b p - 48 else v) (by omega) (by split <;> omega)
      omega
    · exact ⟨Nat.le_refl _, h, hv⟩
theorem t_nx_b {b : Nat → Nat} {N p : Nat} (h : p ≤ N) : p ≤ t_nx b N p ∧ t_nx b N p ≤ N ∧ (¬ (t_tk b N p).1 = 0 → p < t_nx b N p ∧ p < N) := by
  have h1 := t_sk_b b N (N - p) p h
  unfold t_nx t_tk
  rw [show t_sk b N (N - p) p = t_pl b N p from rfl] at h1
  generalize t_pl b N p = q at *
  by_cases hq : N ≤ q
  · rw [if_pos hq, if_pos hq]
    exact ⟨h1.1, h1.2, fun z => absurd rfl z⟩
  · rw [if_neg hq, if_neg hq]
    by_cases hd : 48 ≤ b q ∧ b q ≤ 57
    · rw [if_pos hd]
      have h2 : (t_nm b N (N - q) q 0).2 = (t_nm b N (N - q - 1) (q + 1) (10 * 0 + b q - 48)).2 := by
        rw [show N - q = N - q - 1 + 1 by omega, t_nm, if_pos ⟨by omega, hd.1, hd.2⟩]
        rfl
      have h3 := t_nm_b b N (N - q - 1) (q + 1) (10 * 0 + b q - 48) (by omega) (by omega)
      omega
    · rw [if_neg hd]
      omega
theorem t_tk_k (b : Nat → Nat) (N p : Nat) : ((t_tk b N p).1 = 2 → (t_tk b N p).2 ≤ 9999) ∧ ((t_tk b N p).1 = 3 → 10000 ≤ (t_tk b N p).2 ∧ (t_tk b N p).2 ≤ 10006) ∧ (t_tk b N p).1 ≤ 4 := by
  unfold t_tk
  generalize t_pl b N p = q
  split
  · dsimp only; omega
  · split
    · split
      · dsimp only; omega
      · dsimp only; omega
    · split
      · dsimp only; omega
      · split
        · dsimp only; omega
        · dsimp only; omega
abbrev t_R : Type := Bool × Nat × List Nat
def t_b (r : t_R) (k : Nat → List Nat → t_R) : t_R := if r.1 = true then k r.2.1 r.2.2 else r
/-- 0 text, 1 sum, 2 its rest, 3 term, 4 its rest, 5 one -/
def t_p (b : Nat → Nat) (N : Nat) : Nat → Nat → Nat → Nat → List Nat → t_R
  | 0, _, _, p, st => (false, p, st)
  | f + 1, 0, k, p, st => t_b (t_p b N f 1 k p st) (fun p1 s1 => if t_tk b N p1 = (4, 60) ∨ t_tk b N p1 = (4, 61) then t_b (t_p b N f 1 k (t_nx b N p1) s1) (fun p2 s2 => (true, p2, s2 ++ [10007 + (t_tk b N p1).2])) else (true, p1, s1))
  | f + 1, 1, k, p, st => t_b (t_p b N f 3 k p st) (fun p1 s1 => t_p b N f 2 k p1 s1)
  | f + 1, 2, k, p, st => if t_tk b N p = (4, 43) ∨ t_tk b N p = (4, 45) then t_b (t_p b N f 3 k (t_nx b N p) st) (fun p1 s1 => t_p b N f 2 k p1 (s1 ++ [10007 + (t_tk b N p).2])) else (true, p, st)
  | f + 1, 3, k, p, st => t_b (t_p b N f 5 k p st) (fun p1 s1 => t_p b N f 4 k p1 s1)
  | f + 1, 4, k, p, st => if t_tk b N p = (4, 42) ∨ t_tk b N p = (4, 47) then t_b (t_p b N f 5 k (t_nx b N p) st) (fun p1 s1 => t_p b N f 4 k p1 (s1 ++ [10007 + (t_tk b N p).2])) else (true, p, st)
  | f + 1, _, k, p, st => if (t_tk b N p).1 = 2 ∨ (t_tk b N p).1 = 3 then (true, t_nx b N p, st ++ [(t_tk b N p).2]) else if t_tk b N p = (4, 45) then (if k < 6 then t_b (t_p b N f 5 (k + 1) (t_nx b N p) st) (fun p1 s1 => (true, p1, s1 ++ [10263])) else (false, p, st)) else if t_tk b N p = (4, 40) then (if k < 6 then t_b (t_p b N f 0 (k + 1) (t_nx b N p) st) (fun p1 s1 => if t_tk b N p1 = (4, 41) then (true, t_nx b N p1, s1) else (false, p1, s1)) else (false, p, st)) else (false, p, st)
def wl : List Nat → Nat → Option Nat
  | [], n => some n
  | c :: r, n => if c < 10007 then wl r (n + 1) else if c = 10263 then (if 1 ≤ n then wl r n else none) else (if 2 ≤ n then wl r (n - 1) else none)
theorem wl_app : ∀ (a c : List Nat) (n : Nat), wl (a ++ c) n = (wl a n).bind (wl c)
  | [], c, n => rfl
  | x :: a, c, n => by
    rw [List.cons_append, wl, wl]
    split
    · exact wl_app a c _
    · split
      · split
        · exact wl_app a c _
        · rfl
      · split
        · exact wl_app a c _
        · rfl
/-- what a success leaves -/
def t_G (N nt p : Nat) (st : List Nat) (r : t_R) : Prop := r.1 = true → p ≤ r.2.1 ∧ r.2.1 ≤ N ∧ (¬ nt = 2 → ¬ nt = 4 → p < r.2.1) ∧ r.2.2.length + p ≤ st.length + r.2.1 ∧ ((∀ c ∈ st, c ≤ 10263) → ∀ c ∈ r.2.2, c ≤ 10263) ∧ ∀ m, wl st 0 = some m → (¬ nt = 2 → ¬ nt = 4 → wl r.2.2 0 = some (m + 1)) ∧ ((nt = 2 ∨ nt = 4) → 1 ≤ m → wl r.2.2 0 = some m)
theorem t_b_t {r : t_R} {k : Nat → List Nat → t_R} (h : (t_b r k).1 = true) : r.1 = true ∧ t_b r k = k r.2.1 r.2.2 := by
  unfold t_b at h ⊢
  by_cases q : r.1 = true
  · exact ⟨q, if_pos q⟩
  · rw [if_neg q] at h
    exact absurd h q
theorem t_G_bin {N p p1 p2 c : Nat} {st s1 s2 : List Nat} (hp : p ≤ N) (hc : c < 256) (h1 : p < p1) (hn : s1.length + p ≤ st.length + p1) (h2 : p1 < p2) (h2N : p2 ≤ N) (hm : s2.length + (p1 + 1) ≤ s1.length + p2) (ha1 : (∀ c ∈ st, c ≤ 10263) → ∀ c ∈ s1, c ≤ 10263) (ha2 : (∀ c ∈ s1, c ≤ 10263) → ∀ c ∈ s2, c ≤ 10263) : (s2 ++ [10007 + c]).length + p ≤ st.length + p2 ∧ ((∀ c ∈ st, c ≤ 10263) → ∀ x ∈ s2 ++ [10007 + c], x ≤ 10263) := by
  refine ⟨by rw [List.length_append]; simp only [List.length_cons, List.length_nil]; omega, fun h x hx => ?_⟩
  rcases List.mem_append.mp hx with q | q
  · exact ha2 (ha1 h) x q
  · rw [List.mem_singleton.mp q]
    omega
theorem wl_1 {s : List Nat} {m c : Nat} (h : wl s 0 = some (m + 1 + 1)) (h1 : ¬ 10007 + c = 10263) : wl (s ++ [10007 + c]) 0 = some (m + 1) := by
  rw [wl_app, h]
  show wl [10007 + c] (m + 1 + 1) = _
  rw [wl, if_neg (by omega), if_neg h1, if_pos (by omega)]
  rfl
theorem t_sgc {b : Nat → Nat} {N p c1 c2 : Nat} (h : t_tk b N p = (4, c1) ∨ t_tk b N p = (4, c2)) : ¬ (t_tk b N p).1 = 0 ∧ ((t_tk b N p).2 = c1 ∨ (t_tk b N p).2 = c2) := by
  rcases h with h | h <;> rw [h]
  · exact ⟨(by decide : ¬ 4 = 0), Or.inl rfl⟩
  · exact ⟨(by decide : ¬ 4 = 0), Or.inr rfl⟩
theorem t_p_i (b : Nat → Nat) (N : Nat) : ∀ (f nt k p : Nat) (st : List Nat), nt ≤ 5 → p ≤ N → t_G N nt p st (t_p b N f nt k p st)
  | 0, nt, k, p, st, _, _ => fun h => by cases h
  | f + 1, nt, k, p, st, hnt, hp => by
    have ih := t_p_i b N f
    have tk0 := t_nx_b (b := b) hp
    rcases (by omega : nt = 0 ∨ nt = 1 ∨ nt = 2 ∨ nt = 3 ∨ nt = 4 ∨ nt = 5) with q | q | q | q | q | q <;> subst q
    · rw [t_p]
      intro h
      obtain ⟨r1, e1⟩ := t_b_t h
      rw [e1] at h ⊢
      obtain ⟨a1, a2, a3, a4, a5, a6⟩ := ih 1 k p st (by omega) hp r1
      generalize t_p b N f 1 k p st = R1 at *
      by_cases c : t_tk b N R1.2.1 = (4, 60) ∨ t_tk b N R1.2.1 = (4, 61)
      · rw [if_pos c] at h ⊢
        obtain ⟨z0, z1⟩ := t_sgc c
        have n1 := t_nx_b (b := b) a2
        obtain ⟨r2, e2⟩ := t_b_t h
        rw [e2] at h ⊢
        obtain ⟨b1, b2, b3, b4, b5, b6⟩ := ih 1 k _ R1.2.2 (by omega) n1.2.1 r2
        generalize t_p b N f 1 k (t_nx b N R1.2.1) R1.2.2 = R2 at *
        have g1 := a3 (by decide) (by decide)
        have g2 := b3 (by decide) (by decide)
        have g3 := (n1.2.2 z0).1
        obtain ⟨w1, w2⟩ := t_G_bin (c := (t_tk b N R1.2.1).2) (p1 := R1.2.1) (p2 := R2.2.1) hp (by omega) g1 a4 (by omega) b2 (by omega) a5 b5
        refine ⟨by show p ≤ R2.2.1; omega, b2, fun _ _ => by show p < R2.2.1; omega, w1, w2, fun m hm => ⟨fun _ _ => ?_, fun q => by omega⟩⟩
        exact wl_1 ((b6 _ ((a6 m hm).1 (by decide) (by decide))).1 (by decide) (by decide)) (by omega)
      · rw [if_neg c] at h ⊢
        exact ⟨a1, a2, fun _ _ => a3 (by decide) (by decide), a4, a5, fun m hm => ⟨fun _ _ => (a6 m hm).1 (by decide) (by decide), fun q => by omega⟩⟩
    · rw [t_p]
      intro h
      obtain ⟨r1, e1⟩ := t_b_t h
      rw [e1] at h ⊢
      obtain ⟨a1, a2, a3, a4, a5, a6⟩ := ih 3 k p st (by omega) hp r1
      generalize t_p b N f 3 k p st = R1 at *
      obtain ⟨b1, b2, b3, b4, b5, b6⟩ := ih 2 k R1.2.1 R1.2.2 (by omega) a2 h
      generalize t_p b N f 2 k R1.2.1 R1.2.2 = R2 at *
      have g1 := a3 (by decide) (by decide)
      exact ⟨by omega, b2, fun _ _ => by omega, by omega, fun q => b5 (a5 q), fun m hm => ⟨fun _ _ => (b6 _ ((a6 m hm).1 (by decide) (by decide))).2 (Or.inl rfl) (by omega), fun q => by omega⟩⟩
    · rw [t_p]
      intro h
      by_cases c : t_tk b N p = (4, 43) ∨ t_tk b N p = (4, 45)
      · rw [if_pos c] at h ⊢
        obtain ⟨z0, z1⟩ := t_sgc c
        obtain ⟨r1, e1⟩ := t_b_t h
        rw [e1] at h ⊢
        obtain ⟨a1, a2, a3, a4, a5, a6⟩ := ih 3 k _ st (by omega) tk0.2.1 r1
        generalize t_p b N f 3 k (t_nx b N p) st = R1 at *
        obtain ⟨b1, b2, b3, b4, b5, b6⟩ := ih 2 k R1.2.1 _ (by omega) a2 h
        generalize t_p b N f 2 k R1.2.1 (R1.2.2 ++ [10007 + (t_tk b N p).2]) = R2 at *
        have g1 := a3 (by decide) (by decide)
        have g3 := (tk0.2.2 z0).1
        rw [List.length_append] at b4
        simp only [List.length_cons, List.length_nil] at b4
        refine ⟨by omega, b2, fun q => absurd rfl q, by omega, fun q => b5 (fun x hx => ?_), fun m hm => ⟨fun q => absurd rfl q, fun _ h1 => ?_⟩⟩
        · rcases List.mem_append.mp hx with y | y
          · exact a5 q x y
          · rw [List.mem_singleton.mp y]; omega
        · have w := (a6 m hm).1 (by decide) (by decide)
          obtain ⟨m', rfl⟩ : ∃ m', m = m' + 1 := ⟨m - 1, by omega⟩
          exact (b6 _ (wl_1 w (by omega))).2 (Or.inl rfl) (by omega)
      · rw [if_neg c]
        exact ⟨Nat.le_refl _, hp, fun q => absurd rfl q, Nat.le_refl _, fun q => q, fun m hm => ⟨fun q => absurd rfl q, fun _ _ => hm⟩⟩
    · rw [t_p]
      intro h
      obtain ⟨r1, e1⟩ := t_b_t h
      rw [e1] at h ⊢
      obtain ⟨a1, a2, a3, a4, a5, a6⟩ := ih 5 k p st (by omega) hp r1
      generalize t_p b N f 5 k p st = R1 at *
      obtain ⟨b1, b2, b3, b4, b5, b6⟩ := ih 4 k R1.2.1 R1.2.2 (by omega) a2 h
      generalize t_p b N f 4 k R1.2.1 R1.2.2 = R2 at *
      have g1 := a3 (by decide) (by decide)
      exact ⟨by omega, b2, fun _ _ => by omega, by omega, fun q => b5 (a5 q), fun m hm => ⟨fun _ _ => (b6 _ ((a6 m hm).1 (by decide) (by decide))).2 (Or.inr rfl) (by omega), fun q => by omega⟩⟩
    · rw [t_p]
      intro h
      by_cases c : t_tk b N p = (4, 42) ∨ t_tk b N p = (4, 47)
      · rw [if_pos c] at h ⊢
        obtain ⟨z0, z1⟩ := t_sgc c
        obtain ⟨r1, e1⟩ := t_b_t h
        rw [e1] at h ⊢
        obtain ⟨a1, a2, a3, a4, a5, a6⟩ := ih 5 k _ st (by omega) tk0.2.1 r1
        generalize t_p b N f 5 k (t_nx b N p) st = R1 at *
        obtain ⟨b1, b2, b3, b4, b5, b6⟩ := ih 4 k R1.2.1 _ (by omega) a2 h
        generalize t_p b N f 4 k R1.2.1 (R1.2.2 ++ [10007 + (t_tk b N p).2]) = R2 at *
        have g1 := a3 (by decide) (by decide)
        have g3 := (tk0.2.2 z0).1
        rw [List.length_append] at b4
        simp only [List.length_cons, List.length_nil] at b4
        refine ⟨by omega, b2, fun q q2 => absurd rfl q2, by omega, fun q => b5 (fun x hx => ?_), fun m hm => ⟨fun q q2 => absurd rfl q2, fun _ h1 => ?_⟩⟩
        · rcases List.mem_append.mp hx with y | y
          · exact a5 q x y
          · rw [List.mem_singleton.mp y]; omega
        · have w := (a6 m hm).1 (by decide) (by decide)
          obtain ⟨m', rfl⟩ : ∃ m', m = m' + 1 := ⟨m - 1, by omega⟩
          exact (b6 _ (wl_1 w (by omega))).2 (Or.inr rfl) (by omega)
      · rw [if_neg c]
        exact ⟨Nat.le_refl _, hp, fun q q2 => absurd rfl q2, Nat.le_refl _, fun q => q, fun m hm => ⟨fun q q2 => absurd rfl q2, fun _ _ => hm⟩⟩
    · rw [t_p]
      · intro h
        obtain ⟨k1, k2, k3⟩ := t_tk_k b N p
        by_cases c : (t_tk b N p).1 = 2 ∨ (t_tk b N p).1 = 3
        · rw [if_pos c]
          have g3 := tk0.2.2 (by omega)
          have v7 : (t_tk b N p).2 < 10007 := by
            rcases c with c | c
            · have := k1 c; omega
            · have := k2 c; omega
          refine ⟨tk0.1, tk0.2.1, fun _ _ => g3.1, ?_, fun q x hx => ?_, fun m hm => ⟨fun _ _ => ?_, fun q => by omega⟩⟩
          · show (st ++ [(t_tk b N p).2]).length + p ≤ st.length + t_nx b N p
            rw [List.length_append]
            simp only [List.length_cons, List.length_nil]
            omega
          · rcases List.mem_append.mp hx with y | y
            · exact q x y
            · rw [List.mem_singleton.mp y]; omega
          · show wl (st ++ [(t_tk b N p).2]) 0 = some (m + 1)
            rw [wl_app, hm]
            show wl [(t_tk b N p).2] m = _
            rw [wl, if_pos v7]
            rfl
        · rw [if_neg c] at h ⊢
          by_cases c1 : t_tk b N p = (4, 45)
          · rw [if_pos c1] at h ⊢
            have g3 := (tk0.2.2 (by rw [c1]; decide)).1
            by_cases c2 : k < 6
            · rw [if_pos c2] at h ⊢
              obtain ⟨r1, e1⟩ := t_b_t h
              rw [e1] at h ⊢
              obtain ⟨a1, a2, a3, a4, a5, a6⟩ := ih 5 (k + 1) _ st (by omega) tk0.2.1 r1
              generalize t_p b N f 5 (k + 1) (t_nx b N p) st = R1 at *
              have g1 := a3 (by decide) (by decide)
              refine ⟨by show p ≤ R1.2.1; omega, a2, fun _ _ => by show p < R1.2.1; omega, ?_, fun q x hx => ?_, fun m hm => ⟨fun _ _ => ?_, fun q => by omega⟩⟩
              · show (R1.2.2 ++ [10263]).length + p ≤ st.length + R1.2.1
                rw [List.length_append]
                simp only [List.length_cons, List.length_nil]
                omega
              · rcases List.mem_append.mp hx with y | y
                · exact a5 q x y
                · rw [List.mem_singleton.mp y]; exact Nat.le_refl _
              · show wl (R1.2.2 ++ [10263]) 0 = some (m + 1)
                rw [wl_app, (a6 m hm).1 (by decide) (by decide)]
                show wl [10263] (m + 1) = _
                rw [wl, if_neg (by decide), if_pos rfl, if_pos (by omega)]
                rfl
            · rw [if_neg c2] at h
              cases h
          · rw [if_neg c1] at h ⊢
            by_cases c3 : t_tk b N p = (4, 40)
            · rw [if_pos c3] at h ⊢
              have g3 := (tk0.2.2 (by rw [c3]; decide)).1
              by_cases c2 : k < 6
              · rw [if_pos c2] at h ⊢
                obtain ⟨r1, e1⟩ := t_b_t h
                rw [e1] at h ⊢
                obtain ⟨a1, a2, a3, a4, a5, a6⟩ := ih 0 (k + 1) _ st (by omega) tk0.2.1 r1
                generalize t_p b N f 0 (k + 1) (t_nx b N p) st = R1 at *
                by_cases c4 : t_tk b N R1.2.1 = (4, 41)
                · rw [if_pos c4]
                  have n1 := t_nx_b (b := b) a2
                  have g1 := a3 (by decide) (by decide)
                  exact ⟨by show p ≤ t_nx b N R1.2.1; omega, n1.2.1, fun _ _ => by show p < t_nx b N R1.2.1; omega, by show R1.2.2.length + p ≤ st.length + t_nx b N R1.2.1; omega, a5, fun m hm => ⟨fun _ _ => (a6 m hm).1 (by decide) (by decide), fun q => by omega⟩⟩
                · rw [if_neg c4] at h
                  cases h
              · rw [if_neg c2] at h
                cases h
            · rw [if_neg c3] at h
              cases h
      all_goals (intro q; omega)
