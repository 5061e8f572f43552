/-! trips, stop by stop -/
theorem f_go_n (kind : Int32) {n : Nat} (h : n ≤ 1173) : ∃ m, m ≤ 2400 ∧ f_go kind (nI n) = nI m := by
  unfold f_go
  rw [if_pos (nI_pos' (by omega))]
  have e : ((3 : Int32) * nI n + 3) / 4 = nI ((3 * n + 3) / 4) := by
    rw [show (3 : Int32) = nI 3 from rfl, pk_mul, nI_add, show (4 : Int32) = nI 4 from rfl, pk_div (by omega) (by decide) (by decide)]
  have e2 : (2 : Int32) * nI n = nI (2 * n) := by rw [show (2 : Int32) = nI 2 from rfl, pk_mul]
  split
  · exact ⟨_, by omega, e⟩
  split
  · refine ⟨(n + 1) / 2 + 3, by omega, ?_⟩
    rw [nI_1, show (2 : Int32) = nI 2 from rfl, pk_div (by omega) (by decide) (by decide), show (3 : Int32) = nI 3 from rfl, nI_add]
  split
  · exact ⟨_, by omega, e2⟩
  split
  · split
    · exact ⟨0, by decide, rfl⟩
    split
    · exact ⟨1, by decide, rfl⟩
    next hz hle =>
      rw [e] at hle ⊢
      have : 1 ≤ (3 * n + 3) / 4 := by
        apply Classical.byContradiction
        intro q
        apply hle
        rw [show (3 * n + 3) / 4 = 0 by omega]
        decide
      exact ⟨(3 * n + 3) / 4 - 1, by omega, pk_sub (a := (3 * n + 3) / 4) (b := 1) this⟩
  split
  · exact ⟨n, by omega, rfl⟩
  split
  · split
    · exact ⟨0, by decide, rfl⟩
    · refine ⟨2 * n + 2, by omega, ?_⟩
      rw [e2, show (2 : Int32) = nI 2 from rfl, nI_add]
  · exact ⟨n, by omega, rfl⟩
def f_leg (kind : Int32) (w : Nat) : Nat := (f_go kind (nI w)).toNatClampNeg
theorem f_leg_e (kind : Int32) {n : Nat} (h : n ≤ 1173) : f_go kind (nI n) = nI (f_leg kind n) ∧ f_leg kind n ≤ 2400 := by
  obtain ⟨m, hm, e⟩ := f_go_n kind h
  unfold f_leg
  rw [e, nI_clamp (by omega)]
  exact ⟨rfl, hm⟩
/-- a ride, if one can still go on -/
def f_ri (s : Nat → Int32) (kind : Int32) (b : Nat) (st : Option (Nat × Nat)) : Option (Nat × Nat) := st.bind (fun q => (f_wy s 16 q.2 b).map (fun w => (q.1 + f_leg kind w, b)))
/-- nothing but what X names has changed -/
def fr (X : Nat → Nat → Prop) (S S' : bz_S) : Prop := S'.2 = S.2 ∧ ∀ c k, ¬ X c k → S'.1 c k = S.1 c k
theorem fr_r (X : Nat → Nat → Prop) (S : bz_S) : fr X S S := ⟨rfl, fun _ _ _ => rfl⟩
theorem fr_t {X : Nat → Nat → Prop} {S S' S'' : bz_S} (h : fr X S S') (h' : fr X S' S'') : fr X S S'' := ⟨h'.1.trans h.1, fun c k q => (h'.2 c k q).trans (h.2 c k q)⟩
theorem fr_m {X Y : Nat → Nat → Prop} {S S' : bz_S} (h : fr X S S') (m : ∀ c k, X c k → Y c k) : fr Y S S' := ⟨h.1, fun c k q => h.2 c k (fun x => q (m c k x))⟩
theorem fr_u {X : Nat → Nat → Prop} {S : bz_S} {c k : Nat} {v : Int32} (h : X c k) : fr X S (bz_u S.1 c k v, S.2) := by
  refine ⟨rfl, fun b j q => ?_⟩
  dsimp only
  refine bz_u_ne _ _ ?_
  by_cases e : b = c
  · refine Or.inr (fun e2 => q ?_)
    subst e; subst e2; exact h
  · exact Or.inl e
theorem fr_c {X : Nat → Nat → Prop} {S S' : bz_S} (h : fr X S S') {c : Nat} (hc : ∀ k, ¬ X c k) : S'.1 c = S.1 c := funext (fun k => h.2 c k (hc k))
def tf (S S' : bz_S) : Prop := fr (fun c k => c = 190 ∨ (c = 186 ∧ 5 ≤ k ∧ k ≤ 8)) S S'
theorem tf_t {S S' S'' : bz_S} (h : tf S S') (h' : tf S' S'') : tf S S'' := fr_t h h'
theorem tf_w {S S' : bz_S} (h : wf S S') : tf S S' := ⟨h.1, fun c k q => h.2 c k (fun e => q (Or.inl e)) (fun e => q (Or.inr ⟨e.1, by omega, by omega⟩))⟩
theorem tf_s {S S' : bz_S} (h : tf S S') : S'.1 187 = S.1 187 := funext (fun k => h.2 187 k (by dsimp only; omega))
/-- where the reference's trip stands -/
def tr (S : bz_S) (st : Option (Nat × Nat)) : Prop := match st with
  | none => S.1 186 8 = 0
  | some (m, a) => S.1 186 8 = 1 ∧ S.1 186 7 = nI m ∧ S.1 186 6 = nI a ∧ a < 16
