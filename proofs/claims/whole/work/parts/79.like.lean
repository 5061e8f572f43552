/-! a world becomes like the other -/
section LIK
variable {G : bz_G} {l : Launch} {d : Nat} {E : Nat × (Nat → Int32)} {S : bz_S}
theorem ap_wQ {P : bz_H → Prop} {a j : Nat} {v : Option Nat} {f : Nat → Option Nat} (h : bz_qf a = some (3, 8, f)) (hj : j < 8) (hv : v = none ∨ ∃ i q, v = some (205 + 2 * i) ∧ S.2.2[i]? = some q) (hP : P (bz_hp E (S.1, (fun c => if c = a then va_up (S.2.1 a) j v else S.2.1 c), S.2.2))) : bz_wQ (bz_hp E S) a (nI j) v P := by
  obtain ⟨h1, h2, e1⟩ := bz_qf_of h
  refine ⟨3, 8, S.2.1 a, h1, ?_, by decide, vp_in_nI hj (by decide), fun b hb => ?_, ?_⟩
  · rw [bz_hp_get h1 h2]; unfold bz_cell; rw [e1]; rfl
  · rcases hv with z | ⟨i, q, z1, z2⟩
    · rw [z] at hb
      cases hb
    · rw [z1] at hb
      cases hb
      exact ⟨by show 5 ≤ _; omega, _, (bz_hp_tx z2).1⟩
  · have hc : bz_cell (S.1, (fun c => if c = a then va_up (S.2.1 a) j v else S.2.1 c), S.2.2) a = bz_cr 3 8 (va_up (S.2.1 a) j v) := by
      unfold bz_cell
      dsimp only
      rw [e1, if_pos rfl]
      rfl
    rw [nI_clamp (by omega), ← hc, bz_hp_set (E := E) (S := S) (S' := (S.1, (fun c => if c = a then va_up (S.2.1 a) j v else S.2.1 c), S.2.2)) h1 h2 (fun b hb => ?_) rfl]
    · exact hP
    · unfold bz_cell
      dsimp only
      rw [if_neg hb]
theorem X_like4 {P : bz_H → Prop} {a a' b b' n : Nat} (h1 : bz_rf a 4 0 = some (some a')) (h2 : bz_rf b 4 0 = some (some b')) (h3 : bz_ln a' = some n) (h4 : bz_ln b' = some n) (h5 : bz_isI a 4 1 = true) (h6 : bz_isI b 4 1 = true) (hn : n < 100000) (hd : ¬ a = a' ∧ ¬ b = a') (hP : ∀ S1, fr (fun c _ => c = a ∨ c = a') S S1 → S1.1 a 1 = S.1 b 1 → (∀ k, k < n → S1.1 a' k = S.1 b' k) → P (bz_hp E S1)) : bz_cV G l (d + 1) kX4_becomeLike [.inr (some a), .inr (some b)] (bz_hp E S) 0 0 P := by
  refine m_X4_becomeLike _ _ _ ?_
  unfold w_X4_becomeLike_0
  refine ap_nn (ap_rR h2 (ap_rR h1 (ap_rR h1 (ap_nn (ap_rN h3 (ap_rR h2 (ap_nn (ap_rN h4 (ap_nn (ap_nn ?_))))))))))
  rw [ite_self]
  have z0 : (0 : Int32).toNatClampNeg = 0 := rfl
  have zn : (Int32.ofNat n).toNatClampNeg = n := nI_clamp (by omega)
  refine ap_cp h4 h3 ?_ ?_
  · rw [z0, zn]
    exact ⟨by decide, by decide, nI_pos (by omega), by omega, by omega⟩
  · rw [z0, zn]
    refine ap_rI h6 (ap_wI h5 ⟨rfl, hP _ ?_ ?_ (fun k hk => ?_)⟩)
    · exact fr_v (fr_ur (S := S) (fun k => Or.inr rfl)) (Or.inl rfl)
    · dsimp only
      rw [bz_u_same, bz_ur_ne _ _ hd.2]
    · dsimp only
      rw [bz_u_ne _ _ (by omega), bz_ur_same]
      unfold va_cpy
      rw [if_pos (by omega), show 0 + (k - 0) = k by omega]
theorem X_like2 {P : bz_H → Prop} {a b : Nat} (ha : ∀ k, k < 15 → bz_isI a 2 k = true) (hb : ∀ k, k < 15 → bz_isI b 2 k = true) (hab : ¬ a = b) (hP : ∀ S1, fr (fun c _ => c = a) S S1 → (∀ k, k < 15 → S1.1 a k = S.1 b k) → P (bz_hp E S1)) : bz_cV G l (d + 1) kX2_becomeLike [.inr (some a), .inr (some b)] (bz_hp E S) 0 0 P := by
  refine m_X2_becomeLike _ _ _ ?_
  unfold w_X2_becomeLike_0
  refine ap_nn ?_
  repeat (refine ap_rI (hb _ (by decide)) (ap_wI (ha _ (by decide)) ?_))
  refine ⟨rfl, hP _ (by repeat (first | exact fr_0 _ _ | exact fr_r _ _ | refine fr_v ?_ (by first | omega | (dsimp only; omega)))) (fun k hk => ?_)⟩
  dsimp only
  have : k = 0 ∨ k = 1 ∨ k = 2 ∨ k = 3 ∨ k = 4 ∨ k = 5 ∨ k = 6 ∨ k = 7 ∨ k = 8 ∨ k = 9 ∨ k = 10 ∨ k = 11 ∨ k = 12 ∨ k = 13 ∨ k = 14 := by omega
  rcases this with z | z | z | z | z | z | z | z | z | z | z | z | z | z | z <;> subst z <;> simp (disch := omega) only [bz_u_same, bz_u_ne]
theorem X_like3 {P : bz_H → Prop} {a b : Nat} (ha : ∀ k, k < 8 → 1 ≤ k → bz_isI a 3 k = true) (hb : ∀ k, k < 8 → 1 ≤ k → bz_isI b 3 k = true) (ra : bz_rf a 3 8 = some (some (a + 1))) (rb : bz_rf b 3 8 = some (some (b + 1))) (ca : bz_cls (a + 1) = some 4) (h1 : bz_rf (a + 1) 4 0 = some (some (a + 2))) (h2 : bz_rf (b + 1) 4 0 = some (some (b + 2))) (h3 : bz_ln (a + 2) = some 12) (h4 : bz_ln (b + 2) = some 12) (h5 : bz_isI (a + 1) 4 1 = true) (h6 : bz_isI (b + 1) 4 1 = true) (hab : a + 2 < b ∨ b + 2 < a) (hP : ∀ S1, fr (fun c k => (c = a ∧ 1 ≤ k) ∨ c = a + 1 ∨ c = a + 2) S S1 → (∀ k, 1 ≤ k → k < 8 → S1.1 a k = S.1 b k) → S1.1 (a + 1) 1 = S.1 (b + 1) 1 → (∀ k, k < 12 → S1.1 (a + 2) k = S.1 (b + 2) k) → P (bz_hp E S1)) : bz_cV G l (d + 2) kX3_becomeLike [.inr (some a), .inr (some b)] (bz_hp E S) 0 0 P := by
  refine m_X3_becomeLike _ _ _ ?_
  unfold w_X3_becomeLike_0
  refine ap_nn ?_
  repeat (refine ap_rI (hb _ (by decide) (by decide)) (ap_wI (ha _ (by decide) (by decide)) ?_))
  refine ap_rR ra (ap_rR rb (ap_nn (ap_rc ca ?_)))
  refine X_like4 h1 h2 h3 h4 h5 h6 (by decide) (by omega) (fun S1 r1 v1 v2 => ?_)
  refine ⟨rfl, hP S1 (fr_t ?_ (fr_m r1 (by intro c k h; first | omega | (dsimp only at h ⊢; omega) | (dsimp only at h; omega) | (dsimp only; omega)))) (fun k hk1 hk => ?_) ?_ (fun k hk => ?_)⟩
  · exact (by repeat (first | exact fr_0 _ _ | exact fr_r _ _ | refine fr_v ?_ (by first | omega | (dsimp only; omega))))
  · rw [r1.2 _ _ (by omega)]
    dsimp only
    have : k = 1 ∨ k = 2 ∨ k = 3 ∨ k = 4 ∨ k = 5 ∨ k = 6 ∨ k = 7 := by omega
    rcases this with z | z | z | z | z | z | z <;> subst z <;> simp (disch := omega) only [bz_u_same, bz_u_ne]
  · rw [v1]
    dsimp only
    simp (disch := omega) only [bz_u_ne]
  · rw [v2 k hk]
    dsimp only
    simp (disch := omega) only [bz_u_ne]
theorem cpy_e (f g : Nat → Int32) {n k : Nat} (hk : k < n) : va_cpy f g 0 0 n k = f k := by
  unfold va_cpy
  rw [if_pos (by omega), show 0 + (k - 0) = k by omega]
theorem X_like8 {P : bz_H → Prop} {a b : Nat} (ra : bz_rf a 8 0 = some (some (a + 1)) ∧ bz_rf a 8 1 = some (some (a + 2)) ∧ bz_rf a 8 2 = some (some (a + 3)) ∧ bz_rf a 8 3 = some (some (a + 4))) (rb : bz_rf b 8 0 = some (some (b + 1)) ∧ bz_rf b 8 1 = some (some (b + 2)) ∧ bz_rf b 8 2 = some (some (b + 3)) ∧ bz_rf b 8 3 = some (some (b + 4))) (la : bz_ln (a + 1) = some 16 ∧ bz_ln (a + 2) = some 16 ∧ bz_ln (a + 3) = some 256 ∧ bz_ln (a + 4) = some 256) (lb : bz_ln (b + 1) = some 16 ∧ bz_ln (b + 2) = some 16 ∧ bz_ln (b + 3) = some 256 ∧ bz_ln (b + 4) = some 256) (hab : a + 4 < b ∨ b + 4 < a) (hP : ∀ S1, fr (fun c _ => c = a + 1 ∨ c = a + 2 ∨ c = a + 3 ∨ c = a + 4) S S1 → (∀ k, k < 16 → S1.1 (a + 1) k = S.1 (b + 1) k) → (∀ k, k < 16 → S1.1 (a + 2) k = S.1 (b + 2) k) → (∀ k, k < 256 → S1.1 (a + 3) k = S.1 (b + 3) k) → (∀ k, k < 256 → S1.1 (a + 4) k = S.1 (b + 4) k) → P (bz_hp E S1)) : bz_cV G l (d + 1) kX8_becomeLike [.inr (some a), .inr (some b)] (bz_hp E S) 0 0 P := by
  refine m_X8_becomeLike _ _ _ ?_
  unfold w_X8_becomeLike_0
  refine ap_nn (ap_rR rb.1 (ap_rR ra.1 (ap_nn (ap_nn (ap_cp lb.1 la.1 ⟨by decide, by decide, by decide, by decide, by decide⟩ ?_)))))
  refine ap_rR rb.2.1 (ap_rR ra.2.1 (ap_nn (ap_nn (ap_cp lb.2.1 la.2.1 ⟨by decide, by decide, by decide, by decide, by decide⟩ ?_))))
  refine ap_rR rb.2.2.1 (ap_rR ra.2.2.1 (ap_nn (ap_nn (ap_cp lb.2.2.1 la.2.2.1 ⟨by decide, by decide, by decide, by decide, by decide⟩ ?_))))
  refine ap_rR rb.2.2.2 (ap_rR ra.2.2.2 (ap_nn (ap_nn (ap_cp lb.2.2.2 la.2.2.2 ⟨by decide, by decide, by decide, by decide, by decide⟩ ?_))))
  rw [show (0 : Int32).toNatClampNeg = 0 from rfl, show (16 : Int32).toNatClampNeg = 16 from rfl, show (256 : Int32).toNatClampNeg = 256 from rfl]
  refine ⟨rfl, hP _ ?_ (fun k hk => ?_) (fun k hk => ?_) (fun k hk => ?_) (fun k hk => ?_)⟩
  · refine fr_t ?_ (fr_ur (S := (_, S.2)) (fun k => by omega))
    refine fr_t ?_ (fr_ur (S := (_, S.2)) (fun k => by omega))
    refine fr_t ?_ (fr_ur (S := (_, S.2)) (fun k => by omega))
    exact fr_ur (fun k => by omega)
  all_goals dsimp only
  all_goals simp (disch := omega) only [bz_ur_same, bz_ur_ne, cpy_e]
end LIK
theorem kd_lk : (∀ o, o < 24 → ∀ k, k < 15 → bz_isI (102 + o) 2 k = true) ∧ (∀ o, o < 24 → bz_cls (102 + o) = some 2) ∧ (∀ r, r < 12 → ∀ k, k < 8 → 1 ≤ k → bz_isI (126 + 3 * r) 3 k = true) ∧ ∀ r, r < 12 → bz_cls (126 + 3 * r) = some 3 ∧ bz_rf (126 + 3 * r) 3 8 = some (some (126 + 3 * r + 1)) ∧ bz_cls (126 + 3 * r + 1) = some 4 ∧ bz_rf (126 + 3 * r + 1) 4 0 = some (some (126 + 3 * r + 2)) ∧ bz_ln (126 + 3 * r + 2) = some 12 ∧ bz_isI (126 + 3 * r + 1) 4 1 = true := by decide +kernel
theorem kd_lh : (∀ o, o < 24 → ∀ k, k < 15 → bz_isI (24 + o) 2 k = true) ∧ (∀ o, o < 24 → bz_cls (24 + o) = some 2) ∧ (∀ r, r < 12 → ∀ k, k < 8 → 1 ≤ k → bz_isI (48 + 3 * r) 3 k = true) ∧ ∀ r, r < 12 → bz_cls (48 + 3 * r) = some 3 ∧ bz_rf (48 + 3 * r) 3 8 = some (some (48 + 3 * r + 1)) ∧ bz_cls (48 + 3 * r + 1) = some 4 ∧ bz_rf (48 + 3 * r + 1) 4 0 = some (some (48 + 3 * r + 2)) ∧ bz_ln (48 + 3 * r + 2) = some 12 ∧ bz_isI (48 + 3 * r + 1) 4 1 = true := by decide +kernel
/-- slots that a copy carries -/
abbrev lm (a k : Nat) : Prop := (a = 0 ∧ 9 ≤ k ∧ k ≤ 15) ∨ ((a = 2 ∨ a = 3) ∧ k < 16) ∨ ((a = 4 ∨ a = 5) ∧ k < 256) ∨ ((a = 6 ∨ a = 11 ∨ a = 13 ∨ a = 15) ∧ k = 1) ∨ ((a = 7 ∨ a = 14) ∧ k < 18) ∨ (a = 12 ∧ k < 72) ∨ (a = 16 ∧ k < 60) ∨ (a = 17 ∧ k < 10) ∨ (18 ≤ a ∧ a < 42 ∧ k < 15) ∨ (42 ≤ a ∧ a < 78 ∧ (a - 42) % 3 = 0 ∧ 1 ≤ k ∧ k < 8) ∨ (42 ≤ a ∧ a < 78 ∧ (a - 42) % 3 = 1 ∧ k = 1) ∨ (42 ≤ a ∧ a < 78 ∧ (a - 42) % 3 = 2 ∧ k < 12)
theorem tc_lm : ∀ i, i < 976 → ((tb_c i).all (fun p => decide (lm p.1 p.2))) = true := by decide +kernel
theorem wo_lk {w w' : Nat → Nat → Int32} {s : Nat → Int32} (hg : gd_b s) (h : wo w s) (e : ∀ a k, lm a k → w' a k = w a k) : wo w' s := by
  obtain ⟨h1, h2, h3, h4⟩ := h
  have q := n_lt hg
  refine ⟨fun i hi a k hc => ?_, fun o ho => ?_, fun a b ha hb => ?_, fun r hr => ?_⟩
  · have := tc_lm i hi
    rw [hc] at this
    rw [e a k (of_decide_eq_true this)]
    exact h1 i hi a k hc
  · rw [e _ 4 (by omega), e _ 1 (by omega), e _ 6 (by omega), e _ 11 (by omega), e _ 12 (by omega), e _ 14 (by omega)]
    exact h2 o ho
  · rw [e _ _ (by omega)]
    exact h3 a b ha hb
  · rw [e _ _ (by omega)]
    exact h4 r hr
/-- the cells D of the world at B have become like those at C -/
def lk (B C : Nat) (D : Nat → Prop) (S S1 : bz_S) : Prop := (∀ c k, ¬ (B ≤ c ∧ c < B + 78 ∧ D (c - B)) → S1.1 c k = S.1 c k) ∧ (∀ r, r < 12 → S1.1 (B + 42 + 3 * r) 0 = S.1 (B + 42 + 3 * r) 0) ∧ ∀ a k, D a → lm a k → S1.1 (B + a) k = S.1 (C + a) k
theorem lk_t {B C : Nat} {D D1 : Nat → Prop} {X : Nat → Nat → Prop} {S S1 S2 : bz_S} (hBC : B + 78 ≤ C ∨ C + 78 ≤ B) (h : lk B C D S S1) (r : ∀ c k, ¬ X c k → S2.1 c k = S1.1 c k) (hX : ∀ c k, X c k → B ≤ c ∧ c < B + 78 ∧ D1 (c - B) ∧ ¬ (42 ≤ c - B ∧ (c - B - 42) % 3 = 0 ∧ k = 0)) (v : ∀ a k, D1 a → lm a k → S2.1 (B + a) k = S1.1 (C + a) k) : lk B C (fun x => D x ∨ D1 x) S S2 := by
  obtain ⟨h1, h2, h3⟩ := h
  refine ⟨fun c k hc => ?_, fun q hq => ?_, fun a k ha hl => ?_⟩
  · rw [r c k (fun x => hc ?_), h1 c k (fun x => hc ⟨x.1, x.2.1, Or.inl x.2.2⟩)]
    have := hX c k x
    exact ⟨this.1, this.2.1, Or.inr this.2.2.1⟩
  · rw [r _ _ (fun x => ?_), h2 q hq]
    have := hX _ _ x
    exact this.2.2.2 (by omega)
  · have ha78 : a < 78 := by omega
    by_cases q : D1 a
    · rw [v a k q hl, h1 _ _ (by omega)]
    · have hDa : D a := ha.resolve_right q
      rw [r _ _ (fun x => ?_)]
      · exact h3 a k hDa hl
      · have := (hX _ _ x).2.2.1
        rw [show B + a - B = a by omega] at this
        exact q this
theorem lk_m {B C : Nat} {D D1 : Nat → Prop} {S S1 : bz_S} (h : lk B C D S S1) (e : ∀ a, D a ↔ D1 a) : lk B C D1 S S1 := ⟨fun c k hc => h.1 c k (fun x => hc ⟨x.1, x.2.1, (e _).mp x.2.2⟩), h.2.1, fun a k ha hl => h.2.2 a k ((e a).mpr ha) hl⟩
theorem lk_4 {B C a n : Nat} {D : Nat → Prop} {S S1 S2 : bz_S} (hBC : B + 78 ≤ C ∨ C + 78 ≤ B) (h : lk B C D S S1) (r : fr (fun c _ => c = B + a ∨ c = B + a + 1) S1 S2) (v1 : S2.1 (B + a) 1 = S1.1 (C + a) 1) (v2 : ∀ k, k < n → S2.1 (B + a + 1) k = S1.1 (C + a + 1) k) (ha : a < 41) (h1 : ∀ k, lm a k → k = 1) (h2 : ∀ k, lm (a + 1) k → k < n) : lk B C (fun x => D x ∨ x = a ∨ x = a + 1) S S2 := by
  refine lk_t (X := fun c _ => c = B + a ∨ c = B + a + 1) (D1 := fun x => x = a ∨ x = a + 1) hBC h r.2 (fun c k hx => ?_) (fun b k hb hl => ?_)
  · omega
  · rcases hb with z | z
    · subst z
      rw [h1 k hl]
      exact v1
    · subst z
      exact v2 k (h2 k hl)
theorem lm_6 : (∀ k, lm 6 k → k = 1) ∧ ∀ k, lm 7 k → k < 18 := ⟨fun k h => by omega, fun k h => by omega⟩
theorem lm_11 : (∀ k, lm 11 k → k = 1) ∧ ∀ k, lm 12 k → k < 72 := ⟨fun k h => by omega, fun k h => by omega⟩
theorem lm_13 : (∀ k, lm 13 k → k = 1) ∧ ∀ k, lm 14 k → k < 18 := ⟨fun k h => by omega, fun k h => by omega⟩
theorem lm_15 : (∀ k, lm 15 k → k = 1) ∧ ∀ k, lm 16 k → k < 60 := ⟨fun k h => by omega, fun k h => by omega⟩
theorem lm_2 : ((∀ k, lm 2 k → k < 16) ∧ ∀ k, lm 3 k → k < 16) ∧ (∀ k, lm 4 k → k < 256) ∧ ∀ k, lm 5 k → k < 256 := ⟨⟨fun k h => by omega, fun k h => by omega⟩, fun k h => by omega, fun k h => by omega⟩
theorem lm_17 : ∀ k, lm 17 k → k < 10 := fun k h => by omega
theorem lm_0 : ∀ k, lm 0 k → 9 ≤ k ∧ k ≤ 15 := fun k h => by omega
theorem lm_o {o k : Nat} (ho : o < 24) (h : lm (18 + o) k) : k < 15 := by omega
theorem lm_r0 {r k : Nat} (hr : r < 12) (h : lm (42 + 3 * r) k) : 1 ≤ k ∧ k < 8 := by omega
theorem lm_r1 {r k : Nat} (hr : r < 12) (h : lm (42 + 3 * r + 1) k) : k = 1 := by omega
theorem lm_r2 {r k : Nat} (hr : r < 12) (h : lm (42 + 3 * r + 2) k) : k < 12 := by omega
/-- the town -/
theorem lk_8 {B C : Nat} {S S1 S2 : bz_S} (hBC : B + 78 ≤ C ∨ C + 78 ≤ B) (h : lk B C (fun _ => False) S S1) (r : fr (fun c _ => c = B + 2 ∨ c = B + 3 ∨ c = B + 4 ∨ c = B + 5) S1 S2) (v1 : ∀ k, k < 16 → S2.1 (B + 2) k = S1.1 (C + 2) k) (v2 : ∀ k, k < 16 → S2.1 (B + 3) k = S1.1 (C + 3) k) (v3 : ∀ k, k < 256 → S2.1 (B + 4) k = S1.1 (C + 4) k) (v4 : ∀ k, k < 256 → S2.1 (B + 5) k = S1.1 (C + 5) k) : lk B C (fun x => 2 ≤ x ∧ x ≤ 5) S S2 := by
  refine lk_m (lk_t (X := fun c _ => c = B + 2 ∨ c = B + 3 ∨ c = B + 4 ∨ c = B + 5) (D1 := fun x => 2 ≤ x ∧ x ≤ 5) hBC h r.2 (fun c k hx => ?_) (fun b k hb hl => ?_)) (fun a => ?_)
  · omega
  · have : b = 2 ∨ b = 3 ∨ b = 4 ∨ b = 5 := by
      clear hl
      omega
    rcases this with z | z | z | z <;> subst z
    · exact v1 k (lm_2.1.1 k hl)
    · exact v2 k (lm_2.1.2 k hl)
    · exact v3 k (lm_2.2.1 k hl)
    · exact v4 k (lm_2.2.2 k hl)
  · exact ⟨fun h => h.resolve_left id, Or.inr⟩
theorem lk_2 {B C o : Nat} {D : Nat → Prop} {S S1 S2 : bz_S} (hBC : B + 78 ≤ C ∨ C + 78 ≤ B) (ho : o < 24) (h : lk B C D S S1) (r : fr (fun c _ => c = B + 18 + o) S1 S2) (v : ∀ k, k < 15 → S2.1 (B + 18 + o) k = S1.1 (C + 18 + o) k) : lk B C (fun x => D x ∨ x = 18 + o) S S2 := by
  refine lk_t (X := fun c _ => c = B + 18 + o) (D1 := fun x => x = 18 + o) hBC h r.2 (fun c k hx => ?_) (fun b k hb hl => ?_)
  · omega
  · subst hb
    rw [show B + (18 + o) = B + 18 + o by omega, show C + (18 + o) = C + 18 + o by omega]
    exact v k (lm_o ho hl)
theorem lk_3 {B C q : Nat} {D : Nat → Prop} {S S1 S2 : bz_S} (hBC : B + 78 ≤ C ∨ C + 78 ≤ B) (hq : q < 12) (h : lk B C D S S1) (r : fr (fun c k => (c = B + 42 + 3 * q ∧ 1 ≤ k) ∨ c = B + 42 + 3 * q + 1 ∨ c = B + 42 + 3 * q + 2) S1 S2) (v : ∀ k, 1 ≤ k → k < 8 → S2.1 (B + 42 + 3 * q) k = S1.1 (C + 42 + 3 * q) k) (v1 : S2.1 (B + 42 + 3 * q + 1) 1 = S1.1 (C + 42 + 3 * q + 1) 1) (v2 : ∀ k, k < 12 → S2.1 (B + 42 + 3 * q + 2) k = S1.1 (C + 42 + 3 * q + 2) k) : lk B C (fun x => D x ∨ x = 42 + 3 * q ∨ x = 42 + 3 * q + 1 ∨ x = 42 + 3 * q + 2) S S2 := by
  refine lk_t (X := fun c k => (c = B + 42 + 3 * q ∧ 1 ≤ k) ∨ c = B + 42 + 3 * q + 1 ∨ c = B + 42 + 3 * q + 2) (D1 := fun x => x = 42 + 3 * q ∨ x = 42 + 3 * q + 1 ∨ x = 42 + 3 * q + 2) hBC h r.2 (fun c k hx => ?_) (fun b k hb hl => ?_)
  · omega
  · rcases hb with z | z | z <;> subst z
    · rw [show B + (42 + 3 * q) = B + 42 + 3 * q by omega, show C + (42 + 3 * q) = C + 42 + 3 * q by omega]
      exact v k (lm_r0 hq hl).1 (lm_r0 hq hl).2
    · rw [show B + (42 + 3 * q + 1) = B + 42 + 3 * q + 1 by omega, show C + (42 + 3 * q + 1) = C + 42 + 3 * q + 1 by omega, lm_r1 hq hl]
      exact v1
    · rw [show B + (42 + 3 * q + 2) = B + 42 + 3 * q + 2 by omega, show C + (42 + 3 * q + 2) = C + 42 + 3 * q + 2 by omega]
      exact v2 k (lm_r2 hq hl)
theorem lk_17 {B C : Nat} {D : Nat → Prop} {S S1 S2 : bz_S} (hBC : B + 78 ≤ C ∨ C + 78 ≤ B) (h : lk B C D S S1) (r : fr (fun c _ => c = B + 17) S1 S2) (v : ∀ k, k < 10 → S2.1 (B + 17) k = S1.1 (C + 17) k) : lk B C (fun x => D x ∨ x = 17) S S2 := by
  refine lk_t (X := fun c _ => c = B + 17) (D1 := fun x => x = 17) hBC h r.2 (fun c k hx => ?_) (fun b k hb hl => ?_)
  · omega
  · subst hb
    exact v k (lm_17 k hl)
theorem lk_0 {B C : Nat} {D : Nat → Prop} {S S1 S2 : bz_S} (hBC : B + 78 ≤ C ∨ C + 78 ≤ B) (h : lk B C D S S1) (r : fr (fun c k => c = B ∧ 9 ≤ k ∧ k ≤ 15) S1 S2) (v : ∀ k, 9 ≤ k → k ≤ 15 → S2.1 B k = S1.1 C k) : lk B C (fun x => D x ∨ x = 0) S S2 := by
  refine lk_t (X := fun c k => c = B ∧ 9 ≤ k ∧ k ≤ 15) (D1 := fun x => x = 0) hBC h r.2 (fun c k hx => ?_) (fun b k hb hl => ?_)
  · omega
  · subst hb
    exact v k (lm_0 k hl).1 (lm_0 k hl).2
section LKQ
variable {E : Nat × (Nat → Int32)} {S : bz_S} {P : Option Nat → Prop}
theorem ap_q92 {x : Int32} {o : Nat} (hx : x = nI o) (ho : o < 24) (hP : P (some (102 + o))) : bz_rQ (bz_hp E S) 92 x P := by
  subst hx
  refine ap_rQ rfl (by decide) (vp_in_nI ho (by decide)) ?_
  rw [nI_clamp (by omega), if_neg (by decide), if_pos ho, Nat.one_mul]
  exact hP
theorem ap_q93 {x : Int32} {r : Nat} (hx : x = nI r) (hr : r < 12) (hP : P (some (126 + 3 * r))) : bz_rQ (bz_hp E S) 93 x P := by
  subst hx
  refine ap_rQ rfl (by decide) (vp_in_nI hr (by decide)) ?_
  rw [nI_clamp (by omega), if_neg (by decide), if_pos hr]
  exact hP
theorem ap_q94 {x : Int32} {t : Nat} (hx : x = nI t) (ht : t < 8) (hP : P (S.2.1 94 t)) : bz_rQ (bz_hp E S) 94 x P := by
  subst hx
  refine ap_rQ rfl (by decide) (vp_in_nI ht (by decide)) ?_
  rw [nI_clamp (by omega), if_pos rfl]
  exact hP
end LKQ
