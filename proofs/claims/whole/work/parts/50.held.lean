/-! what holds between two calls -/
def tx (q : Nat → Option Nat) (T : List (Nat × (Nat → Int32))) (s : Nat → Int32) : Prop := ∀ t, t < (s 4).toNatClampNeg → ∃ i n f g, q t = some (205 + 2 * i) ∧ T[i]? = some (n, f) ∧ (∀ k, k < n → f k = nI (g k)) ∧ wfm g n ∧ tg s t n g
/-- a road leads both ways -/
def ry (s : Nat → Int32) : Prop := ∀ a b, a < 16 → b < 16 → s (44 + 16 * a + b) = s (44 + 16 * b + a)
def wd (S : bz_S) (B c : Nat) (s : Nat → Int32) : Prop := gd s ∧ wo (wv S.1 B) s ∧ tx (S.2.1 c) S.2.2 s ∧ ry s
def rs_n (S : bz_S) : Prop := ∀ r, r < 12 → S.1 (48 + 3 * r) 0 = nI r ∧ S.1 (126 + 3 * r) 0 = nI r
def rs_k (S : bz_S) : Prop := (S.1 5 2 = 0 ∧ S.1 186 2 = 0) ∨ (S.1 5 2 = 1 ∧ S.1 186 2 = 1 ∧ wd S 84 94 (S.1 188))
def rs_t (S : bz_S) : Prop := ∃ b N, N ≤ 80 ∧ (∀ j, b j < 256) ∧ tbX S b N ∧ tbM S b N
def rs_f (S : bz_S) : Prop := ∀ k, k < 7 → S.1 174 k = S.1 189 k
def rs_s (S : bz_S) : Prop := ∀ i, i < 4 → S.1 (166 + 2 * i) 1 = S.1 201 i ∧ S.1 (166 + 2 * i) 2 = S.1 202 i ∧ (∀ j, j < 60 → S.1 (167 + 2 * i) j = S.1 203 (60 * i + j)) ∧ (S.1 201 i = 0 ∨ S.1 201 i = 8 ∨ S.1 201 i = 16 ∨ S.1 201 i = 32) ∧ bz_lt (S.1 202 i) 61
def rs_q (S : bz_S) : Prop := ∀ c, c = 16 ∨ c = 94 → ∀ t, t < 8 → S.2.1 c t = none ∨ ∃ i q, S.2.1 c t = some (205 + 2 * i) ∧ S.2.2[i]? = some q
def rs (S : bz_S) : Prop := rs_n S ∧ rs_k S ∧ rs_t S ∧ rs_f S ∧ rs_s S ∧ rs_q S
def Inv (S : bz_S) : Prop := wd S 6 16 (S.1 187) ∧ fd S ∧ rs S
/-- what a question may change -/
abbrev qX (c k : Nat) : Prop := (175 ≤ c ∧ c ≤ 185) ∨ (c = 186 ∧ ¬ k = 2 ∧ ¬ k = 14) ∨ (190 ≤ c ∧ c ≤ 192) ∨ (194 ≤ c ∧ c ≤ 200) ∨ c = 204 ∨ c = 164 ∨ (c = 162 ∧ 3 ≤ k)
/-- what a call on the world may change -/
abbrev wX (c k : Nat) : Prop := qX c k ∨ (6 ≤ c ∧ c < 84 ∧ ¬ (48 ≤ c ∧ (c - 48) % 3 = 0 ∧ k = 0)) ∨ c = 187
theorem wd_f {X : Nat → Nat → Prop} {S S' : bz_S} {B c : Nat} {s : Nat → Int32} (h : wd S B c s) (f : fr X S S') (hX : ∀ a k, X a k → ¬ (B ≤ a ∧ a < B + 78)) : wd S' B c s := by
  refine ⟨h.1, wo_f h.1.1 h.2.1 (fun a ha => ?_), by rw [f.1]; exact h.2.2⟩
  funext k
  unfold wv
  exact f.2 _ _ (fun x => hX _ _ x (by omega))
theorem rs_w {S S' : bz_S} (h : rs S) (f : fr wX S S') : rs S' := by
  obtain ⟨h1, h2, h3, h4, h5, h6⟩ := h
  refine ⟨fun r hr => ?_, ?_, ?_, fun k hk => ?_, fun i hi => ?_, ?_⟩
  · rw [f.2 _ _ (by omega), f.2 _ _ (by omega)]
    exact h1 r hr
  · unfold rs_k
    rw [f.2 5 2 (by omega), f.2 186 2 (by omega), fr_c f (c := 188) (fun k => by omega)]
    rcases h2 with h2 | ⟨a, b, c⟩
    · exact Or.inl h2
    · exact Or.inr ⟨a, b, wd_f c f (by intro c k h; first | omega | (dsimp only at h ⊢; omega) | (dsimp only at h; omega) | (dsimp only; omega))⟩
  · obtain ⟨b, N, q1, q2, q3, q4⟩ := h3
    exact ⟨b, N, q1, q2, tbX_f q3 f (by intro c k h; first | omega | (dsimp only at h ⊢; omega) | (dsimp only at h; omega) | (dsimp only; omega)), tbM_f q4 f (by intro c k h; first | omega | (dsimp only at h ⊢; omega) | (dsimp only at h; omega) | (dsimp only; omega))⟩
  · rw [f.2 174 k (by omega), f.2 189 k (by omega)]
    exact h4 k hk
  · obtain ⟨q1, q2, q3, q4, q5⟩ := h5 i hi
    rw [f.2 _ _ (by omega), f.2 201 i (by omega), f.2 _ _ (by omega), f.2 202 i (by omega)]
    refine ⟨q1, q2, fun j hj => ?_, q4, q5⟩
    rw [f.2 _ _ (by omega), f.2 203 _ (by omega)]
    exact q3 j hj
  · unfold rs_q
    rw [f.1]
    exact h6
theorem inv_q {S S' : bz_S} (h : Inv S) (f : fr qX S S') (hf : fd S') : Inv S' := by
  obtain ⟨h1, h2, h3⟩ := h
  have e : S'.1 187 = S.1 187 := fr_c f (fun k => by omega)
  refine ⟨?_, hf, rs_w h3 (fr_m f (fun c k x => Or.inl x))⟩
  rw [e]
  exact wd_f h1 f (by intro c k h; first | omega | (dsimp only at h ⊢; omega) | (dsimp only at h; omega) | (dsimp only; omega))
/-- the class alone asked -/
theorem inv_x {X : Nat → Nat → Prop} {S S' : bz_S} (h : Inv S) (f : fr X S S') (hX : ∀ c k, X c k → (175 ≤ c ∧ c ≤ 185)) : Inv S' := inv_q h (fr_m f (fun c k x => Or.inl (hX c k x))) (fd_f h.2.1 f (fun c k x => by have := hX c k x; omega))
theorem inv_tw {S : bz_S} (h : Inv S) : tw S (S.1 187) := ⟨h.1.1, h.1.2.1⟩
theorem inv_b {S : bz_S} (h : Inv S) : gd_b (S.1 187) := h.1.1.1
theorem inv_f {S S1 S2 S3 : bz_S} {k : Nat} (h : Inv S) (hk : k < 7) (r1 : fr (fun c j => c = 174 ∧ j = k) S S1) (v1 : S1.1 174 k = S.1 174 k + 1) (r2 : fr qX S1 S2) (f2 : fd S2) (r3 : fr (fun c j => c = 189 ∧ j = k) S2 S3) (v3 : S3.1 189 k = S2.1 189 k + 1) : Inv S3 := by
  obtain ⟨h1, h2, h3, h4, h5, h6, h7, h8⟩ := h
  have r : fr (fun c j => qX c j ∨ (c = 174 ∧ j = k) ∨ (c = 189 ∧ j = k)) S S3 := fr_t (fr_m r1 (by intro c k h; first | omega | (dsimp only at h ⊢; omega) | (dsimp only at h; omega) | (dsimp only; omega))) (fr_t (fr_m r2 (by intro c k h; first | omega | (dsimp only at h ⊢; omega) | (dsimp only at h; omega) | (dsimp only; omega))) (fr_m r3 (by intro c k h; first | omega | (dsimp only at h ⊢; omega) | (dsimp only at h; omega) | (dsimp only; omega))))
  have e : S3.1 187 = S.1 187 := fr_c r (fun k => by omega)
  refine ⟨?_, fd_f f2 r3 (by intro c k h; first | omega | (dsimp only at h ⊢; omega) | (dsimp only at h; omega) | (dsimp only; omega)), fun q hq => ?_, ?_, ?_, fun q hq => ?_, fun i hi => ?_, ?_⟩
  · rw [e]
    exact wd_f h1 r (by intro c k h; first | omega | (dsimp only at h ⊢; omega) | (dsimp only at h; omega) | (dsimp only; omega))
  · rw [r.2 _ _ (by omega), r.2 _ _ (by omega)]
    exact h3 q hq
  · unfold rs_k
    rw [r.2 5 2 (by omega), r.2 186 2 (by omega), fr_c r (c := 188) (fun k => by omega)]
    rcases h4 with h4 | ⟨a, b, c⟩
    · exact Or.inl h4
    · exact Or.inr ⟨a, b, wd_f c r (by intro c k h; first | omega | (dsimp only at h ⊢; omega) | (dsimp only at h; omega) | (dsimp only; omega))⟩
  · obtain ⟨b, N, q1, q2, q3, q4⟩ := h5
    exact ⟨b, N, q1, q2, tbX_f q3 r (by intro c k h; first | omega | (dsimp only at h ⊢; omega) | (dsimp only at h; omega) | (dsimp only; omega)), tbM_f q4 r (by intro c k h; first | omega | (dsimp only at h ⊢; omega) | (dsimp only at h; omega) | (dsimp only; omega))⟩
  · by_cases hqk : q = k
    · subst hqk
      rw [v3, r2.2 189 q (by omega), r1.2 189 q (by dsimp only; omega), r3.2 174 q (by dsimp only; omega), r2.2 174 q (by omega), v1, h6 q hq]
    · rw [r.2 174 q (by omega), r.2 189 q (by omega)]
      exact h6 q hq
  · obtain ⟨q1, q2, q3, q4, q5⟩ := h7 i hi
    rw [r.2 _ _ (by omega), r.2 201 i (by omega), r.2 _ _ (by omega), r.2 202 i (by omega)]
    refine ⟨q1, q2, fun j hj => ?_, q4, q5⟩
    rw [r.2 _ _ (by omega), r.2 203 _ (by omega)]
    exact q3 j hj
  · unfold rs_q
    rw [r.1]
    exact h8
section HLD
variable {G : bz_G} {l : Launch} {d : Nat} {E : Nat × (Nat → Int32)} {S : bz_S}
theorem X_fi {P : Int32 → bz_H → Prop} {c : Int32} (k : Nat) (hk : k < 7) (hc : -1000001 - c = nI k) (hP : ∀ S1, fr (fun c j => c = 174 ∧ j = k) S S1 → S1.1 174 k = S.1 174 k + 1 → P c (bz_hp E S1)) : bz_cI G l (d + 2) kX11_finding [.inr (some 5), .inl c] (bz_hp E S) 0 0 P := X_finding k hk hc (hP _ (fr_u (S := S) (by first | omega | (dsimp only; omega))) (by dsimp only; rw [bz_u_same]))
/-- the reference's finding, behind the class's -/
theorem M_fi {S S1 S2 : bz_S} {x y : Int32} (k : Nat) (h : Inv S) (hk : k < 7) (r1 : fr (fun c j => c = 174 ∧ j = k) S S1) (v1 : S1.1 174 k = S.1 174 k + 1) (r2 : fr qX S1 S2) (f2 : fd S2) (hy : y = nI k) (hx : x = -1000001 - nI k) : bz_cI G l (d + 1) kX12_finding [.inr (some 186), .inl y] (bz_hp E S2) 0 0 (fun x_3 h_4 => ∃ z, (some (.inl x_3) : Option bz_V) = some (.inl z) ∧ (x = z ∧ ∃ S', h_4 = bz_hp E S' ∧ Inv S')) := by
  refine M_finding k hk hy ⟨_, rfl, by rw [hx, hy], _, rfl, ?_⟩
  exact inv_f h hk r1 v1 r2 f2 (fr_u (S := S2) (by first | omega | (dsimp only; omega))) (by dsimp only; rw [bz_u_same])
theorem fi_fd {k : Nat} {S S1 : bz_S} (h : Inv S) (r1 : fr (fun c j => c = 174 ∧ j = k) S S1) : fd S1 := fd_f h.2.1 r1 (by intro c k h; first | omega | (dsimp only at h ⊢; omega) | (dsimp only at h; omega) | (dsimp only; omega))
theorem fi_s {k : Nat} {S S1 : bz_S} (r1 : fr (fun c j => c = 174 ∧ j = k) S S1) : S1.1 187 = S.1 187 := fr_c r1 (fun k => by omega)
end HLD
