/-! a text is read, and made -/
theorem get_ap {α : Type} {h t : List α} {a : Nat} {c : α} (e : h[a]? = some c) : (h ++ t)[a]? = some c := by
  rw [List.getElem?_append_left (List.getElem?_eq_some_iff.mp e).1]
  exact e
theorem get_ln {α : Type} (h t : List α) (c : α) : (h ++ c :: t)[h.length]? = some c := by
  rw [List.getElem?_append_right (Nat.le_refl _), Nat.sub_self]
  rfl
theorem set_ln {α : Type} (c a : α) (t : List α) : ∀ h : List α, (h ++ c :: t).set h.length a = h ++ a :: t
  | [] => rfl
  | x :: h => by
    show x :: ((h ++ c :: t).set h.length a) = x :: (h ++ a :: t)
    rw [set_ln c a t h]
theorem bz_tc_app : ∀ (T : List (Nat × (Nat → Int32))) (q : Nat × (Nat → Int32)) (i : Nat), bz_tc i (T ++ [q]) = bz_tc i T ++ [bz_co 7 [.inr (some (i + 2 * T.length + 1))], bz_ci q.1 q.2]
  | [], q, i => rfl
  | x :: T, q, i => by
    rw [List.cons_append, bz_tc, bz_tc, bz_tc_app T q (i + 2), List.length_cons, show i + 2 + 2 * T.length + 1 = i + 2 * (T.length + 1) + 1 by omega]
    rfl
theorem bz_tc_len : ∀ (T : List (Nat × (Nat → Int32))) (i : Nat), (bz_tc i T).length = 2 * T.length
  | [], i => rfl
  | x :: T, i => by
    rw [bz_tc, List.length_cons, List.length_cons, bz_tc_len T (i + 2), List.length_cons]
    omega
theorem bz_hp_len {E : Nat × (Nat → Int32)} {S : bz_S} : (bz_hp E S).length = 205 + 2 * S.2.2.length := by
  unfold bz_hp
  rw [List.length_append, List.length_append, List.length_map, List.length_range, bz_tc_len]
  show 5 + _ = _
  omega
theorem bz_hp_app {E : Nat × (Nat → Int32)} {S : bz_S} {q : Nat × (Nat → Int32)} : bz_hp E (S.1, S.2.1, S.2.2 ++ [q]) = bz_hp E S ++ [bz_co 7 [.inr (some (206 + 2 * S.2.2.length))], bz_ci q.1 q.2] := by
  have : bz_hp E (S.1, S.2.1, S.2.2 ++ [q]) = bz_olds E ++ ((List.range 200).map (fun i => bz_cell S (i + 5)) ++ bz_tc 205 (S.2.2 ++ [q])) := rfl
  rw [this, bz_tc_app, show 205 + 2 * S.2.2.length + 1 = 206 + 2 * S.2.2.length by omega]
  unfold bz_hp
  rw [List.append_assoc, List.append_assoc]
section NTX
variable {G : bz_G} {l : Launch} {d : Nat} {E : Nat × (Nat → Int32)} {S : bz_S} {h t : bz_H} {a ci k : Nat}
theorem ra_R {P : Option Nat → Prop} (q : bz_rR h a ci k P) : bz_rR (h ++ t) a ci k P := by
  obtain ⟨fs, x, h1, h2, h3, h4⟩ := q
  exact ⟨fs, x, h1, get_ap h2, h3, h4⟩
theorem ra_I {P : Int32 → Prop} (q : bz_rI h a ci k P) : bz_rI (h ++ t) a ci k P := by
  obtain ⟨fs, x, h1, h2, h3, h4⟩ := q
  exact ⟨fs, x, h1, get_ap h2, h3, h4⟩
theorem ra_N {P : Int32 → Prop} (q : bz_rN h a P) : bz_rN (h ++ t) a P := by
  obtain ⟨n, f, h1, h2, h4⟩ := q
  exact ⟨n, f, h1, get_ap h2, h4⟩
theorem X_t7 {c : bz_C} {x : Nat} {P : bz_H → Prop} (h5 : 5 ≤ h.length) (hP : P (h ++ [bz_co 7 [.inr (some x)], c])) : bz_cV G l (d + 1) kX7_init [.inr (some h.length), .inr (some x)] (h ++ [bz_co 7 [.inr none]] ++ [c]) 0 0 P := by
  refine m_X7_init _ _ _ ?_
  unfold w_X7_init_0
  rw [List.append_assoc]
  refine ⟨[.inr none], h5, get_ln _ _ _, by decide, rfl, ?_⟩
  show P ((h ++ bz_co 7 [.inr none] :: [c]).set h.length (bz_co 7 [.inr (some x)]))
  rw [set_ln]
  exact hP
theorem X_newText {n : Nat} {Q : Nat → bz_H → Prop} (hn : n ≤ 80) (h3 : S.1 162 3 = nI n) (hQ : ∀ f', (∀ k, k < n → f' k = S.1 164 k) → Q (205 + 2 * S.2.2.length) (bz_hp E (S.1, S.2.1, S.2.2 ++ [(n, f')]))) : bz_al (bz_hp E S) (bz_co 7 [.inr none]) (fun a_12 h_13 => bz_rR h_13 5 11 3 (fun r_14 => bz_nn r_14 (fun a_15 => bz_rR h_13 a_15 6 2 (fun r_16 => bz_rR h_13 5 11 3 (fun r_17 => bz_nn r_17 (fun a_18 => bz_rI h_13 a_18 6 3 (fun x_19 => bz_cR G l (d + 1) kJ7_copyOf_59c91 [.inr r_16, .inl x_19] h_13 1 80 (fun r_20 h_21 => bz_cV G l (d + 1) kX7_init [.inr (some a_12), .inr r_20] h_21 0 0 (fun h_23 => Q a_12 h_23))))))))) := by
  have hlen := bz_hp_len (E := E) (S := S)
  have hc : (bz_hp E S)[164]? = some (bz_ci 80 (S.1 164)) := by
    rw [bz_hp_get (by decide) (by decide)]
    rfl
  have hx : (bz_hp E S ++ [bz_co 7 [.inr none]]).length = 206 + 2 * S.2.2.length := by
    rw [List.length_append, hlen]
    show _ + 1 = _
    omega
  have fin : ∀ f', (∀ k, k < n → f' k = S.1 164 k) → bz_cV G l (d + 1) kX7_init [.inr (some (bz_hp E S).length), .inr (some (206 + 2 * S.2.2.length))] (bz_hp E S ++ [bz_co 7 [.inr none]] ++ [bz_ci n f']) 0 0 (fun h_23 => Q (bz_hp E S).length h_23) := by
    intro f' hf
    refine X_t7 (by omega) ?_
    have := hQ f' hf
    rw [bz_hp_app] at this
    rw [hlen]
    exact this
  refine ra_R (ap_rR rfl (ap_nn (ra_R (ap_rR rfl (ra_R (ap_rR rfl (ap_nn (ra_I (ap_rI rfl ?_)))))))))
  rw [h3]
  refine m_J7_copyOf_59c91 (mc := 0) (ms := 0) _ _ _ ?_
  unfold w_J7_copyOf_59c91_0
  refine ap_nn (ra_N (ap_rN rfl ⟨fun c => ?_, fun c => ?_⟩))
  · have h80 : n < 80 := by
      rcases Nat.lt_or_eq_of_le hn with z | z
      · exact z
      · exact absurd (by rw [z]; rfl) c
    have hif : (if nI n < Int32.ofNat 80 then nI n else Int32.ofNat 80) = nI n := by
      rw [if_pos]
      apply Int32.lt_iff_toInt_lt.mpr
      show (nI n).toInt < (nI 80).toInt
      rw [nI_toInt (by omega), nI_toInt (by omega)]
      omega
    have hcl : (nI n).toNatClampNeg = n := nI_clamp (by omega)
    refine ⟨⟨nI_pos (by omega), by omega⟩, ?_⟩
    rw [hcl]
    refine ra_N (ra_N (ap_rN rfl ?_))
    rw [hif]
    refine ⟨80, n, S.1 164, fun _ => 0, by decide, get_ap (get_ap hc), ?_, get_ln _ _ _, ⟨by decide, by decide, nI_pos (by omega), ?_, ?_⟩, ?_⟩
    · rw [hx]
      show 5 ≤ _
      omega
    · rw [hcl]
      show 0 + n ≤ 80
      omega
    · rw [hcl]
      show 0 + n ≤ n
      omega
    · refine ⟨_, rfl, ?_⟩
      rw [hx, hcl, ← hx, set_ln, hx]
      exact fin _ (fun k hk => cpy_e _ _ hk)
  · have h80 : n = 80 := by
      have := congrArg Int32.toNatClampNeg c
      rw [nI_clamp (by omega)] at this
      exact this
    subst h80
    refine ⟨80, S.1 164, by decide, get_ap hc, Nat.le_refl _, ⟨80, S.1 164, ?_, get_ln _ _ _, ⟨_, rfl, ?_⟩⟩⟩
    · rw [hx]
      show 5 ≤ _
      omega
    · rw [hx]
      exact fin _ (fun k hk => rfl)
def t_all (b : Nat → Nat) (N : Nat) : t_R := t_p b N (8 * N + 5) 0 0 0 []
def t_ok (b : Nat → Nat) (N : Nat) : Prop := (t_all b N).1 = true ∧ (t_tk b N (t_all b N).2.1).1 = 0
theorem X_readAll {b : Nat → Nat} {N : Nat} {P : Int32 → bz_H → Prop} (hN : N ≤ 80) (hb : ∀ j, b j < 256) (ht : tbX S b N) (hP : ∀ S', fr XT S S' → (t_ok b N → sx S' (t_all b N).2.2 → P (-1) (bz_hp E S')) ∧ (¬ t_ok b N → P (nI (t_pl b N (t_all b N).2.1)) (bz_hp E S'))) : bz_cI G l (d + 40) kX6_readAll [.inr (some 162)] (bz_hp E S) 0 0 P := by
  refine m_X6_readAll _ _ ?_
  unfold w_X6_readAll_0
  refine ap_wI rfl (ap_wI rfl (ap_rc rfl ?_))
  have r0 : fr XT S (bz_u (bz_u S.1 162 3 0) 162 6 0, S.2) := (by repeat (first | exact fr_0 _ _ | exact fr_r _ _ | refine fr_v ?_ (by first | omega | (dsimp only; omega))))
  refine X_adv (p := 0) hN hb (Nat.zero_le _) (tbX_f ht r0 (by intro c k h; first | omega | (dsimp only at h ⊢; omega) | (dsimp only at h; omega) | (dsimp only; omega))) (by dsimp only; rw [bz_u_same]; rfl) (fun S1 r1 v1 => ?_)
  refine ap_rc rfl ?_
  have r01 : fr XT S S1 := fr_t r0 (fr_m r1 (by intro c k h; first | omega | (dsimp only at h ⊢; omega) | (dsimp only at h; omega) | (dsimp only; omega)))
  refine (X_all hN hb (8 * N + 5)).2.2.2.2.2 G l E _ S1 0 0 [] _ ⟨tbX_f ht r01 (by intro c k h; first | omega | (dsimp only at h ⊢; omega) | (dsimp only at h; omega) | (dsimp only; omega)), v1, ⟨?_, fun i hi => absurd hi (by simp)⟩⟩ (Nat.zero_le _) (Nat.zero_le _) (by omega) (by omega) (by omega) (fun S2 r2 tb2 v2 v3 => ?_)
  · rw [r1.2 _ _ (by first | omega | (dsimp only; omega))]
    dsimp only
    rw [bz_u_ne _ _ (by omega), bz_u_same]
    rfl
  have hP2 := hP S2 (fr_t r01 r2)
  unfold t_ok t_all at hP2
  generalize t_p b N (8 * N + 5) 0 0 0 [] = R at *
  have hv := t_v_b b N R.2.1
  by_cases q : R.1 = true
  · rw [if_pos q]
    refine ⟨fun z => absurd z (by decide), fun _ => ap_rI rfl ?_⟩
    rw [px_t v2]
    by_cases q2 : (t_tk b N R.2.1).1 = 0
    · rw [(t_v_n (by decide)).mpr q2]
      exact ⟨fun z => absurd z (by decide), fun _ => ⟨_, rfl, hP2.1 ⟨q, q2⟩ (v3 q)⟩⟩
    · have : ¬ nI (t_v b N R.2.1) = 0 := fun z => q2 ((t_v_n (by decide)).mp (by
        have := congrArg Int32.toNatClampNeg z
        rw [nI_clamp (by omega)] at this
        exact this))
      rw [if_neg this]
      refine ⟨fun _ => ap_rI rfl ?_, fun z => absurd rfl z⟩
      rw [v2.2.2.1]
      exact ⟨_, rfl, hP2.2 (fun z => q2 z.2)⟩
  · rw [if_neg q]
    refine ⟨fun _ => ⟨fun _ => ap_rI rfl ?_, fun z => absurd rfl z⟩, fun z => absurd rfl z⟩
    rw [v2.2.2.1]
    exact ⟨_, rfl, hP2.2 (fun z => q z.1)⟩
end NTX
