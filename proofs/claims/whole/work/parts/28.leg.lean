/-! how many minutes one of a kind goes -/
def f_go (kind w : Int32) : Int32 := if 0 ≤ w then (if kind = 1 then (3 * w + 3) / 4 else if kind = 2 then (w + 1) / 2 + 3 else if kind = 3 then 2 * w else if kind = 4 then (if w = 0 then 0 else if (3 * w + 3) / 4 ≤ 1 then 1 else (3 * w + 3) / 4 - 1) else if kind = 5 then w else if kind = 6 then (if w = 0 then 0 else 2 * w + 2) else w) else -1
theorem leg_4 {n : Nat} (h : n ≤ 1173) (h0 : ¬ nI n = 0) : (if 1 < (3 * nI n + 3) / 4 - 1 then (3 * nI n + 3) / 4 - 1 else (1 : Int32)) = if (3 * nI n + 3) / 4 ≤ 1 then 1 else (3 * nI n + 3) / 4 - 1 := by
  have e : ((3 : Int32) * nI n + 3) / 4 = nI ((3 * n + 3) / 4) := by
    rw [show (3 : Int32) = nI 3 from rfl, pk_mul, nI_add, show (4 : Int32) = nI 4 from rfl, pk_div (by omega) (by decide) (by decide)]
  have hn : 0 < n := by
    rcases Nat.eq_zero_or_pos n with q | q
    · subst q; exact absurd rfl h0
    · exact q
  rw [e]
  obtain ⟨m, hm⟩ : ∃ m, (3 * n + 3) / 4 = m + 1 := ⟨(3 * n + 3) / 4 - 1, by omega⟩
  have hm2 : m < 2000 := by omega
  rw [hm, nI_pred]
  by_cases q : 1 < m
  · rw [if_pos (show (1 : Int32) < nI m from nI_lt (a := 1) q (by omega)), if_neg (show ¬ nI (m + 1) ≤ (1 : Int32) from nI_ge (a := 1) (by omega) (by omega))]
  · rw [if_neg (show ¬ (1 : Int32) < nI m from nI_nlt (b := m) (a := 1) (by omega) (by decide))]
    rcases (by omega : m = 0 ∨ m = 1) with r | r
    · subst r; decide
    · subst r; decide
section LEG
variable {G : bz_G} {l : Launch} {d : Nat} {h : bz_H} {P : Int32 → bz_H → Prop}
theorem M_minutesFor {x y : Int32} (hP : P (f_go x y) h) : bz_cI G l (d + 1) kX12_minutesFor [.inl x, .inl y] h 0 0 P := by
  refine m_X12_minutesFor _ _ _ ?_
  unfold w_X12_minutesFor_0
  unfold f_go at hP
  refine ⟨fun c => ⟨fun c1 => ?_, fun c1 => ⟨fun c2 => ?_, fun c2 => ⟨fun c3 => ?_, fun c3 => ⟨fun c4 => ?_, fun c4 => ⟨fun c5 => ?_, fun c5 => ⟨fun c6 => ?_, fun c6 => ?_⟩⟩⟩⟩⟩⟩, fun c => ?_⟩
  · rw [if_pos c, if_pos c1] at hP; exact ⟨_, rfl, hP⟩
  · rw [if_pos c, if_neg c1, if_pos c2] at hP; exact ⟨_, rfl, hP⟩
  · rw [if_pos c, if_neg c1, if_neg c2, if_pos c3] at hP; exact ⟨_, rfl, hP⟩
  · rw [if_pos c, if_neg c1, if_neg c2, if_neg c3, if_pos c4] at hP; exact ⟨_, rfl, hP⟩
  · rw [if_pos c, if_neg c1, if_neg c2, if_neg c3, if_neg c4, if_pos c5] at hP; exact ⟨_, rfl, hP⟩
  · rw [if_pos c, if_neg c1, if_neg c2, if_neg c3, if_neg c4, if_neg c5, if_pos c6] at hP; exact ⟨_, rfl, hP⟩
  · rw [if_pos c, if_neg c1, if_neg c2, if_neg c3, if_neg c4, if_neg c5, if_neg c6] at hP; exact ⟨_, rfl, hP⟩
  · rw [if_neg c] at hP; exact ⟨_, rfl, hP⟩
theorem X_legFor {x : Int32} {o : Option Nat} (hb : ∀ v, o = some v → v ≤ 1173) (hP : P (f_go x (f_no o)) h) : bz_cI G l (d + 1) kX11_legFor [.inl x, .inl (f_no o)] h 0 0 P := by
  refine m_X11_legFor _ _ _ ?_
  unfold w_X11_legFor_0
  unfold f_go at hP
  refine ⟨fun c => ?_, fun c => ?_⟩
  · obtain ⟨n, en⟩ := f_no_some c
    have hn := hb n en
    subst en
    have c0 : 0 ≤ f_no (some n) := nI_pos' (by omega)
    rw [if_pos c0] at hP
    refine ⟨fun c1 => ?_, fun c1 => ⟨fun c2 => ?_, fun c2 => ⟨fun c3 => ?_, fun c3 => ⟨fun c4 => ⟨fun c7 => ?_, fun c7 => ?_⟩, fun c4 => ⟨fun c5 => ?_, fun c5 => ⟨fun c6 => ?_, fun c6 => ?_⟩⟩⟩⟩⟩⟩
    · rw [if_pos c1] at hP; exact ⟨_, rfl, hP⟩
    · rw [if_neg c1, if_pos c2] at hP; exact ⟨_, rfl, hP⟩
    · rw [if_neg c1, if_neg c2, if_pos c3] at hP; exact ⟨_, rfl, hP⟩
    · rw [if_neg c1, if_neg c2, if_neg c3, if_pos c4, if_neg c7] at hP
      refine ⟨_, rfl, ?_⟩
      have := leg_4 hn c7
      unfold f_no at hP ⊢
      dsimp only at hP ⊢
      rw [this]
      exact hP
    · rw [if_neg c1, if_neg c2, if_neg c3, if_pos c4, if_pos c7] at hP; exact ⟨_, rfl, hP⟩
    · rw [if_neg c1, if_neg c2, if_neg c3, if_neg c4, if_pos c5] at hP; exact ⟨_, rfl, hP⟩
    · rw [if_neg c1, if_neg c2, if_neg c3, if_neg c4, if_neg c5, if_pos c6] at hP; exact ⟨_, rfl, hP⟩
    · rw [if_neg c1, if_neg c2, if_neg c3, if_neg c4, if_neg c5, if_neg c6] at hP; exact ⟨_, rfl, hP⟩
  · rw [c, if_neg (by decide)] at hP
    exact ⟨_, rfl, hP⟩
end LEG
