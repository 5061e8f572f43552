/-! the place of a letter among the names -/
def bz_nm (b : Nat) : Int32 := if b = 100 then 0 else if b = 119 then 1 else if b = 104 then 2 else if b = 114 then 3 else if b = 108 then 4 else if b = 99 then 5 else if b = 110 then 6 else -1
theorem nm_eq : ∀ b, b < 256 → ∀ k, k < 7 → ((([100, 119, 104, 114, 108, 99, 110] : List Int32).getD k 0 = (nI b).toInt8.toInt32) ↔ b = ([100, 119, 104, 114, 108, 99, 110] : List Nat).getD k 0) := by decide +kernel
section TX0
variable {G : bz_G} {l : Launch} {d : Nat} {h : bz_H} {P : Int32 → bz_H → Prop}
theorem J_canEncode {v : Int32} (hP : P (bz_in v 0 255) h) : bz_cI G l (d + 1) kJ1_canEncode_9a6ad [.inl v] h 0 0 P := m_J1_canEncode_9a6ad _ _ ⟨_, rfl, hP⟩
theorem J_coder (hP : P 0 h) : bz_cI G l (d + 1) kJ0_coder_7d493 [.inr (some 3)] h 0 0 P := m_J0_coder_7d493 _ ⟨fun c => absurd c (by decide), fun _ => ⟨_, rfl, hP⟩⟩
theorem J_length (hP : P 7 h) : bz_cI G l (d + 2) kJ0_length_8abf5 [.inr (some 3)] h 0 0 P := m_J0_length_8abf5 _ (J_coder ⟨_, rfl, hP⟩)
theorem J_isLatin1 (hP : P 1 h) : bz_cI G l (d + 1) kJ0_isLatin1_aae02 [.inr (some 3)] h 0 0 P := m_J0_isLatin1_aae02 _ ⟨fun c => absurd c (by decide), fun _ => ⟨_, rfl, hP⟩⟩
theorem J_indexOfChar {b : Nat} (hb : b < 256) (hP : P (bz_nm b) h) : bz_cI G l (d + 1) kJ1_indexOfChar_4cfef [.inr (some 4), .inl (nI b), .inl 0, .inl 7] h 0 0 P := by
  refine m_J1_indexOfChar_4cfef _ _ _ _ (fun κ bc bs hl => ?_)
  unfold w_J1_indexOfChar_4cfef_0
  have step : ∀ (k : Nat), k < 7 → ∀ (x5 : Int32), x5 = nI k → (b = ([100, 119, 104, 114, 108, 99, 110] : List Nat).getD k 0 → P x5 h) → (¬ b = ([100, 119, 104, 114, 108, 99, 110] : List Nat).getD k 0 → bz_J G κ kJ1_indexOfChar_4cfef (d + 1) (fun v h' => ∃ x, v = some (.inl x) ∧ P x h') bc bs 7 [some (.inr (some 4)), some (.inl (nI b)), some (.inl 0), some (.inl 7), some (.inl (nI b).toInt8.toInt32), some (.inl (nI (k + 1)))] [] h) → bz_J G κ kJ1_indexOfChar_4cfef (d + 1) (fun v h' => ∃ x, v = some (.inl x) ∧ P x h') bc bs 7 [some (.inr (some 4)), some (.inl (nI b)), some (.inl 0), some (.inl 7), some (.inl (nI b).toInt8.toInt32), some (.inl x5)] [] h := by
    intro k hk x5 hx5 h1 h2
    subst hx5
    refine g_J1_indexOfChar_4cfef_7 hl _ _ _ _ _ _ ⟨fun c => ?_, fun _ => ⟨vp_in_nI hk (by decide), fun c => ?_, fun c => ⟨_, rfl, ?_⟩⟩⟩
    · exact absurd ((nI_leI (a := 7) (b := k) (by decide) (by omega)).mp c) (by omega)
    · rw [nI_clamp (by omega)] at c
      rw [nI_1]
      exact h2 (fun q => c ((nm_eq b hb k hk).mpr q))
    · rw [nI_clamp (by omega)] at c
      exact h1 ((nm_eq b hb k hk).mp c)
  unfold bz_nm at hP
  refine step 0 (by decide) 0 rfl (fun c => ?_) (fun c0 => ?_)
  · rw [if_pos (show b = 100 from c)] at hP; exact hP
  rw [if_neg (show ¬ b = 100 from c0)] at hP
  refine step 1 (by decide) _ rfl (fun c => ?_) (fun c0 => ?_)
  · rw [if_pos (show b = 119 from c)] at hP; exact hP
  rw [if_neg (show ¬ b = 119 from c0)] at hP
  refine step 2 (by decide) _ rfl (fun c => ?_) (fun c0 => ?_)
  · rw [if_pos (show b = 104 from c)] at hP; exact hP
  rw [if_neg (show ¬ b = 104 from c0)] at hP
  refine step 3 (by decide) _ rfl (fun c => ?_) (fun c0 => ?_)
  · rw [if_pos (show b = 114 from c)] at hP; exact hP
  rw [if_neg (show ¬ b = 114 from c0)] at hP
  refine step 4 (by decide) _ rfl (fun c => ?_) (fun c0 => ?_)
  · rw [if_pos (show b = 108 from c)] at hP; exact hP
  rw [if_neg (show ¬ b = 108 from c0)] at hP
  refine step 5 (by decide) _ rfl (fun c => ?_) (fun c0 => ?_)
  · rw [if_pos (show b = 99 from c)] at hP; exact hP
  rw [if_neg (show ¬ b = 99 from c0)] at hP
  refine step 6 (by decide) _ rfl (fun c => ?_) (fun c0 => ?_)
  · rw [if_pos (show b = 110 from c)] at hP; exact hP
  rw [if_neg (show ¬ b = 110 from c0)] at hP
  refine g_J1_indexOfChar_4cfef_7 hl _ _ _ _ _ _ ⟨fun _ => ⟨_, rfl, hP⟩, fun c => absurd (show (7 : Int32) ≤ nI 7 by decide) c⟩
theorem J_indexOf {b : Nat} (hb : b < 256) (hP : P (bz_nm b) h) : bz_cI G l (d + 4) kJ0_indexOf_0f7a4 [.inr (some 3), .inl (nI b)] h 0 0 P := by
  refine m_J0_indexOf_0f7a4 _ _ ?_
  unfold w_J0_indexOf_0f7a4_0
  refine m_J0_indexOf_7cf53 _ _ _ ?_
  unfold w_J0_indexOf_7cf53_0
  refine J_isLatin1 ⟨fun c => absurd c (by decide), fun _ => J_length ?_⟩
  refine m_J1_indexOf_4cfef _ _ _ _ ?_
  unfold w_J1_indexOf_4cfef_0
  refine J_canEncode ?_
  have e : bz_in (nI b) 0 255 = 1 := bz_in_1 ⟨nI_pos (by omega), nI_nlt (a := 255) (b := b) (by omega) (by decide)⟩
  rw [e]
  refine ⟨fun _ => ⟨fun _ => ?_, fun c => absurd (by decide) c⟩, fun c => absurd c (by decide)⟩
  exact J_indexOfChar hb ⟨_, rfl, _, rfl, _, rfl, hP⟩
end TX0
