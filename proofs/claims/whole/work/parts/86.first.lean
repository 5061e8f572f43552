/-! the first state -/
theorem mu0_z {wy sp wy2 sp2 f : Nat → Int32} {a : Nat} (h : ¬ a = 11 ∧ ¬ a = 89 ∧ ¬ a = 23 ∧ ¬ a = 101 ∧ ¬ a = 187 ∧ ¬ a = 6 ∧ ¬ a = 84 ∧ ¬ (48 ≤ a ∧ a < 84 ∧ a % 3 = 0) ∧ ¬ (126 ≤ a ∧ a < 162 ∧ a % 3 = 0)) (k : Nat) : bz_mu0 wy sp wy2 sp2 f a k = 0 := by
  obtain ⟨h1, h2, h3, h4, h5, h6, h7, h8, h9⟩ := h
  unfold bz_mu0
  rw [if_neg h1, if_neg h2, if_neg h3, if_neg h4, if_neg h5, if_neg (by omega), if_neg h8, if_neg h9]
theorem mu0_6 {wy sp wy2 sp2 f : Nat → Int32} (k : Nat) : bz_mu0 wy sp wy2 sp2 f 6 k = if k = 13 ∨ k = 14 then -1 else 0 := by
  unfold bz_mu0
  rw [if_neg (by decide), if_neg (by decide), if_neg (by decide), if_neg (by decide), if_neg (by decide), if_pos (Or.inl rfl)]
theorem mu0_r {wy sp wy2 sp2 f : Nat → Int32} {r : Nat} (hr : r < 12) (k : Nat) : bz_mu0 wy sp wy2 sp2 f (48 + 3 * r) k = (if k = 0 then nI r else 0) ∧ bz_mu0 wy sp wy2 sp2 f (126 + 3 * r) k = (if k = 0 then nI r else 0) := by
  unfold bz_mu0
  constructor
  · rw [if_neg (by omega), if_neg (by omega), if_neg (by omega), if_neg (by omega), if_neg (by omega), if_neg (by omega), if_pos (by omega), show (48 + 3 * r - 48) / 3 = r by omega]
  · rw [if_neg (by omega), if_neg (by omega), if_neg (by omega), if_neg (by omega), if_neg (by omega), if_neg (by omega), if_neg (by omega), if_pos (by omega), show (126 + 3 * r - 126) / 3 = r by omega]
theorem tc_0 : ∀ i, i < 976 → ((tb_c i).all (fun p => decide (if i = 5 ∨ i = 6 then p = (0, 8 + i) else if 966 ≤ i then p = (17, i - 966) else p.1 < 78 ∧ ¬ p.1 = 5 ∧ ¬ p.1 = 17 ∧ ¬ (p.1 = 0 ∧ (p.2 = 13 ∨ p.2 = 14)) ∧ ¬ (42 ≤ p.1 ∧ (p.1 - 42) % 3 = 0 ∧ p.2 = 0)))) = true := by decide +kernel
theorem tb_p : ∀ i, i < 966 → ¬ i = 5 → ¬ i = 6 → 0 < tb_b i := by decide +kernel
theorem sh_0 : ∀ o, o < 24 → ((0 : Int32) >>> (nI o &&& 31)) &&& 1 = 0 := by decide +kernel
theorem wy_0 {D : Nat → Nat → Option Nat} (h : ∀ a b, D a b = if a = b then some 0 else none) : ∀ k a b, wy_D D k a b = if a = b then some 0 else none
  | 0, a, b => h a b
  | k + 1, a, b => by
    rw [wy_D, wy_0 h k a b, wy_0 h k a k, wy_0 h k k b]
    by_cases q : a = b
    · rw [if_pos q]
      subst q
      by_cases z : a = k
      · subst z
        rw [if_pos rfl]
        rfl
      · rw [if_neg z, if_neg (fun e => z e.symm)]
        rfl
    · rw [if_neg q]
      by_cases z : a = k
      · subst z
        rw [if_pos rfl, if_neg q]
        rfl
      · rw [if_neg z]
        rfl
theorem inv_first (wy sp wy2 sp2 f : Nat → Int32) (h1 : ∀ c, c < 16 → wy (16 * c + c) = 0) (h2 : ∀ a b, a < 16 → b < 16 → a ≠ b → wy (16 * a + b) = -1) (h3 : ∀ j, j < 10 → sp j = -1) (h4 : ∀ j, f j = if j = 5 ∨ j = 6 ∨ (966 ≤ j ∧ j < 976) then -1 else 0) : Inv (bz_mu0 wy sp wy2 sp2 f, (fun _ _ => none), []) := by
  have z : ∀ j, ¬ (j = 5 ∨ j = 6 ∨ (966 ≤ j ∧ j < 976)) → f j = 0 := fun j hj => by rw [h4, if_neg hj]
  have y : ∀ j, (j = 5 ∨ j = 6 ∨ (966 ≤ j ∧ j < 976)) → f j = -1 := fun j hj => by rw [h4, if_pos hj]
  have c0 : (0 : Int32).toNatClampNeg = 0 := rfl
  have e187 : bz_mu0 wy sp wy2 sp2 f 187 = f := by
    unfold bz_mu0
    rw [if_neg (by decide), if_neg (by decide), if_neg (by decide), if_neg (by decide), if_pos rfl]
  have e11 : bz_mu0 wy sp wy2 sp2 f 11 = wy := by
    unfold bz_mu0
    rw [if_pos rfl]
  have e23 : bz_mu0 wy sp wy2 sp2 f 23 = sp := by
    unfold bz_mu0
    rw [if_neg (by decide), if_neg (by decide), if_pos rfl]
  have n2 : (f 2).toNatClampNeg = 0 := by rw [z 2 (by decide)]; rfl
  have n3 : (f 3).toNatClampNeg = 0 := by rw [z 3 (by decide)]; rfl
  have n4 : (f 4).toNatClampNeg = 0 := by rw [z 4 (by decide)]; rfl
  have n10 : (f 10).toNatClampNeg = 0 := by rw [z 10 (by decide)]; rfl
  have hgd : gd f := by
    refine ⟨fun i hi h5 h6 => ?_, fun r hr => ?_, fun o ho => ?_, ⟨fun r hr h12 => ?_, fun r hr o ho h24 => ?_⟩, ?_, ⟨fun i hi => ?_, fun j hj => ?_⟩⟩
    · rw [z i (by omega)]
      exact ⟨0, tb_p i hi h5 h6, rfl⟩
    · rw [z _ (by omega), n2]
      rfl
    · rw [n2] at ho
      exact absurd ho (by omega)
    · exact ⟨z _ (by omega), z _ (by omega), z _ (by omega)⟩
    · rw [z _ (by omega)]
      exact sh_0 o h24
    · unfold gd_t
      rw [n10]
      exact Nat.zero_le _
    · exact Or.inl (y _ (by omega))
    · exact Or.inl (y _ (by omega))
  have hwo : wo (wv (bz_mu0 wy sp wy2 sp2 f) 6) f := by
    refine ⟨fun i hi a k hc => ?_, fun o ho => ⟨?_, fun h => ?_⟩, fun a b ha hb => ?_, fun r hr => ?_⟩
    · have q := tc_0 i hi
      rw [hc] at q
      have q' := of_decide_eq_true q
      unfold wv
      by_cases c1 : i = 5 ∨ i = 6
      · rw [if_pos c1] at q'
        have qa : a = 0 := congrArg Prod.fst q'
        have qk : k = 8 + i := congrArg Prod.snd q'
        rw [qa, mu0_6, if_pos (by omega), y i (by omega)]
      · rw [if_neg c1] at q'
        by_cases c2 : 966 ≤ i
        · rw [if_pos c2] at q'
          have qa : a = 17 := congrArg Prod.fst q'
          have qk : k = i - 966 := congrArg Prod.snd q'
          rw [qa, show 6 + 17 = 23 from rfl, e23, h3 k (by omega), y i (by omega)]
        · rw [if_neg c2] at q'
          obtain ⟨p1, p2, p3, p4, p5⟩ := q'
          dsimp only at p1 p2 p3 p4 p5
          rw [z i (by omega)]
          by_cases c3 : a = 0
          · rw [c3, mu0_6, if_neg (by omega)]
          · by_cases c4 : 42 ≤ a ∧ (a - 42) % 3 = 0
            · rw [show 6 + a = 48 + 3 * ((a - 42) / 3) by omega, (mu0_r (by omega) k).1, if_neg (by omega)]
            · exact mu0_z (by omega) k
    · unfold wv
      rw [mu0_z (by omega), z _ (by omega), z _ (by omega)]
      rfl
    · rw [n2] at h
      exact absurd h (by omega)
    · show bz_mu0 wy sp wy2 sp2 f 11 (16 * a + b) = _
      rw [e11]
      unfold f_wy
      rw [show wy_D (f_d f) 16 a b = wy_D (fun a b => if a = b then some 0 else none) 16 a b from ?_]
      · rw [wy_0 (fun _ _ => rfl) 16 a b]
        by_cases q : a = b
        · subst q
          rw [if_pos rfl]
          exact h1 a ha
        · rw [if_neg q]
          exact h2 a b ha hb q
      · congr 1
        funext a b
        unfold f_d
        by_cases q : a = b
        · rw [if_pos q, if_pos q]
        · rw [if_neg q, if_neg q]
          by_cases q' : 16 ≤ a ∨ 16 ≤ b
          · rw [if_pos q']
          · rw [if_neg q', z _ (by omega), if_pos rfl]
    · rw [n3] at hr
      exact absurd hr (by omega)
  have mz : ∀ a, (¬ a = 11 ∧ ¬ a = 89 ∧ ¬ a = 23 ∧ ¬ a = 101 ∧ ¬ a = 187 ∧ ¬ a = 6 ∧ ¬ a = 84 ∧ ¬ (48 ≤ a ∧ a < 84 ∧ a % 3 = 0) ∧ ¬ (126 ≤ a ∧ a < 162 ∧ a % 3 = 0)) → ∀ k, bz_mu0 wy sp wy2 sp2 f a k = 0 := fun a h k => mu0_z h k
  refine ⟨?_, Or.inl (mz 186 (by decide) 5), fun r hr => ⟨?_, ?_⟩, Or.inl ⟨mz 5 (by decide) 2, mz 186 (by decide) 2⟩, ⟨fun _ => 0, 0, by decide, fun _ => (by decide : 0 < 256), ⟨mz 162 (by decide) 1, fun j hj => absurd hj (by omega)⟩, ⟨mz 186 (by decide) 14, fun j hj => absurd hj (by omega)⟩⟩, fun k hk => ?_, fun i hi => ?_, fun c hc t ht => Or.inl rfl⟩
  · show wd _ 6 16 (bz_mu0 wy sp wy2 sp2 f 187)
    rw [e187]
    refine ⟨hgd, hwo, fun t ht => ?_, fun a b ha hb => ?_⟩
    · rw [n4] at ht
      exact absurd ht (by omega)
    · rw [z _ (by omega), z _ (by omega)]
  · dsimp only
    rw [(mu0_r hr 0).1, if_pos rfl]
  · dsimp only
    rw [(mu0_r hr 0).2, if_pos rfl]
  · dsimp only
    rw [mz 174 (by decide), mz 189 (by decide)]
  · dsimp only
    rw [mz (166 + 2 * i) (by omega), mz (166 + 2 * i) (by omega), mz 201 (by decide), mz 202 (by decide)]
    refine ⟨rfl, rfl, fun j hj => ?_, Or.inl rfl, ⟨0, by decide, rfl⟩⟩
    rw [mz (167 + 2 * i) (by omega), mz 203 (by decide)]
/-- all pairs -/
theorem all_pairs : bz_all Inv := ⟨pr_crossing, pr_road, pr_way, pr_minutes, pr_kitchen, pr_order, pr_orderOf, pr_callOff, pr_rider, pr_riderOf, pr_goes, pr_trip, pr_join, pr_give, pr_giveTwo, pr_feed, pr_wipe, pr_text, pr_force, pr_says, pr_offered, pr_refuse, pr_offerAll, pr_rain, pr_law, pr_app, pr_least, pr_lacks, pr_ban, pr_seen, pr_doubles, pr_zone, pr_starves, pr_night, pr_whom, pr_hold, pr_as, pr_sheet, pr_write, pr_copy, pr_roads, pr_judge, pr_image, pr_undo, pr_tear, pr_count, pr_status⟩
theorem ini_all : bz_ini Inv := bz_ini_of inv_first
