/-! the world at 84 becomes like that at 6 -/
section LWi
variable {G : bz_G} {κ : bz_K} {l : Launch} {d bc bs : Nat} {E : Nat × (Nat → Int32)} {S : bz_S} {P : bz_H → Prop}
theorem lwi_s {S7 : bz_S} {D : Nat → Prop} (l7 : lk 84 6 D S S7) (hP : ∀ S1, lk 84 6 (fun x => (D x ∨ x = 17) ∨ x = 0) S S1 → S1.2 = S7.2 → P (bz_hp E S1)) : bz_rR (bz_hp E S7) 6 10 8 (fun r_48 => bz_rR (bz_hp E S7) 84 10 8 (fun r_49 => bz_nn r_49 (fun a_50 => bz_nn r_48 (fun a_51 => bz_cp (bz_hp E S7) a_51 0 a_50 0 10 (fun h_52 => bz_rI h_52 6 10 9 (fun x_53 => bz_wI h_52 84 10 9 x_53 (fun h_54 => bz_rI h_54 6 10 10 (fun x_55 => bz_wI h_54 84 10 10 x_55 (fun h_56 => bz_rI h_56 6 10 11 (fun x_57 => bz_wI h_56 84 10 11 x_57 (fun h_58 => bz_rI h_58 6 10 12 (fun x_59 => bz_wI h_58 84 10 12 x_59 (fun h_60 => bz_rI h_60 6 10 13 (fun x_61 => bz_wI h_60 84 10 13 x_61 (fun h_62 => bz_rI h_62 6 10 14 (fun x_63 => bz_wI h_62 84 10 14 x_63 (fun h_64 => bz_rI h_64 6 10 15 (fun x_65 => bz_wI h_64 84 10 15 x_65 (fun h_66 => (fun (v : Option bz_V) h' => v = none ∧ P h') none h_66))))))))))))))))))) := by
  refine ap_rR rfl (ap_rR rfl (ap_nn (ap_nn (ap_cp rfl rfl ⟨by decide, by decide, by decide, by decide, by decide⟩ ?_))))
  rw [show (0 : Int32).toNatClampNeg = 0 from rfl, show (10 : Int32).toNatClampNeg = 10 from rfl]
  have key : ∃ S8 : bz_S, S8 = (bz_ur S7.1 101 (va_cpy (S7.1 23) (S7.1 101) 0 0 10), S7.2) := ⟨_, rfl⟩
  obtain ⟨S8, e8⟩ := key
  rw [← e8]
  have r8 : fr (fun c _ => c = 101) S7 S8 := by
    rw [e8]
    exact fr_ur (fun _ => rfl)
  have l8 := lk_17 (B := 84) (C := 6) (by decide) l7 r8 (fun k hk => by rw [e8]; show bz_ur S7.1 101 (va_cpy (S7.1 23) (S7.1 101) 0 0 10) 101 k = S7.1 23 k; rw [bz_ur_same, cpy_e _ _ hk])
  have e_e := r8.1
  clear e8 r8
  refine ap_rI rfl (ap_wI rfl ?_)
  refine ap_rI rfl (ap_wI rfl ?_)
  refine ap_rI rfl (ap_wI rfl ?_)
  refine ap_rI rfl (ap_wI rfl ?_)
  refine ap_rI rfl (ap_wI rfl ?_)
  refine ap_rI rfl (ap_wI rfl ?_)
  refine ap_rI rfl (ap_wI rfl ?_)
  refine ⟨rfl, hP _ (lk_0 (by decide) l8 ?_ (fun k hk1 hk2 => ?_)) e_e⟩
  · exact (by repeat (first | exact fr_0 _ _ | exact fr_r _ _ | refine fr_v ?_ (by first | omega | (dsimp only; omega))))
  · dsimp only
    have : k = 9 ∨ k = 10 ∨ k = 11 ∨ k = 12 ∨ k = 13 ∨ k = 14 ∨ k = 15 := by omega
    rcases this with z | z | z | z | z | z | z <;> subst z <;> simp (disch := omega) only [bz_u_same, bz_u_ne]
theorem lwi_e (hl : κ.2.1 = l) {S4 : bz_S} (l4 : lk 84 6 (fun a => (2 ≤ a ∧ a ≤ 7) ∨ (18 ≤ a ∧ a < 78)) S S4) (hP : ∀ S1, lk 84 6 (fun a => a = 0 ∨ (2 ≤ a ∧ a ≤ 7) ∨ (11 ≤ a ∧ a < 78)) S S1 → S1.2 = S4.2 → P (bz_hp E S1)) : bz_J G κ kX10_becomeLike (d + 3 + 1) (fun v h' => v = none ∧ P h') bc bs 82 [some (.inr (some 84)), some (.inr (some 6)), some (.inl (nI 8))] [] (bz_hp E S4) := by
  refine g_X10_becomeLike_82 hl _ _ _ _ ?_
  unfold w_X10_becomeLike_82
  refine ⟨fun _ => ?_, fun z => absurd (by decide) z⟩
  refine ap_rR rfl (ap_nn (ap_rR rfl (ap_nn (ap_rc rfl ?_))))
  refine X_like4 (a := 95) (a' := 96) (b := 17) (b' := 18) (n := 72) rfl rfl rfl rfl rfl rfl (by decide) (by decide) (fun S5 r v1 v2 => ?_)
  have e_S5 := r.1
  have l5 := lk_4 (B := 84) (C := 6) (a := 11) (n := 72) (by decide) l4 r v1 v2 (by decide) lm_11.1 lm_11.2
  clear r v1 v2
  refine ap_rR rfl (ap_rR rfl (ap_nn (ap_rc rfl ?_)))
  refine X_like4 (a := 97) (a' := 98) (b := 19) (b' := 20) (n := 18) rfl rfl rfl rfl rfl rfl (by decide) (by decide) (fun S6 r v1 v2 => ?_)
  have e_S6 := r.1
  have l6 := lk_4 (B := 84) (C := 6) (a := 13) (n := 18) (by decide) l5 r v1 v2 (by decide) lm_13.1 lm_13.2
  clear r v1 v2
  refine ap_rR rfl (ap_rR rfl (ap_nn (ap_rc rfl ?_)))
  refine X_like4 (a := 99) (a' := 100) (b := 21) (b' := 22) (n := 60) rfl rfl rfl rfl rfl rfl (by decide) (by decide) (fun S7 r v1 v2 => ?_)
  have e_S7 := r.1
  have l7 := lk_4 (B := 84) (C := 6) (a := 15) (n := 60) (by decide) l6 r v1 v2 (by decide) lm_15.1 lm_15.2
  clear r v1 v2
  refine lwi_s l7 (fun S1 l1 e1 => hP S1 (lk_m l1 (fun a => ?_)) (e1.trans (e_S7.trans (e_S6.trans e_S5))))
  omega
theorem lwi_82 (hl : κ.2.1 = l) {S3 : bz_S} (hq : ∀ t, t < 8 → S.2.1 16 t = none ∨ ∃ i q, S.2.1 16 t = some (205 + 2 * i) ∧ S.2.2[i]? = some q) (l3 : lk 84 6 (fun a => (2 ≤ a ∧ a ≤ 7) ∨ (18 ≤ a ∧ a < 78)) S S3) (e3 : S3.2 = S.2) (hP : ∀ S1, lk 84 6 (fun a => a = 0 ∨ (2 ≤ a ∧ a ≤ 7) ∨ (11 ≤ a ∧ a < 78)) S S1 → S1.2.2 = S.2.2 → (∀ c, ¬ c = 94 → S1.2.1 c = S.2.1 c) → (∀ t, t < 8 → S1.2.1 94 t = S.2.1 16 t) → P (bz_hp E S1)) : bz_J G κ kX10_becomeLike (d + 3 + 1) (fun v h' => v = none ∧ P h') bc bs 82 [some (.inr (some 84)), some (.inr (some 6)), some (.inl (nI 0))] [] (bz_hp E S3) := by
  have main := bz_for (n := 8) (Q := fun k => ∀ S4 : bz_S, S4.1 = S3.1 → S4.2.2 = S.2.2 → (∀ c, ¬ c = 94 → S4.2.1 c = S.2.1 c) → (∀ t, t < k → S4.2.1 94 t = S.2.1 16 t) → bz_J G κ kX10_becomeLike (d + 3 + 1) (fun v h' => v = none ∧ P h') bc bs 82 [some (.inr (some 84)), some (.inr (some 6)), some (.inl (nI k))] [] (bz_hp E S4)) (fun k hk ih S4 q1 q2 q3 q4 => ?_) ?_
  · exact main S3 rfl (by rw [e3]) (fun c _ => by rw [e3]) (fun t ht => absurd ht (by omega))
  · refine g_X10_becomeLike_82 hl _ _ _ _ ?_
    unfold w_X10_becomeLike_82
    refine ⟨fun z => absurd ((nI_leI (a := 8) (by decide) (by omega)).mp z) (by omega), fun _ => ?_⟩
    refine ap_rR rfl (ap_nn (ap_rR rfl (ap_nn (ap_qT rfl hk (ap_nn ?_)))))
    rw [q3 16 (by decide)]
    refine ap_wQ rfl hk (by rw [q2]; exact hq k hk) ?_
    rw [← nI_succ]
    refine ih _ q1 q2 (fun c hc => ?_) (fun t ht => ?_)
    · dsimp only
      rw [if_neg hc]
      exact q3 c hc
    · dsimp only
      rw [if_pos rfl]
      unfold va_up
      by_cases z : t = k
      · rw [if_pos z, z]
      · rw [if_neg z]
        exact q4 t (by omega)
  intro S4 q1 q2 q3 q4
  refine lwi_e (S := S) hl (by unfold lk; rw [q1]; exact l3) (fun S1 l1 e1 => hP S1 l1 (by rw [e1]; exact q2) (fun c hc => by rw [e1]; exact q3 c hc) (fun t ht => by rw [e1]; exact q4 t ht))
theorem lwi_53 (hl : κ.2.1 = l) {S2 : bz_S} (l2 : lk 84 6 (fun a => (2 ≤ a ∧ a ≤ 7) ∨ (18 ≤ a ∧ a < 42)) S S2) (e2 : S2.2 = S.2) (hP : ∀ S3 : bz_S, lk 84 6 (fun a => (2 ≤ a ∧ a ≤ 7) ∨ (18 ≤ a ∧ a < 78)) S S3 → S3.2 = S.2 → bz_J G κ kX10_becomeLike (d + 3 + 1) (fun v h' => v = none ∧ P h') bc bs 82 [some (.inr (some 84)), some (.inr (some 6)), some (.inl (nI 0))] [] (bz_hp E S3)) : bz_J G κ kX10_becomeLike (d + 3 + 1) (fun v h' => v = none ∧ P h') bc bs 53 [some (.inr (some 84)), some (.inr (some 6)), some (.inl (nI 0))] [] (bz_hp E S2) := by
  have main := bz_for (n := 12) (Q := fun k => ∀ S3 : bz_S, lk 84 6 (fun a => (2 ≤ a ∧ a ≤ 7) ∨ (18 ≤ a ∧ a < 42 + 3 * k)) S S3 → S3.2 = S.2 → bz_J G κ kX10_becomeLike (d + 3 + 1) (fun v h' => v = none ∧ P h') bc bs 53 [some (.inr (some 84)), some (.inr (some 6)), some (.inl (nI k))] [] (bz_hp E S3)) (fun k hk ih S3 l3 e3 => ?_) ?_
  · exact main S2 (lk_m l2 (fun a => by omega)) e2
  · refine g_X10_becomeLike_53 hl _ _ _ _ ?_
    unfold w_X10_becomeLike_53
    refine ⟨fun z => absurd ((nI_leI (a := 12) (by decide) (by omega)).mp z) (by omega), fun _ => ?_⟩
    obtain ⟨b1, b2, b3, b4, b5, b6⟩ := kd_lk.2.2.2 k hk
    obtain ⟨c1, c2, c3, c4, c5, c6⟩ := kd_lh.2.2.2 k hk
    refine ap_rR rfl (ap_nn (ap_q93 rfl hk (ap_nn (ap_rR rfl (ap_nn (ap_qR rfl hk (ap_nn (ap_rc b1 ?_))))))))
    refine X_like3 (kd_lk.2.2.1 k hk) (kd_lh.2.2.1 k hk) b2 c2 b3 b4 c4 b5 c5 b6 c6 (by omega) (fun S4 r4 v4 v5 v6 => ?_)
    rw [← nI_succ]
    refine ih S4 (lk_m (lk_3 (B := 84) (C := 6) (q := k) (by decide) hk l3 r4 v4 v5 v6) (fun a => ?_)) (r4.1.trans e3)
    clear b1 b2 b3 b4 b5 b6 c1 c2 c3 c4 c5 c6
    omega
  intro S3 l3 e3
  refine g_X10_becomeLike_53 hl _ _ _ _ ?_
  unfold w_X10_becomeLike_53
  exact ⟨fun _ => hP S3 (lk_m l3 (fun a => by omega)) e3, fun z => absurd (by decide) z⟩
theorem lwi_24 (hl : κ.2.1 = l) {S2 : bz_S} (l2 : lk 84 6 (fun a => 2 ≤ a ∧ a ≤ 7) S S2) (e2 : S2.2 = S.2) (hP : ∀ S3 : bz_S, lk 84 6 (fun a => (2 ≤ a ∧ a ≤ 7) ∨ (18 ≤ a ∧ a < 42)) S S3 → S3.2 = S.2 → bz_J G κ kX10_becomeLike (d + 3 + 1) (fun v h' => v = none ∧ P h') bc bs 53 [some (.inr (some 84)), some (.inr (some 6)), some (.inl (nI 0))] [] (bz_hp E S3)) : bz_J G κ kX10_becomeLike (d + 3 + 1) (fun v h' => v = none ∧ P h') bc bs 24 [some (.inr (some 84)), some (.inr (some 6)), some (.inl (nI 0))] [] (bz_hp E S2) := by
  have main := bz_for (n := 24) (Q := fun k => ∀ S3 : bz_S, lk 84 6 (fun a => (2 ≤ a ∧ a ≤ 7) ∨ (18 ≤ a ∧ a < 18 + k)) S S3 → S3.2 = S.2 → bz_J G κ kX10_becomeLike (d + 3 + 1) (fun v h' => v = none ∧ P h') bc bs 24 [some (.inr (some 84)), some (.inr (some 6)), some (.inl (nI k))] [] (bz_hp E S3)) (fun k hk ih S3 l3 e3 => ?_) ?_
  · exact main S2 (lk_m l2 (fun a => by omega)) e2
  · refine g_X10_becomeLike_24 hl _ _ _ _ ?_
    unfold w_X10_becomeLike_24
    refine ⟨fun z => absurd ((nI_leI (a := 24) (by decide) (by omega)).mp z) (by omega), fun _ => ?_⟩
    refine ap_rR rfl (ap_nn (ap_q92 rfl hk (ap_nn (ap_rR rfl (ap_nn (ap_qO rfl hk (ap_nn (ap_rc (kd_lk.2.1 k hk) ?_))))))))
    refine X_like2 (kd_lk.1 k hk) (kd_lh.1 k hk) (by omega) (fun S4 r4 v4 => ?_)
    rw [← nI_succ]
    refine ih S4 (lk_m (lk_2 (B := 84) (C := 6) (o := k) (by decide) hk l3 r4 v4) (fun a => ?_)) (r4.1.trans e3)
    omega
  intro S3 l3 e3
  refine g_X10_becomeLike_24 hl _ _ _ _ ?_
  unfold w_X10_becomeLike_24
  exact ⟨fun _ => hP S3 (lk_m l3 (fun a => by omega)) e3, fun z => absurd (by decide) z⟩
theorem X_like_i (hq : ∀ t, t < 8 → S.2.1 16 t = none ∨ ∃ i q, S.2.1 16 t = some (205 + 2 * i) ∧ S.2.2[i]? = some q) (hP : ∀ S1, lk 84 6 (fun a => a = 0 ∨ (2 ≤ a ∧ a ≤ 7) ∨ (11 ≤ a ∧ a < 78)) S S1 → S1.2.2 = S.2.2 → (∀ c, ¬ c = 94 → S1.2.1 c = S.2.1 c) → (∀ t, t < 8 → S1.2.1 94 t = S.2.1 16 t) → P (bz_hp E S1)) : bz_cV G l (d + 4) kX10_becomeLike [.inr (some 84), .inr (some 6)] (bz_hp E S) 0 0 P := by
  refine m_X10_becomeLike _ _ _ (fun κ bc bs hl => ?_)
  unfold w_X10_becomeLike_0
  refine ap_rR rfl (ap_nn (ap_rR rfl (ap_nn (ap_rc rfl ?_))))
  refine X_like8 (a := 85) (b := 7) ⟨rfl, rfl, rfl, rfl⟩ ⟨rfl, rfl, rfl, rfl⟩ ⟨rfl, rfl, rfl, rfl⟩ ⟨rfl, rfl, rfl, rfl⟩ (by decide) (fun S1 r v1 v2 v3 v4 => ?_)
  have l1 := lk_8 (B := 84) (C := 6) (S := S) (by decide) ⟨fun _ _ _ => rfl, fun _ _ => rfl, fun _ _ h => absurd h id⟩ r v1 v2 v3 v4
  have e_S1 := r.1
  clear r v1 v2 v3 v4
  refine ap_rR rfl (ap_rR rfl (ap_nn (ap_rc rfl ?_)))
  refine X_like4 (a := 90) (a' := 91) (b := 12) (b' := 13) (n := 18) rfl rfl rfl rfl rfl rfl (by decide) (by decide) (fun S2 r v1 v2 => ?_)
  have e_S2 := r.1
  have l2 := lk_4 (B := 84) (C := 6) (a := 6) (n := 18) (by decide) l1 r v1 v2 (by decide) lm_6.1 lm_6.2
  clear r v1 v2
  exact lwi_24 hl (lk_m l2 (fun a => by omega)) (e_S2.trans e_S1) (fun S3 l3 e3 => lwi_53 hl l3 e3 (fun S4 l4 e4 => lwi_82 hl hq l4 e4 hP))
end LWi
