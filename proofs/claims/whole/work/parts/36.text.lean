/-! what a text gives -/
theorem bz_tc_get : ∀ (T : List (Nat × (Nat → Int32))) (i j : Nat) (q : Nat × (Nat → Int32)), T[j]? = some q → (bz_tc i T)[2 * j]? = some (bz_co 7 [.inr (some (i + 2 * j + 1))]) ∧ (bz_tc i T)[2 * j + 1]? = some (bz_ci q.1 q.2)
  | [], i, j, q, h => by simp at h
  | p :: r, i, 0, q, h => by
    simp at h
    subst h
    exact ⟨rfl, rfl⟩
  | p :: r, i, j + 1, q, h => by
    rw [List.getElem?_cons_succ] at h
    obtain ⟨h1, h2⟩ := bz_tc_get r (i + 2) j q h
    refine ⟨?_, ?_⟩
    · rw [bz_tc, show 2 * (j + 1) = 2 * j + 1 + 1 by omega, List.getElem?_cons_succ, List.getElem?_cons_succ, h1, show i + 2 + 2 * j + 1 = i + (2 * j + 1 + 1) + 1 by omega]
    · rw [bz_tc, show 2 * (j + 1) + 1 = 2 * j + 1 + 1 + 1 by omega, List.getElem?_cons_succ, List.getElem?_cons_succ, h2]
theorem bz_hp_tx {E : Nat × (Nat → Int32)} {S : bz_S} {i : Nat} {q : Nat × (Nat → Int32)} (h : S.2.2[i]? = some q) : (bz_hp E S)[205 + 2 * i]? = some (bz_co 7 [.inr (some (206 + 2 * i))]) ∧ (bz_hp E S)[206 + 2 * i]? = some (bz_ci q.1 q.2) := by
  obtain ⟨h1, h2⟩ := bz_tc_get S.2.2 205 i q h
  have len : (List.map (fun i => bz_cell S (i + 5)) (List.range 200)).length = 200 := by rw [List.length_map, List.length_range]
  unfold bz_hp
  refine ⟨?_, ?_⟩
  · rw [List.getElem?_append_right (by show 5 ≤ 205 + 2 * i; omega), List.getElem?_append_right (by rw [len]; show 200 ≤ 205 + 2 * i - 5; omega), len]
    show (bz_tc 205 S.2.2)[205 + 2 * i - 5 - 200]? = _
    rw [show 205 + 2 * i - 5 - 200 = 2 * i by omega, h1, show 205 + 2 * i + 1 = 206 + 2 * i by omega]
  · rw [List.getElem?_append_right (by show 5 ≤ 206 + 2 * i; omega), List.getElem?_append_right (by rw [len]; show 200 ≤ 206 + 2 * i - 5; omega), len]
    show (bz_tc 205 S.2.2)[206 + 2 * i - 5 - 200]? = _
    rw [show 206 + 2 * i - 5 - 200 = 2 * i + 1 by omega, h2]
theorem ap_tR {E : Nat × (Nat → Int32)} {S : bz_S} {i : Nat} {q : Nat × (Nat → Int32)} {P : Option Nat → Prop} (h : S.2.2[i]? = some q) (hP : P (some (206 + 2 * i))) : bz_rR (bz_hp E S) (205 + 2 * i) 7 0 P := ⟨_, _, by show 5 ≤ _; omega, (bz_hp_tx h).1, rfl, hP⟩
theorem ap_tN {E : Nat × (Nat → Int32)} {S : bz_S} {i : Nat} {q : Nat × (Nat → Int32)} {P : Int32 → Prop} (h : S.2.2[i]? = some q) (hP : P (nI q.1)) : bz_rN (bz_hp E S) (206 + 2 * i) P := ⟨_, _, Or.inr (by show 5 ≤ _; omega), (bz_hp_tx h).2, hP⟩
theorem ap_tA {E : Nat × (Nat → Int32)} {S : bz_S} {i k : Nat} {q : Nat × (Nat → Int32)} {P : Int32 → Prop} (h : S.2.2[i]? = some q) (hk : k < q.1 ∧ q.1 < 100000) (hP : P (q.2 k)) : bz_rA (bz_hp E S) (206 + 2 * i) (nI k) P := ⟨_, _, Or.inr (by show 5 ≤ _; omega), (bz_hp_tx h).2, vp_in_nI hk.1 (by omega), by rw [nI_clamp (by omega)]; exact hP⟩
def f_let (j : Nat) : Nat := ([100, 119, 104, 114, 108, 99, 110] : List Nat).getD j 0
def mw (g : Nat) : Nat := if g < 10000 then 0 else if g < 10007 then 1 else if g = 10263 then 2 else 3
def mv (g : Nat) : Nat := if g < 10000 then g else if g < 10007 then f_let (g - 10000) else if g = 10263 then 0 else g - 10007
def f_jn (c x y : Int32) : Int32 := if c = 42 then x * y else if c = 43 then x + y else if c = 45 then x - y else if c = 47 then (if y = 0 then 0 else x / y) else if c = 60 then (if y ≤ x then 0 else 1) else if x = y then 1 else 0
def f_dp (g : Nat → Nat) : Nat → Nat
  | 0 => 0
  | k + 1 => if g k < 10007 then f_dp g k + 1 else if g k = 10263 then f_dp g k else f_dp g k - 1
def f_st (v : Nat → Int32) (g : Nat → Nat) : Nat → Nat → Int32
  | 0 => fun _ => 0
  | k + 1 => if g k < 10007 then upd (f_st v g k) (f_dp g k) (if g k < 10000 then nI (g k) else v (g k - 10000)) else if g k = 10263 then upd (f_st v g k) (f_dp g k - 1) (-(f_st v g k (f_dp g k - 1))) else upd (f_st v g k) (f_dp g k - 2) (f_jn (nI (g k - 10007)) (f_st v g k (f_dp g k - 2)) (f_st v g k (f_dp g k - 1)))
def wfm (g : Nat → Nat) (n : Nat) : Prop := 1 ≤ n ∧ n ≤ 80 ∧ ∀ k, k < n → g k ≤ 10263 ∧ (g k = 10263 → 1 ≤ f_dp g k) ∧ (10007 ≤ g k → ¬ g k = 10263 → 2 ≤ f_dp g k)
theorem f_dp_le (g : Nat → Nat) : ∀ k, f_dp g k ≤ k
  | 0 => Nat.le_refl _
  | k + 1 => by
    have := f_dp_le g k
    rw [f_dp]
    split
    · omega
    · split <;> omega
theorem f_dp_1 {g : Nat → Nat} {n : Nat} (h : wfm g n) : ∀ k, k < n → 1 ≤ f_dp g (k + 1)
  | 0, hk => by
    obtain ⟨h1, h2, h3⟩ := h.2.2 0 hk
    rw [f_dp]
    split
    · omega
    · split
      · next q => exact h2 q
      · next q q' =>
        have := h3 (by omega) q'
        omega
  | k + 1, hk => by
    have ih := f_dp_1 h k (by omega)
    obtain ⟨h1, h2, h3⟩ := h.2.2 (k + 1) hk
    rw [f_dp]
    split
    · omega
    · split
      · exact ih
      · next q q' =>
        have := h3 (by omega) q'
        omega
def tg (s : Nat → Int32) (t n : Nat) (g : Nat → Nat) : Prop := s (976 + 165 * t) = nI n ∧ ∀ k, k < n → s (976 + 165 * t + 1 + 2 * k) = nI (mw (g k)) ∧ s (976 + 165 * t + 2 + 2 * k) = nI (mv (g k))
theorem dv_m1 (x : Int32) : x / -1 = -x := by
  apply Int32.toInt_inj.mp
  rw [Int32.toInt_div, show (-1 : Int32).toInt = -1 from rfl, Int32.toInt_neg, Int.tdiv_neg, Int.tdiv_one]
section TXT
variable {G : bz_G} {l : Launch} {d : Nat} {E : Nat × (Nat → Int32)} {S : bz_S} {s : Nat → Int32}
theorem X_joined {P : Int32 → bz_H → Prop} {h : bz_H} {c x y : Int32} (hP : P (f_jn c x y) h) : bz_cI G l (d + 1) kX0_joined [.inl c, .inl x, .inl y] h 0 0 P := by
  refine m_X0_joined _ _ _ _ ?_
  unfold w_X0_joined_0
  unfold f_jn at hP
  refine ⟨fun c1 => ?_, fun c1 => ⟨fun c2 => ?_, fun c2 => ⟨fun c3 => ?_, fun c3 => ⟨fun c4 => ⟨fun c6 => ?_, fun c6 => ?_⟩, fun c4 => ⟨fun c5 => ?_, fun c5 => ?_⟩⟩⟩⟩⟩
  · rw [if_pos c1] at hP; exact ⟨_, rfl, hP⟩
  · rw [if_neg c1, if_pos c2] at hP; exact ⟨_, rfl, hP⟩
  · rw [if_neg c1, if_neg c2, if_pos c3] at hP; exact ⟨_, rfl, hP⟩
  · rw [if_neg c1, if_neg c2, if_neg c3, if_pos c4, if_neg c6] at hP; exact ⟨c6, _, rfl, hP⟩
  · rw [if_neg c1, if_neg c2, if_neg c3, if_pos c4, if_pos c6] at hP; exact ⟨_, rfl, hP⟩
  · rw [if_neg c1, if_neg c2, if_neg c3, if_neg c4, if_pos c5] at hP; exact ⟨_, rfl, hP⟩
  · rw [if_neg c1, if_neg c2, if_neg c3, if_neg c4, if_neg c5] at hP; exact ⟨_, rfl, hP⟩
theorem M_joined {P : Int32 → bz_H → Prop} {h : bz_H} {c x y : Int32} (hP : P (f_jn c x y) h) : bz_cI G l (d + 1) kX12_joined [.inl c, .inl x, .inl y] h 0 0 P := by
  refine m_X12_joined _ _ _ _ ?_
  unfold w_X12_joined_0
  unfold f_jn at hP
  refine ⟨fun c1 => ?_, fun c1 => ⟨fun c2 => ?_, fun c2 => ⟨fun c3 => ?_, fun c3 => ⟨fun c4 => ⟨fun c6 => ⟨fun c7 => ?_, fun c7 => ?_⟩, fun c6 => ?_⟩, fun c4 => ⟨fun c5 => ?_, fun c5 => ?_⟩⟩⟩⟩⟩
  · rw [if_pos c1] at hP; exact ⟨_, rfl, hP⟩
  · rw [if_neg c1, if_pos c2] at hP; exact ⟨_, rfl, hP⟩
  · rw [if_neg c1, if_neg c2, if_pos c3] at hP; exact ⟨_, rfl, hP⟩
  · rw [if_neg c1, if_neg c2, if_neg c3, if_pos c4, if_neg c6] at hP; exact ⟨c6, _, rfl, hP⟩
  · rw [if_neg c1, if_neg c2, if_neg c3, if_pos c4, if_neg c6, c7, dv_m1] at hP; exact ⟨_, rfl, hP⟩
  · rw [if_neg c1, if_neg c2, if_neg c3, if_pos c4, if_pos c6] at hP; exact ⟨_, rfl, hP⟩
  · rw [if_neg c1, if_neg c2, if_neg c3, if_neg c4, if_pos c5] at hP; exact ⟨_, rfl, hP⟩
  · rw [if_neg c1, if_neg c2, if_neg c3, if_neg c4, if_neg c5] at hP; exact ⟨_, rfl, hP⟩
theorem X_valueOf {P : Int32 → bz_H → Prop} {g : Nat} {v : Nat → Int32} (hg : g < 10007) (hv : ∀ j, j < 7 → S.1 179 j = v j) (hP : P (if g < 10000 then nI g else v (g - 10000)) (bz_hp E S)) : bz_cI G l (d + 2) kX0_valueOf [.inr (some 178), .inl (nI g)] (bz_hp E S) 0 0 P := by
  refine m_X0_valueOf _ _ _ ?_
  unfold w_X0_valueOf_0
  by_cases h : g < 10000
  · rw [if_pos h] at hP
    have hneg : nI g - 10000 < 0 := pk_sneg (b := 10000) (by omega) h
    refine X_isWithin ⟨fun _ => ⟨_, rfl, hP⟩, fun c => absurd hneg (bz_in_t c).1⟩
  · rw [if_neg h] at hP
    have e : nI g - 10000 = nI (g - 10000) := pk_sub (b := 10000) (by omega)
    rw [e]
    refine X_isWithin ⟨fun c => ?_, fun _ => ?_⟩
    · have := bz_in_1 (v := nI (g - 10000)) (lo := 0) (hi := 6) ⟨nI_pos (by omega), nI_nlt (a := 6) (b := g - 10000) (by omega) (by decide)⟩
      rw [this] at c
      exact absurd c (by decide)
    · refine ap_rR rfl (ap_nn (ap_iA rfl rfl (by omega) ⟨_, rfl, ?_⟩))
      rw [hv _ (by omega)]
      exact hP
theorem X_worthOf {P : Int32 → bz_H → Prop} {i n : Nat} {f : Nat → Int32} {g : Nat → Nat} {v : Nat → Int32} (ht : S.2.2[i]? = some (n, f)) (hf : ∀ k, k < n → f k = nI (g k)) (hw : wfm g n) (hv : ∀ j, j < 7 → S.1 179 j = v j) (hP : ∀ S', fr (fun c _ => c = 180) S S' → P (f_st v g n 0) (bz_hp E S')) : bz_cI G l (d + 3) kX0_worthOf [.inr (some 178), .inr (some (205 + 2 * i))] (bz_hp E S) 0 0 P := by
  refine m_X0_worthOf _ _ _ (fun κ bc bs hl => ?_)
  unfold w_X0_worthOf_0
  have hn80 := hw.2.1
  have main := bz_for (n := n) (Q := fun k => ∀ (S1 : bz_S) (u4 : Option bz_V), fr (fun c _ => c = 180) S S1 → (∀ j, j < f_dp g k → S1.1 180 j = f_st v g k j) → bz_J G κ kX0_worthOf (d + 2 + 1) (fun v h' => ∃ x, v = some (.inl x) ∧ P x h') bc bs 4 [some (.inr (some 178)), some (.inr (some (205 + 2 * i))), some (.inl (nI (f_dp g k))), some (.inl (nI k)), u4] [] (bz_hp E S1)) (fun k hk ih S1 u4 r1 v1 => ?_) ?_
  · exact main S none (fr_r _ S) (fun j hj => absurd hj (Nat.not_lt_zero j))
  · obtain ⟨w1, w2, w3⟩ := hw.2.2 k hk
    have hd := f_dp_le g k
    have ht1 : S1.2.2[i]? = some (n, f) := by rw [r1.1]; exact ht
    have hv1 : ∀ j, j < 7 → S1.1 179 j = v j := fun j hj => (r1.2 179 j (by first | omega | (dsimp only; omega))).trans (hv j hj)
    refine g_X0_worthOf_4 hl _ _ _ _ _ _ ?_
    unfold w_X0_worthOf_4
    refine ap_nn (ap_tR ht1 (ap_nn (ap_tN ht1 ⟨fun c => absurd ((nI_leI (by omega) (by omega)).mp c) (by omega), fun _ => ap_tR ht1 (ap_nn (ap_tA ht1 (by omega) ?_))⟩)))
    dsimp only
    rw [hf k hk]
    rw [f_dp, f_st, nI_succ k] at ih
    refine ⟨fun c => ?_, fun c => ?_⟩
    · have c' : 10007 ≤ g k := (nI_leI (a := 10007) (by omega) (by omega)).mp c
      simp only [if_neg (show ¬ g k < 10007 by omega)] at ih
      refine ⟨fun c1 => ?_, fun c1 => ?_⟩
      · have c2 : ¬ g k = 10263 := fun q => c1 (by rw [q]; rfl)
        have d2 := w3 c' c2
        simp only [if_neg c2] at ih
        refine ⟨fun q => absurd ((nI_ltI (b := 2) (by omega) (by omega)).mp q) (by omega), fun _ => ?_⟩
        have e1 : nI (f_dp g k) + (-1) = nI (f_dp g k - 1) := by
          have := pk_m1 (f_dp g k - 1)
          rw [show f_dp g k - 1 + 1 = f_dp g k by omega] at this
          exact this
        have e2 : nI (f_dp g k - 1) - 1 = nI (f_dp g k - 2) := pk_sub (a := f_dp g k - 1) (b := 1) (by omega)
        have e3 : nI (g k) - 10007 = nI (g k - 10007) := pk_sub (b := 10007) c'
        rw [e1, e2, e3]
        repeat (first | ((with_reducible apply ap_rc); rfl) | ((with_reducible apply ap_nn)) | ((with_reducible apply ap_rR); rfl) | ((with_reducible apply M_ofOrder); rfl; (exact bz_lit _); omega; (first | omega | decide)) | ((with_reducible apply M_ofRider); rfl; (exact bz_lit _); omega; (first | omega | decide)) | ((with_reducible apply ap_rI); exact kd_ord _ (by omega) _ (by decide)) | ((with_reducible apply ap_wI); exact kd_ord _ (by omega) _ (by decide)) | ((with_reducible apply ap_rI); exact kd_rid _ (by omega) _ (by decide)) | ((with_reducible apply ap_wI); exact kd_rid _ (by omega) _ (by decide)) | ((with_reducible apply ap_rc); exact (kd_clO _ (by omega)).1) | ((with_reducible apply ap_rc); exact (kd_clR _ (by omega)).1) | ((with_reducible apply ap_rc); exact (kd_clR _ (by omega)).2.2.1) | ((with_reducible apply ap_rR); exact (kd_ridA _ (by omega)).1) | ((with_reducible apply ap_rN); rfl) | ((with_reducible apply M_in)) | ((with_reducible apply X_isWithin)) | ((with_reducible apply ap_rI); rfl) | ((with_reducible apply ap_wI); rfl) | ((with_reducible apply ap_iA); rfl; (try simp only [bz_lit, pk_mul, nI_add]); rfl; omega) | ((with_reducible apply ap_iW); rfl; (try simp only [bz_lit, pk_mul, nI_add]); rfl; omega))
        refine X_joined ?_
        repeat (first | ((with_reducible apply ap_rc); rfl) | ((with_reducible apply ap_nn)) | ((with_reducible apply ap_rR); rfl) | ((with_reducible apply M_ofOrder); rfl; (exact bz_lit _); omega; (first | omega | decide)) | ((with_reducible apply M_ofRider); rfl; (exact bz_lit _); omega; (first | omega | decide)) | ((with_reducible apply ap_rI); exact kd_ord _ (by omega) _ (by decide)) | ((with_reducible apply ap_wI); exact kd_ord _ (by omega) _ (by decide)) | ((with_reducible apply ap_rI); exact kd_rid _ (by omega) _ (by decide)) | ((with_reducible apply ap_wI); exact kd_rid _ (by omega) _ (by decide)) | ((with_reducible apply ap_rc); exact (kd_clO _ (by omega)).1) | ((with_reducible apply ap_rc); exact (kd_clR _ (by omega)).1) | ((with_reducible apply ap_rc); exact (kd_clR _ (by omega)).2.2.1) | ((with_reducible apply ap_rR); exact (kd_ridA _ (by omega)).1) | ((with_reducible apply ap_rN); rfl) | ((with_reducible apply M_in)) | ((with_reducible apply X_isWithin)) | ((with_reducible apply ap_rI); rfl) | ((with_reducible apply ap_wI); rfl) | ((with_reducible apply ap_iA); rfl; (try simp only [bz_lit, pk_mul, nI_add]); rfl; omega) | ((with_reducible apply ap_iW); rfl; (try simp only [bz_lit, pk_mul, nI_add]); rfl; omega))
        refine ih _ _ (fr_t r1 (fr_u (S := S1) (by first | omega | (dsimp only; omega)))) (fun j hj => ?_)
        dsimp only
        rw [v1 _ (by omega), v1 _ (by omega)]
        by_cases hj2 : j = f_dp g k - 2
        · subst hj2; rw [bz_u_same, pk_us]
        · rw [bz_u_ne _ _ (Or.inr hj2), pk_un hj2]
          exact v1 j (by omega)
      · have c2 : g k = 10263 := (nI_eq (by omega) (by omega)).mp c1
        have d1 := w2 c2
        simp only [if_pos c2] at ih
        refine ⟨fun q => absurd ((nI_ltI (b := 1) (by omega) (by omega)).mp q) (by omega), fun _ => ?_⟩
        have e2 : nI (f_dp g k) - 1 = nI (f_dp g k - 1) := pk_sub (b := 1) (by omega)
        rw [e2]
        repeat (first | ((with_reducible apply ap_rc); rfl) | ((with_reducible apply ap_nn)) | ((with_reducible apply ap_rR); rfl) | ((with_reducible apply M_ofOrder); rfl; (exact bz_lit _); omega; (first | omega | decide)) | ((with_reducible apply M_ofRider); rfl; (exact bz_lit _); omega; (first | omega | decide)) | ((with_reducible apply ap_rI); exact kd_ord _ (by omega) _ (by decide)) | ((with_reducible apply ap_wI); exact kd_ord _ (by omega) _ (by decide)) | ((with_reducible apply ap_rI); exact kd_rid _ (by omega) _ (by decide)) | ((with_reducible apply ap_wI); exact kd_rid _ (by omega) _ (by decide)) | ((with_reducible apply ap_rc); exact (kd_clO _ (by omega)).1) | ((with_reducible apply ap_rc); exact (kd_clR _ (by omega)).1) | ((with_reducible apply ap_rc); exact (kd_clR _ (by omega)).2.2.1) | ((with_reducible apply ap_rR); exact (kd_ridA _ (by omega)).1) | ((with_reducible apply ap_rN); rfl) | ((with_reducible apply M_in)) | ((with_reducible apply X_isWithin)) | ((with_reducible apply ap_rI); rfl) | ((with_reducible apply ap_wI); rfl) | ((with_reducible apply ap_iA); rfl; (try simp only [bz_lit, pk_mul, nI_add]); rfl; omega) | ((with_reducible apply ap_iW); rfl; (try simp only [bz_lit, pk_mul, nI_add]); rfl; omega))
        refine ih _ _ (fr_t r1 (fr_u (S := S1) (by first | omega | (dsimp only; omega)))) (fun j hj => ?_)
        dsimp only
        rw [v1 _ (by omega)]
        by_cases hj2 : j = f_dp g k - 1
        · subst hj2; rw [bz_u_same, pk_us]
        · rw [bz_u_ne _ _ (Or.inr hj2), pk_un hj2]
          exact v1 j hj
    · have c' : g k < 10007 := by
        rcases Nat.lt_or_ge (g k) 10007 with q | q
        · exact q
        · exact absurd (nI_le (a := 10007) q (by omega)) c
      rw [if_pos c', if_pos c'] at ih
      repeat (first | ((with_reducible apply ap_rc); rfl) | ((with_reducible apply ap_nn)) | ((with_reducible apply ap_rR); rfl) | ((with_reducible apply M_ofOrder); rfl; (exact bz_lit _); omega; (first | omega | decide)) | ((with_reducible apply M_ofRider); rfl; (exact bz_lit _); omega; (first | omega | decide)) | ((with_reducible apply ap_rI); exact kd_ord _ (by omega) _ (by decide)) | ((with_reducible apply ap_wI); exact kd_ord _ (by omega) _ (by decide)) | ((with_reducible apply ap_rI); exact kd_rid _ (by omega) _ (by decide)) | ((with_reducible apply ap_wI); exact kd_rid _ (by omega) _ (by decide)) | ((with_reducible apply ap_rc); exact (kd_clO _ (by omega)).1) | ((with_reducible apply ap_rc); exact (kd_clR _ (by omega)).1) | ((with_reducible apply ap_rc); exact (kd_clR _ (by omega)).2.2.1) | ((with_reducible apply ap_rR); exact (kd_ridA _ (by omega)).1) | ((with_reducible apply ap_rN); rfl) | ((with_reducible apply M_in)) | ((with_reducible apply X_isWithin)) | ((with_reducible apply ap_rI); rfl) | ((with_reducible apply ap_wI); rfl) | ((with_reducible apply ap_iA); rfl; (try simp only [bz_lit, pk_mul, nI_add]); rfl; omega) | ((with_reducible apply ap_iW); rfl; (try simp only [bz_lit, pk_mul, nI_add]); rfl; omega))
      refine ⟨fun q => absurd ((nI_leI (a := 80) (by omega) (by omega)).mp q) (by omega), fun _ => ?_⟩
      repeat (first | ((with_reducible apply ap_rc); rfl) | ((with_reducible apply ap_nn)) | ((with_reducible apply ap_rR); rfl) | ((with_reducible apply M_ofOrder); rfl; (exact bz_lit _); omega; (first | omega | decide)) | ((with_reducible apply M_ofRider); rfl; (exact bz_lit _); omega; (first | omega | decide)) | ((with_reducible apply ap_rI); exact kd_ord _ (by omega) _ (by decide)) | ((with_reducible apply ap_wI); exact kd_ord _ (by omega) _ (by decide)) | ((with_reducible apply ap_rI); exact kd_rid _ (by omega) _ (by decide)) | ((with_reducible apply ap_wI); exact kd_rid _ (by omega) _ (by decide)) | ((with_reducible apply ap_rc); exact (kd_clO _ (by omega)).1) | ((with_reducible apply ap_rc); exact (kd_clR _ (by omega)).1) | ((with_reducible apply ap_rc); exact (kd_clR _ (by omega)).2.2.1) | ((with_reducible apply ap_rR); exact (kd_ridA _ (by omega)).1) | ((with_reducible apply ap_rN); rfl) | ((with_reducible apply M_in)) | ((with_reducible apply X_isWithin)) | ((with_reducible apply ap_rI); rfl) | ((with_reducible apply ap_wI); rfl) | ((with_reducible apply ap_iA); rfl; (try simp only [bz_lit, pk_mul, nI_add]); rfl; omega) | ((with_reducible apply ap_iW); rfl; (try simp only [bz_lit, pk_mul, nI_add]); rfl; omega))
      refine X_valueOf c' hv1 ?_
      repeat (first | ((with_reducible apply ap_rc); rfl) | ((with_reducible apply ap_nn)) | ((with_reducible apply ap_rR); rfl) | ((with_reducible apply M_ofOrder); rfl; (exact bz_lit _); omega; (first | omega | decide)) | ((with_reducible apply M_ofRider); rfl; (exact bz_lit _); omega; (first | omega | decide)) | ((with_reducible apply ap_rI); exact kd_ord _ (by omega) _ (by decide)) | ((with_reducible apply ap_wI); exact kd_ord _ (by omega) _ (by decide)) | ((with_reducible apply ap_rI); exact kd_rid _ (by omega) _ (by decide)) | ((with_reducible apply ap_wI); exact kd_rid _ (by omega) _ (by decide)) | ((with_reducible apply ap_rc); exact (kd_clO _ (by omega)).1) | ((with_reducible apply ap_rc); exact (kd_clR _ (by omega)).1) | ((with_reducible apply ap_rc); exact (kd_clR _ (by omega)).2.2.1) | ((with_reducible apply ap_rR); exact (kd_ridA _ (by omega)).1) | ((with_reducible apply ap_rN); rfl) | ((with_reducible apply M_in)) | ((with_reducible apply X_isWithin)) | ((with_reducible apply ap_rI); rfl) | ((with_reducible apply ap_wI); rfl) | ((with_reducible apply ap_iA); rfl; (try simp only [bz_lit, pk_mul, nI_add]); rfl; omega) | ((with_reducible apply ap_iW); rfl; (try simp only [bz_lit, pk_mul, nI_add]); rfl; omega))
      rw [← nI_succ]
      refine ih _ _ (fr_t r1 (fr_u (S := S1) (by first | omega | (dsimp only; omega)))) (fun j hj => ?_)
      dsimp only
      by_cases hj2 : j = f_dp g k
      · subst hj2; rw [bz_u_same, pk_us]
      · rw [bz_u_ne _ _ (Or.inr hj2), pk_un hj2]
        exact v1 j (by omega)
  · intro S1 u4 r1 v1
    have ht1 : S1.2.2[i]? = some (n, f) := by rw [r1.1]; exact ht
    have hd1 : 1 ≤ f_dp g n := by
      have := f_dp_1 hw (n - 1) (by have := hw.1; omega)
      rw [show n - 1 + 1 = n by have := hw.1; omega] at this
      exact this
    refine g_X0_worthOf_4 hl _ _ _ _ _ _ ?_
    unfold w_X0_worthOf_4
    refine ap_nn (ap_tR ht1 (ap_nn (ap_tN ht1 ⟨fun _ => ?_, fun c => absurd (nI_le (by omega) (by omega)) c⟩)))
    repeat (first | ((with_reducible apply ap_rc); rfl) | ((with_reducible apply ap_nn)) | ((with_reducible apply ap_rR); rfl) | ((with_reducible apply M_ofOrder); rfl; (exact bz_lit _); omega; (first | omega | decide)) | ((with_reducible apply M_ofRider); rfl; (exact bz_lit _); omega; (first | omega | decide)) | ((with_reducible apply ap_rI); exact kd_ord _ (by omega) _ (by decide)) | ((with_reducible apply ap_wI); exact kd_ord _ (by omega) _ (by decide)) | ((with_reducible apply ap_rI); exact kd_rid _ (by omega) _ (by decide)) | ((with_reducible apply ap_wI); exact kd_rid _ (by omega) _ (by decide)) | ((with_reducible apply ap_rc); exact (kd_clO _ (by omega)).1) | ((with_reducible apply ap_rc); exact (kd_clR _ (by omega)).1) | ((with_reducible apply ap_rc); exact (kd_clR _ (by omega)).2.2.1) | ((with_reducible apply ap_rR); exact (kd_ridA _ (by omega)).1) | ((with_reducible apply ap_rN); rfl) | ((with_reducible apply M_in)) | ((with_reducible apply X_isWithin)) | ((with_reducible apply ap_rI); rfl) | ((with_reducible apply ap_wI); rfl) | ((with_reducible apply ap_iA); rfl; (try simp only [bz_lit, pk_mul, nI_add]); rfl; omega) | ((with_reducible apply ap_iW); rfl; (try simp only [bz_lit, pk_mul, nI_add]); rfl; omega))
    rw [v1 0 (by omega)]
    exact ⟨_, rfl, hP S1 r1⟩
theorem f_let_b : ∀ j, j < 7 → f_let j < 128 := by decide
theorem M_works {P : Int32 → bz_H → Prop} {y : Int32} {t n : Nat} {g : Nat → Nat} {v : Nat → Int32} (hy : y = nI t) (htt : t < 8) (hs : S.1 187 = s) (htg : tg s t n g) (hw : wfm g n) (hv : ∀ j, j < 7 → S.1 195 (f_let j) = v j) (hP : ∀ S', fr (fun c _ => c = 196) S S' → P (f_st v g n 0) (bz_hp E S')) : bz_cI G l (d + 2) kX12_works [.inr (some 186), .inl y] (bz_hp E S) 0 0 P := by
  refine m_X12_works _ _ _ (fun κ bc bs hl => ?_)
  unfold w_X12_works_0
  subst hy
  have hn80 := hw.2.1
  rw [show (976 : Int32) + 165 * nI t = nI (976 + 165 * t) by simp only [bz_lit, pk_mul, nI_add]]
  have main := bz_for (n := n) (Q := fun k => ∀ (S1 : bz_S) (u5 u6 : Option bz_V), fr (fun c _ => c = 196) S S1 → (∀ j, j < f_dp g k → S1.1 196 j = f_st v g k j) → bz_J G κ kX12_works (d + 1 + 1) (fun v h' => ∃ x, v = some (.inl x) ∧ P x h') bc bs 15 [some (.inr (some 186)), some (.inl (nI t)), some (.inl (nI (976 + 165 * t))), some (.inl (nI (f_dp g k))), some (.inl (nI k)), u5, u6] [] (bz_hp E S1)) (fun k hk ih S1 u5 u6 r1 v1 => ?_) ?_
  · exact main S none none (fr_r _ S) (fun j hj => absurd hj (Nat.not_lt_zero j))
  · obtain ⟨w1, w2, w3⟩ := hw.2.2 k hk
    obtain ⟨t1, t2⟩ := htg.2 k hk
    have hd := f_dp_le g k
    have e1 : S1.1 187 = s := (fr_c r1 (fun k => by omega)).trans hs
    have hv1 : ∀ j, j < 7 → S1.1 195 (f_let j) = v j := fun j hj => (r1.2 195 _ (by first | omega | (dsimp only; omega))).trans (hv j hj)
    refine g_X12_works_15 hl _ _ _ _ _ _ _ _ ?_
    unfold w_X12_works_15
    repeat (first | ((with_reducible apply ap_rc); rfl) | ((with_reducible apply ap_nn)) | ((with_reducible apply ap_rR); rfl) | ((with_reducible apply M_ofOrder); rfl; (exact bz_lit _); omega; (first | omega | decide)) | ((with_reducible apply M_ofRider); rfl; (exact bz_lit _); omega; (first | omega | decide)) | ((with_reducible apply ap_rI); exact kd_ord _ (by omega) _ (by decide)) | ((with_reducible apply ap_wI); exact kd_ord _ (by omega) _ (by decide)) | ((with_reducible apply ap_rI); exact kd_rid _ (by omega) _ (by decide)) | ((with_reducible apply ap_wI); exact kd_rid _ (by omega) _ (by decide)) | ((with_reducible apply ap_rc); exact (kd_clO _ (by omega)).1) | ((with_reducible apply ap_rc); exact (kd_clR _ (by omega)).1) | ((with_reducible apply ap_rc); exact (kd_clR _ (by omega)).2.2.1) | ((with_reducible apply ap_rR); exact (kd_ridA _ (by omega)).1) | ((with_reducible apply ap_rN); rfl) | ((with_reducible apply M_in)) | ((with_reducible apply X_isWithin)) | ((with_reducible apply ap_rI); rfl) | ((with_reducible apply ap_wI); rfl) | ((with_reducible apply ap_iA); rfl; (try simp only [bz_lit, pk_mul, nI_add]); rfl; omega) | ((with_reducible apply ap_iW); rfl; (try simp only [bz_lit, pk_mul, nI_add]); rfl; omega))
    rw [e1, htg.1]
    refine ⟨fun c => absurd ((nI_leI (by omega) (by omega)).mp c) (by omega), fun _ => ?_⟩
    repeat (first | ((with_reducible apply ap_rc); rfl) | ((with_reducible apply ap_nn)) | ((with_reducible apply ap_rR); rfl) | ((with_reducible apply M_ofOrder); rfl; (exact bz_lit _); omega; (first | omega | decide)) | ((with_reducible apply M_ofRider); rfl; (exact bz_lit _); omega; (first | omega | decide)) | ((with_reducible apply ap_rI); exact kd_ord _ (by omega) _ (by decide)) | ((with_reducible apply ap_wI); exact kd_ord _ (by omega) _ (by decide)) | ((with_reducible apply ap_rI); exact kd_rid _ (by omega) _ (by decide)) | ((with_reducible apply ap_wI); exact kd_rid _ (by omega) _ (by decide)) | ((with_reducible apply ap_rc); exact (kd_clO _ (by omega)).1) | ((with_reducible apply ap_rc); exact (kd_clR _ (by omega)).1) | ((with_reducible apply ap_rc); exact (kd_clR _ (by omega)).2.2.1) | ((with_reducible apply ap_rR); exact (kd_ridA _ (by omega)).1) | ((with_reducible apply ap_rN); rfl) | ((with_reducible apply M_in)) | ((with_reducible apply X_isWithin)) | ((with_reducible apply ap_rI); rfl) | ((with_reducible apply ap_wI); rfl) | ((with_reducible apply ap_iA); rfl; (try simp only [bz_lit, pk_mul, nI_add]); rfl; omega) | ((with_reducible apply ap_iW); rfl; (try simp only [bz_lit, pk_mul, nI_add]); rfl; omega))
    rw [e1, t1, t2]
    rw [f_dp, f_st, nI_succ k] at ih
    unfold mw mv
    by_cases c1 : g k < 10000
    · rw [if_pos c1, if_pos c1]
      rw [if_pos (by omega), if_pos (by omega), if_pos c1] at ih
      refine ⟨fun _ => ?_, fun c => absurd rfl c⟩
      repeat (first | ((with_reducible apply ap_rc); rfl) | ((with_reducible apply ap_nn)) | ((with_reducible apply ap_rR); rfl) | ((with_reducible apply M_ofOrder); rfl; (exact bz_lit _); omega; (first | omega | decide)) | ((with_reducible apply M_ofRider); rfl; (exact bz_lit _); omega; (first | omega | decide)) | ((with_reducible apply ap_rI); exact kd_ord _ (by omega) _ (by decide)) | ((with_reducible apply ap_wI); exact kd_ord _ (by omega) _ (by decide)) | ((with_reducible apply ap_rI); exact kd_rid _ (by omega) _ (by decide)) | ((with_reducible apply ap_wI); exact kd_rid _ (by omega) _ (by decide)) | ((with_reducible apply ap_rc); exact (kd_clO _ (by omega)).1) | ((with_reducible apply ap_rc); exact (kd_clR _ (by omega)).1) | ((with_reducible apply ap_rc); exact (kd_clR _ (by omega)).2.2.1) | ((with_reducible apply ap_rR); exact (kd_ridA _ (by omega)).1) | ((with_reducible apply ap_rN); rfl) | ((with_reducible apply M_in)) | ((with_reducible apply X_isWithin)) | ((with_reducible apply ap_rI); rfl) | ((with_reducible apply ap_wI); rfl) | ((with_reducible apply ap_iA); rfl; (try simp only [bz_lit, pk_mul, nI_add]); rfl; omega) | ((with_reducible apply ap_iW); rfl; (try simp only [bz_lit, pk_mul, nI_add]); rfl; omega))
      refine ⟨fun c => absurd rfl c, fun _ => ?_⟩
      repeat (first | ((with_reducible apply ap_rc); rfl) | ((with_reducible apply ap_nn)) | ((with_reducible apply ap_rR); rfl) | ((with_reducible apply M_ofOrder); rfl; (exact bz_lit _); omega; (first | omega | decide)) | ((with_reducible apply M_ofRider); rfl; (exact bz_lit _); omega; (first | omega | decide)) | ((with_reducible apply ap_rI); exact kd_ord _ (by omega) _ (by decide)) | ((with_reducible apply ap_wI); exact kd_ord _ (by omega) _ (by decide)) | ((with_reducible apply ap_rI); exact kd_rid _ (by omega) _ (by decide)) | ((with_reducible apply ap_wI); exact kd_rid _ (by omega) _ (by decide)) | ((with_reducible apply ap_rc); exact (kd_clO _ (by omega)).1) | ((with_reducible apply ap_rc); exact (kd_clR _ (by omega)).1) | ((with_reducible apply ap_rc); exact (kd_clR _ (by omega)).2.2.1) | ((with_reducible apply ap_rR); exact (kd_ridA _ (by omega)).1) | ((with_reducible apply ap_rN); rfl) | ((with_reducible apply M_in)) | ((with_reducible apply X_isWithin)) | ((with_reducible apply ap_rI); rfl) | ((with_reducible apply ap_wI); rfl) | ((with_reducible apply ap_iA); rfl; (try simp only [bz_lit, pk_mul, nI_add]); rfl; omega) | ((with_reducible apply ap_iW); rfl; (try simp only [bz_lit, pk_mul, nI_add]); rfl; omega))
      rw [← nI_succ]
      refine ih _ _ _ (fr_t r1 (fr_u (S := S1) (by first | omega | (dsimp only; omega)))) (fun j hj => ?_)
      dsimp only
      by_cases hj2 : j = f_dp g k
      · subst hj2; rw [bz_u_same, pk_us]
      · rw [bz_u_ne _ _ (Or.inr hj2), pk_un hj2]
        exact v1 j (by omega)
    · rw [if_neg c1, if_neg c1]
      by_cases c2 : g k < 10007
      · rw [if_pos c2, if_pos c2]
        rw [if_pos c2, if_pos c2, if_neg c1] at ih
        refine ⟨fun c => absurd c (by decide), fun _ => ⟨fun c => absurd rfl c, fun _ => ?_⟩⟩
        have hlb := f_let_b (g k - 10000) (by omega)
        repeat (first | ((with_reducible apply ap_rc); rfl) | ((with_reducible apply ap_nn)) | ((with_reducible apply ap_rR); rfl) | ((with_reducible apply M_ofOrder); rfl; (exact bz_lit _); omega; (first | omega | decide)) | ((with_reducible apply M_ofRider); rfl; (exact bz_lit _); omega; (first | omega | decide)) | ((with_reducible apply ap_rI); exact kd_ord _ (by omega) _ (by decide)) | ((with_reducible apply ap_wI); exact kd_ord _ (by omega) _ (by decide)) | ((with_reducible apply ap_rI); exact kd_rid _ (by omega) _ (by decide)) | ((with_reducible apply ap_wI); exact kd_rid _ (by omega) _ (by decide)) | ((with_reducible apply ap_rc); exact (kd_clO _ (by omega)).1) | ((with_reducible apply ap_rc); exact (kd_clR _ (by omega)).1) | ((with_reducible apply ap_rc); exact (kd_clR _ (by omega)).2.2.1) | ((with_reducible apply ap_rR); exact (kd_ridA _ (by omega)).1) | ((with_reducible apply ap_rN); rfl) | ((with_reducible apply M_in)) | ((with_reducible apply X_isWithin)) | ((with_reducible apply ap_rI); rfl) | ((with_reducible apply ap_wI); rfl) | ((with_reducible apply ap_iA); rfl; (try simp only [bz_lit, pk_mul, nI_add]); rfl; omega) | ((with_reducible apply ap_iW); rfl; (try simp only [bz_lit, pk_mul, nI_add]); rfl; omega))
        refine ⟨fun _ => ?_, fun c => absurd c (by decide)⟩
        repeat (first | ((with_reducible apply ap_rc); rfl) | ((with_reducible apply ap_nn)) | ((with_reducible apply ap_rR); rfl) | ((with_reducible apply M_ofOrder); rfl; (exact bz_lit _); omega; (first | omega | decide)) | ((with_reducible apply M_ofRider); rfl; (exact bz_lit _); omega; (first | omega | decide)) | ((with_reducible apply ap_rI); exact kd_ord _ (by omega) _ (by decide)) | ((with_reducible apply ap_wI); exact kd_ord _ (by omega) _ (by decide)) | ((with_reducible apply ap_rI); exact kd_rid _ (by omega) _ (by decide)) | ((with_reducible apply ap_wI); exact kd_rid _ (by omega) _ (by decide)) | ((with_reducible apply ap_rc); exact (kd_clO _ (by omega)).1) | ((with_reducible apply ap_rc); exact (kd_clR _ (by omega)).1) | ((with_reducible apply ap_rc); exact (kd_clR _ (by omega)).2.2.1) | ((with_reducible apply ap_rR); exact (kd_ridA _ (by omega)).1) | ((with_reducible apply ap_rN); rfl) | ((with_reducible apply M_in)) | ((with_reducible apply X_isWithin)) | ((with_reducible apply ap_rI); rfl) | ((with_reducible apply ap_wI); rfl) | ((with_reducible apply ap_iA); rfl; (try simp only [bz_lit, pk_mul, nI_add]); rfl; omega) | ((with_reducible apply ap_iW); rfl; (try simp only [bz_lit, pk_mul, nI_add]); rfl; omega))
        rw [hv1 _ (by omega), ← nI_succ]
        refine ih _ _ _ (fr_t r1 (fr_u (S := S1) (by first | omega | (dsimp only; omega)))) (fun j hj => ?_)
        dsimp only
        by_cases hj2 : j = f_dp g k
        · subst hj2; rw [bz_u_same, pk_us]
        · rw [bz_u_ne _ _ (Or.inr hj2), pk_un hj2]
          exact v1 j (by omega)
      · rw [if_neg c2, if_neg c2]
        rw [if_neg c2, if_neg c2] at ih
        by_cases c3 : g k = 10263
        · have d1 := w2 c3
          rw [if_pos c3, if_pos c3]
          rw [if_pos c3, if_pos c3] at ih
          refine ⟨fun c => absurd c (by decide), fun _ => ⟨fun _ => ⟨fun c => absurd rfl c, fun _ => ?_⟩, fun c => absurd c (by decide)⟩⟩
          have e2 : nI (f_dp g k) - 1 = nI (f_dp g k - 1) := pk_sub (b := 1) (by omega)
          rw [e2]
          repeat (first | ((with_reducible apply ap_rc); rfl) | ((with_reducible apply ap_nn)) | ((with_reducible apply ap_rR); rfl) | ((with_reducible apply M_ofOrder); rfl; (exact bz_lit _); omega; (first | omega | decide)) | ((with_reducible apply M_ofRider); rfl; (exact bz_lit _); omega; (first | omega | decide)) | ((with_reducible apply ap_rI); exact kd_ord _ (by omega) _ (by decide)) | ((with_reducible apply ap_wI); exact kd_ord _ (by omega) _ (by decide)) | ((with_reducible apply ap_rI); exact kd_rid _ (by omega) _ (by decide)) | ((with_reducible apply ap_wI); exact kd_rid _ (by omega) _ (by decide)) | ((with_reducible apply ap_rc); exact (kd_clO _ (by omega)).1) | ((with_reducible apply ap_rc); exact (kd_clR _ (by omega)).1) | ((with_reducible apply ap_rc); exact (kd_clR _ (by omega)).2.2.1) | ((with_reducible apply ap_rR); exact (kd_ridA _ (by omega)).1) | ((with_reducible apply ap_rN); rfl) | ((with_reducible apply M_in)) | ((with_reducible apply X_isWithin)) | ((with_reducible apply ap_rI); rfl) | ((with_reducible apply ap_wI); rfl) | ((with_reducible apply ap_iA); rfl; (try simp only [bz_lit, pk_mul, nI_add]); rfl; omega) | ((with_reducible apply ap_iW); rfl; (try simp only [bz_lit, pk_mul, nI_add]); rfl; omega))
          refine ih _ _ _ (fr_t r1 (fr_u (S := S1) (by first | omega | (dsimp only; omega)))) (fun j hj => ?_)
          dsimp only
          rw [v1 _ (by omega)]
          by_cases hj2 : j = f_dp g k - 1
          · subst hj2; rw [bz_u_same, pk_us]
          · rw [bz_u_ne _ _ (Or.inr hj2), pk_un hj2]
            exact v1 j hj
        · have d2 := w3 (by omega) c3
          rw [if_neg c3, if_neg c3]
          rw [if_neg c3, if_neg c3] at ih
          refine ⟨fun c => absurd c (by decide), fun _ => ⟨fun _ => ⟨fun _ => ?_, fun c => absurd c (by decide)⟩, fun c => absurd c (by decide)⟩⟩
          have e1 : nI (f_dp g k) + (-1) = nI (f_dp g k - 1) := by
            have := pk_m1 (f_dp g k - 1)
            rw [show f_dp g k - 1 + 1 = f_dp g k by omega] at this
            exact this
          have e2 : nI (f_dp g k - 1) - 1 = nI (f_dp g k - 2) := pk_sub (a := f_dp g k - 1) (b := 1) (by omega)
          rw [e1, e2]
          repeat (first | ((with_reducible apply ap_rc); rfl) | ((with_reducible apply ap_nn)) | ((with_reducible apply ap_rR); rfl) | ((with_reducible apply M_ofOrder); rfl; (exact bz_lit _); omega; (first | omega | decide)) | ((with_reducible apply M_ofRider); rfl; (exact bz_lit _); omega; (first | omega | decide)) | ((with_reducible apply ap_rI); exact kd_ord _ (by omega) _ (by decide)) | ((with_reducible apply ap_wI); exact kd_ord _ (by omega) _ (by decide)) | ((with_reducible apply ap_rI); exact kd_rid _ (by omega) _ (by decide)) | ((with_reducible apply ap_wI); exact kd_rid _ (by omega) _ (by decide)) | ((with_reducible apply ap_rc); exact (kd_clO _ (by omega)).1) | ((with_reducible apply ap_rc); exact (kd_clR _ (by omega)).1) | ((with_reducible apply ap_rc); exact (kd_clR _ (by omega)).2.2.1) | ((with_reducible apply ap_rR); exact (kd_ridA _ (by omega)).1) | ((with_reducible apply ap_rN); rfl) | ((with_reducible apply M_in)) | ((with_reducible apply X_isWithin)) | ((with_reducible apply ap_rI); rfl) | ((with_reducible apply ap_wI); rfl) | ((with_reducible apply ap_iA); rfl; (try simp only [bz_lit, pk_mul, nI_add]); rfl; omega) | ((with_reducible apply ap_iW); rfl; (try simp only [bz_lit, pk_mul, nI_add]); rfl; omega))
          refine M_joined ?_
          repeat (first | ((with_reducible apply ap_rc); rfl) | ((with_reducible apply ap_nn)) | ((with_reducible apply ap_rR); rfl) | ((with_reducible apply M_ofOrder); rfl; (exact bz_lit _); omega; (first | omega | decide)) | ((with_reducible apply M_ofRider); rfl; (exact bz_lit _); omega; (first | omega | decide)) | ((with_reducible apply ap_rI); exact kd_ord _ (by omega) _ (by decide)) | ((with_reducible apply ap_wI); exact kd_ord _ (by omega) _ (by decide)) | ((with_reducible apply ap_rI); exact kd_rid _ (by omega) _ (by decide)) | ((with_reducible apply ap_wI); exact kd_rid _ (by omega) _ (by decide)) | ((with_reducible apply ap_rc); exact (kd_clO _ (by omega)).1) | ((with_reducible apply ap_rc); exact (kd_clR _ (by omega)).1) | ((with_reducible apply ap_rc); exact (kd_clR _ (by omega)).2.2.1) | ((with_reducible apply ap_rR); exact (kd_ridA _ (by omega)).1) | ((with_reducible apply ap_rN); rfl) | ((with_reducible apply M_in)) | ((with_reducible apply X_isWithin)) | ((with_reducible apply ap_rI); rfl) | ((with_reducible apply ap_wI); rfl) | ((with_reducible apply ap_iA); rfl; (try simp only [bz_lit, pk_mul, nI_add]); rfl; omega) | ((with_reducible apply ap_iW); rfl; (try simp only [bz_lit, pk_mul, nI_add]); rfl; omega))
          refine ih _ _ _ (fr_t r1 (fr_u (S := S1) (by first | omega | (dsimp only; omega)))) (fun j hj => ?_)
          dsimp only
          rw [v1 _ (by omega), v1 _ (by omega)]
          by_cases hj2 : j = f_dp g k - 2
          · subst hj2; rw [bz_u_same, pk_us]
          · rw [bz_u_ne _ _ (Or.inr hj2), pk_un hj2]
            exact v1 j (by omega)
  · intro S1 u5 u6 r1 v1
    have e1 : S1.1 187 = s := (fr_c r1 (fun k => by omega)).trans hs
    have hd1 : 1 ≤ f_dp g n := by
      have := f_dp_1 hw (n - 1) (by have := hw.1; omega)
      rw [show n - 1 + 1 = n by have := hw.1; omega] at this
      exact this
    refine g_X12_works_15 hl _ _ _ _ _ _ _ _ ?_
    unfold w_X12_works_15
    repeat (first | ((with_reducible apply ap_rc); rfl) | ((with_reducible apply ap_nn)) | ((with_reducible apply ap_rR); rfl) | ((with_reducible apply M_ofOrder); rfl; (exact bz_lit _); omega; (first | omega | decide)) | ((with_reducible apply M_ofRider); rfl; (exact bz_lit _); omega; (first | omega | decide)) | ((with_reducible apply ap_rI); exact kd_ord _ (by omega) _ (by decide)) | ((with_reducible apply ap_wI); exact kd_ord _ (by omega) _ (by decide)) | ((with_reducible apply ap_rI); exact kd_rid _ (by omega) _ (by decide)) | ((with_reducible apply ap_wI); exact kd_rid _ (by omega) _ (by decide)) | ((with_reducible apply ap_rc); exact (kd_clO _ (by omega)).1) | ((with_reducible apply ap_rc); exact (kd_clR _ (by omega)).1) | ((with_reducible apply ap_rc); exact (kd_clR _ (by omega)).2.2.1) | ((with_reducible apply ap_rR); exact (kd_ridA _ (by omega)).1) | ((with_reducible apply ap_rN); rfl) | ((with_reducible apply M_in)) | ((with_reducible apply X_isWithin)) | ((with_reducible apply ap_rI); rfl) | ((with_reducible apply ap_wI); rfl) | ((with_reducible apply ap_iA); rfl; (try simp only [bz_lit, pk_mul, nI_add]); rfl; omega) | ((with_reducible apply ap_iW); rfl; (try simp only [bz_lit, pk_mul, nI_add]); rfl; omega))
    rw [e1, htg.1]
    refine ⟨fun _ => ?_, fun c => absurd (nI_le (by omega) (by omega)) c⟩
    repeat (first | ((with_reducible apply ap_rc); rfl) | ((with_reducible apply ap_nn)) | ((with_reducible apply ap_rR); rfl) | ((with_reducible apply M_ofOrder); rfl; (exact bz_lit _); omega; (first | omega | decide)) | ((with_reducible apply M_ofRider); rfl; (exact bz_lit _); omega; (first | omega | decide)) | ((with_reducible apply ap_rI); exact kd_ord _ (by omega) _ (by decide)) | ((with_reducible apply ap_wI); exact kd_ord _ (by omega) _ (by decide)) | ((with_reducible apply ap_rI); exact kd_rid _ (by omega) _ (by decide)) | ((with_reducible apply ap_wI); exact kd_rid _ (by omega) _ (by decide)) | ((with_reducible apply ap_rc); exact (kd_clO _ (by omega)).1) | ((with_reducible apply ap_rc); exact (kd_clR _ (by omega)).1) | ((with_reducible apply ap_rc); exact (kd_clR _ (by omega)).2.2.1) | ((with_reducible apply ap_rR); exact (kd_ridA _ (by omega)).1) | ((with_reducible apply ap_rN); rfl) | ((with_reducible apply M_in)) | ((with_reducible apply X_isWithin)) | ((with_reducible apply ap_rI); rfl) | ((with_reducible apply ap_wI); rfl) | ((with_reducible apply ap_iA); rfl; (try simp only [bz_lit, pk_mul, nI_add]); rfl; omega) | ((with_reducible apply ap_iW); rfl; (try simp only [bz_lit, pk_mul, nI_add]); rfl; omega))
    rw [v1 0 (by omega)]
    exact ⟨_, rfl, hP S1 r1⟩
end TXT
