/-! whom an order is offered to -/
def f_bf (ok : Nat → Option Int32) : Nat → Option (Nat × Int32)
  | 0 => none
  | k + 1 => match ok k with
    | none => f_bf ok k
    | some v => match f_bf ok k with
      | none => some (k, v)
      | some q => if v ≤ q.2 then some q else some (k, v)
def f_bi (q : Option (Nat × Int32)) : Int32 := match q with
  | none => -1
  | some q => nI q.1
def f_bm (q : Option (Nat × Int32)) : Int32 := match q with
  | none => 0
  | some q => q.2
theorem f_bf_lt {ok : Nat → Option Int32} : ∀ {k : Nat} {q : Nat × Int32}, f_bf ok k = some q → q.1 < k ∧ ∃ v, ok q.1 = some v
  | 0, q, h => by cases h
  | k + 1, q, h => by
    rw [f_bf] at h
    cases h1 : ok k with
    | none =>
      rw [h1] at h
      obtain ⟨a, b⟩ := f_bf_lt h
      exact ⟨by omega, b⟩
    | some v =>
      rw [h1] at h
      dsimp only at h
      cases h2 : f_bf ok k with
      | none =>
        rw [h2] at h
        cases h
        exact ⟨by show k < k + 1; omega, v, h1⟩
      | some q' =>
        rw [h2] at h
        dsimp only at h
        split at h
        · cases h
          obtain ⟨a, b⟩ := f_bf_lt h2
          exact ⟨by omega, b⟩
        · cases h
          exact ⟨by show k < k + 1; omega, v, h1⟩
theorem f_bf_n {ok : Nat → Option Int32} {k : Nat} (h : ok k = none) : f_bf ok (k + 1) = f_bf ok k := by rw [f_bf, h]
theorem f_bf_0 {ok : Nat → Option Int32} {k : Nat} {v : Int32} (h : ok k = some v) (h2 : f_bf ok k = none) : f_bf ok (k + 1) = some (k, v) := by rw [f_bf, h]; dsimp only; rw [h2]
theorem f_bf_s {ok : Nat → Option Int32} {k : Nat} {v : Int32} {q : Nat × Int32} (h : ok k = some v) (h2 : f_bf ok k = some q) : f_bf ok (k + 1) = if v ≤ q.2 then some q else some (k, v) := by rw [f_bf, h]; dsimp only; rw [h2]
def f_ofk (s : Nat → Int32) (o n : Nat) (g : Nat → Nat) (k : Nat) : Option Int32 := if s 0 < s (600 + 8 * k + 2) then none else if (s (696 + k) >>> (nI o &&& 31)) &&& 1 = 0 then (f_tn s k o).map (fun q => f_st (f_en2 s k o (s 0 - s (312 + 12 * o + 2)) (f_lateBy s o (nI q.2))) g n 0) else none
def f_of (s : Nat → Int32) (o n : Nat) (g : Nat → Nat) : Option (Nat × Int32) := f_bf (f_ofk s o n g) (s 3).toNatClampNeg
section OFF
variable {G : bz_G} {l : Launch} {d : Nat} {E : Nat × (Nat → Int32)} {S : bz_S} {s : Nat → Int32}
theorem X_isRefusedBy {P : Int32 → bz_H → Prop} {o r : Nat} (ho : o < 24) (hr : r < 12) (hp : o < (s 2).toNatClampNeg) (ht : tw S s) (hP : P (if (s (696 + r) >>> (nI o &&& 31)) &&& 1 = 0 then 0 else 1) (bz_hp E S)) : bz_cI G l (d + 1) kX2_isRefusedBy [.inr (some (24 + o)), .inl (nI r)] (bz_hp E S) 0 0 P := by
  refine m_X2_isRefusedBy _ _ _ ?_
  unfold w_X2_isRefusedBy_0
  repeat (first | ((with_reducible apply ap_rc); rfl) | ((with_reducible apply ap_nn)) | ((with_reducible apply ap_rR); rfl) | ((with_reducible apply M_ofOrder); rfl; (exact bz_lit _); omega; (first | omega | decide)) | ((with_reducible apply M_ofRider); rfl; (exact bz_lit _); omega; (first | omega | decide)) | ((with_reducible apply ap_rI); exact kd_ord _ (by omega) _ (by decide)) | ((with_reducible apply ap_wI); exact kd_ord _ (by omega) _ (by decide)) | ((with_reducible apply ap_rI); exact kd_rid _ (by omega) _ (by decide)) | ((with_reducible apply ap_wI); exact kd_rid _ (by omega) _ (by decide)) | ((with_reducible apply ap_rc); exact (kd_clO _ (by omega)).1) | ((with_reducible apply ap_rc); exact (kd_clR _ (by omega)).1) | ((with_reducible apply ap_rc); exact (kd_clR _ (by omega)).2.2.1) | ((with_reducible apply ap_rR); exact (kd_ridA _ (by omega)).1) | ((with_reducible apply ap_rN); rfl) | ((with_reducible apply M_in)) | ((with_reducible apply X_isWithin)) | ((with_reducible apply ap_rI); rfl) | ((with_reducible apply ap_wI); rfl) | ((with_reducible apply ap_iA); rfl; (try simp only [bz_lit, pk_mul, nI_add]); rfl; omega) | ((with_reducible apply ap_iW); rfl; (try simp only [bz_lit, pk_mul, nI_add]); rfl; omega))
  rw [(dv_pl (tw_d ht) ho hp).2.2.2 r hr]
  exact ⟨_, rfl, hP⟩
theorem f_bg_n {r : Nat} (hg : gd_b s) (hr : r < 12) (h : ¬ s 0 < s (600 + 8 * r + 2)) : f_bg s r = (s 0).toNatClampNeg := by
  obtain ⟨p, hp, ep⟩ : bz_lt (s (600 + 8 * r + 2)) 1440 := gb_r hg hr 2 (by decide)
  obtain ⟨n, hn, en⟩ : bz_lt (s 0) 1440 := hg 0 (by decide) (by decide) (by decide)
  rw [ep, en] at h
  unfold f_bg
  rw [ep, en, nI_clamp (by omega), nI_clamp (by omega), if_pos]
  rcases Nat.lt_or_ge n p with q | q
  · exact absurd (nI_lt q (by omega)) h
  · exact q
theorem X_bestFor {P : Int32 → bz_H → Prop} {o i n : Nat} {f : Nat → Int32} {g : Nat → Nat} (ho : o < 24) (hp : o < (s 2).toNatClampNeg) (ht : tw S s) (hT : S.2.2[i]? = some (n, f)) (hfg : ∀ k, k < n → f k = nI (g k)) (hwf : wfm g n) (hP : ∀ S', fr (fun c _ => 175 ≤ c ∧ c ≤ 185) S S' → P (f_bi (f_of s o n g)) (bz_hp E S')) : bz_cI G l (d + 4) kX11_bestFor [.inr (some 5), .inl (nI o), .inr (some (205 + 2 * i))] (bz_hp E S) 0 0 P := by
  refine m_X11_bestFor _ _ _ _ (fun κ bc bs hl => ?_)
  unfold w_X11_bestFor_0
  have hg := tw_b ht
  obtain ⟨m3, hm3, em3⟩ : bz_lt (s 3) 13 := hg 3 (by decide) (by decide) (by decide)
  obtain ⟨m0, hm0, em0⟩ : bz_lt (s 0) 1440 := hg 0 (by decide) (by decide) (by decide)
  unfold f_of at hP
  rw [em3, nI_clamp (by omega)] at hP
  repeat (first | ((with_reducible apply ap_rc); rfl) | ((with_reducible apply ap_nn)) | ((with_reducible apply ap_rR); rfl) | ((with_reducible apply M_ofOrder); rfl; (exact bz_lit _); omega; (first | omega | decide)) | ((with_reducible apply M_ofRider); rfl; (exact bz_lit _); omega; (first | omega | decide)) | ((with_reducible apply ap_rI); exact kd_ord _ (by omega) _ (by decide)) | ((with_reducible apply ap_wI); exact kd_ord _ (by omega) _ (by decide)) | ((with_reducible apply ap_rI); exact kd_rid _ (by omega) _ (by decide)) | ((with_reducible apply ap_wI); exact kd_rid _ (by omega) _ (by decide)) | ((with_reducible apply ap_rc); exact (kd_clO _ (by omega)).1) | ((with_reducible apply ap_rc); exact (kd_clR _ (by omega)).1) | ((with_reducible apply ap_rc); exact (kd_clR _ (by omega)).2.2.1) | ((with_reducible apply ap_rR); exact (kd_ridA _ (by omega)).1) | ((with_reducible apply ap_rN); rfl) | ((with_reducible apply M_in)) | ((with_reducible apply X_isWithin)) | ((with_reducible apply ap_rI); rfl) | ((with_reducible apply ap_wI); rfl) | ((with_reducible apply ap_iA); rfl; (try simp only [bz_lit, pk_mul, nI_add]); rfl; omega) | ((with_reducible apply ap_iW); rfl; (try simp only [bz_lit, pk_mul, nI_add]); rfl; omega))
  refine ap_qO rfl ho ?_
  have main := bz_for (n := m3) (Q := fun k => ∀ (S1 : bz_S) (u7 u8 : Option bz_V), fr (fun c _ => 175 ≤ c ∧ c ≤ 185) S S1 → bz_J G κ kX11_bestFor (d + 3 + 1) (fun v h' => ∃ x, v = some (.inl x) ∧ P x h') bc bs 19 [some (.inr (some 5)), some (.inl (nI o)), some (.inr (some (205 + 2 * i))), some (.inr (some (24 + o))), some (.inl (f_bi (f_bf (f_ofk s o n g) k))), some (.inl (f_bm (f_bf (f_ofk s o n g) k))), some (.inl (nI k)), u7, u8] [] (bz_hp E S1)) (fun k hk ih S1 u7 u8 r1 => ?_) ?_
  · exact main S none none (fr_r _ S)
  · have ht1 : tw S1 s := tw_f ht r1 (by intro c k h; first | omega | (dsimp only at h ⊢; omega) | (dsimp only at h; omega) | (dsimp only; omega))
    have hk12 : k < 12 := by omega
    have e10 : S1.1 6 10 = nI m3 := (sy_c (tw_s ht1) 3 0 10 (by decide) rfl).trans em3
    have e12 : S1.1 6 12 = s 0 := sy_c (tw_s ht1) 0 0 12 (by decide) rfl
    obtain ⟨a, ha, ea⟩ : bz_lt (s (600 + 8 * k + 1)) 16 := gb_r hg hk12 1 (by decide)
    rw [nI_succ] at ih
    refine g_X11_bestFor_19 hl _ _ _ _ _ _ _ _ _ _ ?_
    unfold w_X11_bestFor_19
    repeat (first | ((with_reducible apply ap_rc); rfl) | ((with_reducible apply ap_nn)) | ((with_reducible apply ap_rR); rfl) | ((with_reducible apply M_ofOrder); rfl; (exact bz_lit _); omega; (first | omega | decide)) | ((with_reducible apply M_ofRider); rfl; (exact bz_lit _); omega; (first | omega | decide)) | ((with_reducible apply ap_rI); exact kd_ord _ (by omega) _ (by decide)) | ((with_reducible apply ap_wI); exact kd_ord _ (by omega) _ (by decide)) | ((with_reducible apply ap_rI); exact kd_rid _ (by omega) _ (by decide)) | ((with_reducible apply ap_wI); exact kd_rid _ (by omega) _ (by decide)) | ((with_reducible apply ap_rc); exact (kd_clO _ (by omega)).1) | ((with_reducible apply ap_rc); exact (kd_clR _ (by omega)).1) | ((with_reducible apply ap_rc); exact (kd_clR _ (by omega)).2.2.1) | ((with_reducible apply ap_rR); exact (kd_ridA _ (by omega)).1) | ((with_reducible apply ap_rN); rfl) | ((with_reducible apply M_in)) | ((with_reducible apply X_isWithin)) | ((with_reducible apply ap_rI); rfl) | ((with_reducible apply ap_wI); rfl) | ((with_reducible apply ap_iA); rfl; (try simp only [bz_lit, pk_mul, nI_add]); rfl; omega) | ((with_reducible apply ap_iW); rfl; (try simp only [bz_lit, pk_mul, nI_add]); rfl; omega))
    rw [e10]
    refine ⟨fun c => absurd ((nI_leI (by omega) (by omega)).mp c) (by omega), fun _ => ?_⟩
    repeat (first | ((with_reducible apply ap_rc); rfl) | ((with_reducible apply ap_nn)) | ((with_reducible apply ap_rR); rfl) | ((with_reducible apply M_ofOrder); rfl; (exact bz_lit _); omega; (first | omega | decide)) | ((with_reducible apply M_ofRider); rfl; (exact bz_lit _); omega; (first | omega | decide)) | ((with_reducible apply ap_rI); exact kd_ord _ (by omega) _ (by decide)) | ((with_reducible apply ap_wI); exact kd_ord _ (by omega) _ (by decide)) | ((with_reducible apply ap_rI); exact kd_rid _ (by omega) _ (by decide)) | ((with_reducible apply ap_wI); exact kd_rid _ (by omega) _ (by decide)) | ((with_reducible apply ap_rc); exact (kd_clO _ (by omega)).1) | ((with_reducible apply ap_rc); exact (kd_clR _ (by omega)).1) | ((with_reducible apply ap_rc); exact (kd_clR _ (by omega)).2.2.1) | ((with_reducible apply ap_rR); exact (kd_ridA _ (by omega)).1) | ((with_reducible apply ap_rN); rfl) | ((with_reducible apply M_in)) | ((with_reducible apply X_isWithin)) | ((with_reducible apply ap_rI); rfl) | ((with_reducible apply ap_wI); rfl) | ((with_reducible apply ap_iA); rfl; (try simp only [bz_lit, pk_mul, nI_add]); rfl; omega) | ((with_reducible apply ap_iW); rfl; (try simp only [bz_lit, pk_mul, nI_add]); rfl; omega))
    refine ap_qR rfl hk12 ?_
    repeat (first | ((with_reducible apply ap_rc); rfl) | ((with_reducible apply ap_nn)) | ((with_reducible apply ap_rR); rfl) | ((with_reducible apply M_ofOrder); rfl; (exact bz_lit _); omega; (first | omega | decide)) | ((with_reducible apply M_ofRider); rfl; (exact bz_lit _); omega; (first | omega | decide)) | ((with_reducible apply ap_rI); exact kd_ord _ (by omega) _ (by decide)) | ((with_reducible apply ap_wI); exact kd_ord _ (by omega) _ (by decide)) | ((with_reducible apply ap_rI); exact kd_rid _ (by omega) _ (by decide)) | ((with_reducible apply ap_wI); exact kd_rid _ (by omega) _ (by decide)) | ((with_reducible apply ap_rc); exact (kd_clO _ (by omega)).1) | ((with_reducible apply ap_rc); exact (kd_clR _ (by omega)).1) | ((with_reducible apply ap_rc); exact (kd_clR _ (by omega)).2.2.1) | ((with_reducible apply ap_rR); exact (kd_ridA _ (by omega)).1) | ((with_reducible apply ap_rN); rfl) | ((with_reducible apply M_in)) | ((with_reducible apply X_isWithin)) | ((with_reducible apply ap_rI); rfl) | ((with_reducible apply ap_wI); rfl) | ((with_reducible apply ap_iA); rfl; (try simp only [bz_lit, pk_mul, nI_add]); rfl; omega) | ((with_reducible apply ap_iW); rfl; (try simp only [bz_lit, pk_mul, nI_add]); rfl; omega))
    rw [e12, sy_r (tw_s ht1) hk12 2 5 (by decide) rfl]
    refine ⟨fun c => ?_, fun c => ?_⟩
    · rw [f_bf_n (show f_ofk s o n g k = none from if_pos c)] at ih
      exact ih S1 _ _ r1
    · repeat (first | ((with_reducible apply ap_rc); rfl) | ((with_reducible apply ap_nn)) | ((with_reducible apply ap_rR); rfl) | ((with_reducible apply M_ofOrder); rfl; (exact bz_lit _); omega; (first | omega | decide)) | ((with_reducible apply M_ofRider); rfl; (exact bz_lit _); omega; (first | omega | decide)) | ((with_reducible apply ap_rI); exact kd_ord _ (by omega) _ (by decide)) | ((with_reducible apply ap_wI); exact kd_ord _ (by omega) _ (by decide)) | ((with_reducible apply ap_rI); exact kd_rid _ (by omega) _ (by decide)) | ((with_reducible apply ap_wI); exact kd_rid _ (by omega) _ (by decide)) | ((with_reducible apply ap_rc); exact (kd_clO _ (by omega)).1) | ((with_reducible apply ap_rc); exact (kd_clR _ (by omega)).1) | ((with_reducible apply ap_rc); exact (kd_clR _ (by omega)).2.2.1) | ((with_reducible apply ap_rR); exact (kd_ridA _ (by omega)).1) | ((with_reducible apply ap_rN); rfl) | ((with_reducible apply M_in)) | ((with_reducible apply X_isWithin)) | ((with_reducible apply ap_rI); rfl) | ((with_reducible apply ap_wI); rfl) | ((with_reducible apply ap_iA); rfl; (try simp only [bz_lit, pk_mul, nI_add]); rfl; omega) | ((with_reducible apply ap_iW); rfl; (try simp only [bz_lit, pk_mul, nI_add]); rfl; omega))
      refine X_isRefusedBy ho hk12 hp ht1 ?_
      by_cases hb : (s (696 + k) >>> (nI o &&& 31)) &&& 1 = 0
      · rw [if_pos hb]
        refine ⟨fun c1 => absurd rfl c1, fun _ => ?_⟩
        have hok : f_ofk s o n g k = (f_tn s k o).map (fun q => f_st (f_en2 s k o (s 0 - s (312 + 12 * o + 2)) (f_lateBy s o (nI q.2))) g n 0) := by
          unfold f_ofk
          rw [if_neg c, if_pos hb]
        have htn : f_tn s k o = f_tp s (s (600 + 8 * k + 0)) a m0 o := by
          unfold f_tn
          rw [f_bg_n hg hk12 c, em0, ea, nI_clamp (by omega), nI_clamp (by omega)]
        repeat (first | ((with_reducible apply ap_rc); rfl) | ((with_reducible apply ap_nn)) | ((with_reducible apply ap_rR); rfl) | ((with_reducible apply M_ofOrder); rfl; (exact bz_lit _); omega; (first | omega | decide)) | ((with_reducible apply M_ofRider); rfl; (exact bz_lit _); omega; (first | omega | decide)) | ((with_reducible apply ap_rI); exact kd_ord _ (by omega) _ (by decide)) | ((with_reducible apply ap_wI); exact kd_ord _ (by omega) _ (by decide)) | ((with_reducible apply ap_rI); exact kd_rid _ (by omega) _ (by decide)) | ((with_reducible apply ap_wI); exact kd_rid _ (by omega) _ (by decide)) | ((with_reducible apply ap_rc); exact (kd_clO _ (by omega)).1) | ((with_reducible apply ap_rc); exact (kd_clR _ (by omega)).1) | ((with_reducible apply ap_rc); exact (kd_clR _ (by omega)).2.2.1) | ((with_reducible apply ap_rR); exact (kd_ridA _ (by omega)).1) | ((with_reducible apply ap_rN); rfl) | ((with_reducible apply M_in)) | ((with_reducible apply X_isWithin)) | ((with_reducible apply ap_rI); rfl) | ((with_reducible apply ap_wI); rfl) | ((with_reducible apply ap_iA); rfl; (try simp only [bz_lit, pk_mul, nI_add]); rfl; omega) | ((with_reducible apply ap_iW); rfl; (try simp only [bz_lit, pk_mul, nI_add]); rfl; omega))
        rw [e12, em0, sy_r (tw_s ht1) hk12 0 1 (by decide) rfl, sy_r (tw_s ht1) hk12 1 4 (by decide) rfl, ea]
        refine X_planOne rfl rfl ho hp ha (by omega) ht1 (fun S2 r2 v2 => ?_)
        have ht2 : tw S2 s := tw_f ht1 r2 (by intro c k h; first | omega | (dsimp only at h ⊢; omega) | (dsimp only at h; omega) | (dsimp only; omega))
        have r12 : fr (fun c _ => 175 ≤ c ∧ c ≤ 185) S S2 := fr_t r1 (fr_m r2 (by intro c k h; first | omega | (dsimp only at h ⊢; omega) | (dsimp only at h; omega) | (dsimp only; omega)))
        rw [← htn] at v2 ⊢
        cases h : f_tn s k o with
        | none =>
          rw [h] at hok
          rw [f_bf_n hok] at ih
          exact ⟨fun c2 => absurd rfl c2, fun _ => ih S2 _ _ r12⟩
        | some q =>
          obtain ⟨-, -, -, -, -, v10⟩ := v2 q.1 q.2 h
          rw [h] at hok
          refine ⟨fun _ => ?_, fun c2 => absurd c2 (f_ok_1 _)⟩
          repeat (first | ((with_reducible apply ap_rc); rfl) | ((with_reducible apply ap_nn)) | ((with_reducible apply ap_rR); rfl) | ((with_reducible apply M_ofOrder); rfl; (exact bz_lit _); omega; (first | omega | decide)) | ((with_reducible apply M_ofRider); rfl; (exact bz_lit _); omega; (first | omega | decide)) | ((with_reducible apply ap_rI); exact kd_ord _ (by omega) _ (by decide)) | ((with_reducible apply ap_wI); exact kd_ord _ (by omega) _ (by decide)) | ((with_reducible apply ap_rI); exact kd_rid _ (by omega) _ (by decide)) | ((with_reducible apply ap_wI); exact kd_rid _ (by omega) _ (by decide)) | ((with_reducible apply ap_rc); exact (kd_clO _ (by omega)).1) | ((with_reducible apply ap_rc); exact (kd_clR _ (by omega)).1) | ((with_reducible apply ap_rc); exact (kd_clR _ (by omega)).2.2.1) | ((with_reducible apply ap_rR); exact (kd_ridA _ (by omega)).1) | ((with_reducible apply ap_rN); rfl) | ((with_reducible apply M_in)) | ((with_reducible apply X_isWithin)) | ((with_reducible apply ap_rI); rfl) | ((with_reducible apply ap_wI); rfl) | ((with_reducible apply ap_iA); rfl; (try simp only [bz_lit, pk_mul, nI_add]); rfl; omega) | ((with_reducible apply ap_iW); rfl; (try simp only [bz_lit, pk_mul, nI_add]); rfl; omega))
          refine X_nameRider hk12 ho hp ht2 (fun S3 r3 v3 => ?_)
          have ht3 : tw S3 s := tw_f ht2 r3 (by intro c k h; first | omega | (dsimp only at h ⊢; omega) | (dsimp only at h; omega) | (dsimp only; omega))
          have e12' : S3.1 6 12 = s 0 := sy_c (tw_s ht3) 0 0 12 (by decide) rfl
          repeat (first | ((with_reducible apply ap_rc); rfl) | ((with_reducible apply ap_nn)) | ((with_reducible apply ap_rR); rfl) | ((with_reducible apply M_ofOrder); rfl; (exact bz_lit _); omega; (first | omega | decide)) | ((with_reducible apply M_ofRider); rfl; (exact bz_lit _); omega; (first | omega | decide)) | ((with_reducible apply ap_rI); exact kd_ord _ (by omega) _ (by decide)) | ((with_reducible apply ap_wI); exact kd_ord _ (by omega) _ (by decide)) | ((with_reducible apply ap_rI); exact kd_rid _ (by omega) _ (by decide)) | ((with_reducible apply ap_wI); exact kd_rid _ (by omega) _ (by decide)) | ((with_reducible apply ap_rc); exact (kd_clO _ (by omega)).1) | ((with_reducible apply ap_rc); exact (kd_clR _ (by omega)).1) | ((with_reducible apply ap_rc); exact (kd_clR _ (by omega)).2.2.1) | ((with_reducible apply ap_rR); exact (kd_ridA _ (by omega)).1) | ((with_reducible apply ap_rN); rfl) | ((with_reducible apply M_in)) | ((with_reducible apply X_isWithin)) | ((with_reducible apply ap_rI); rfl) | ((with_reducible apply ap_wI); rfl) | ((with_reducible apply ap_iA); rfl; (try simp only [bz_lit, pk_mul, nI_add]); rfl; omega) | ((with_reducible apply ap_iW); rfl; (try simp only [bz_lit, pk_mul, nI_add]); rfl; omega))
          rw [e12', sy_o (tw_s ht3) ho 2 3 (by decide) rfl, r3.2 175 10 (by decide), v10]
          refine X_putTimes (fun S4 r4 k1 k4 => ?_)
          repeat (first | ((with_reducible apply ap_rc); rfl) | ((with_reducible apply ap_nn)) | ((with_reducible apply ap_rR); rfl) | ((with_reducible apply M_ofOrder); rfl; (exact bz_lit _); omega; (first | omega | decide)) | ((with_reducible apply M_ofRider); rfl; (exact bz_lit _); omega; (first | omega | decide)) | ((with_reducible apply ap_rI); exact kd_ord _ (by omega) _ (by decide)) | ((with_reducible apply ap_wI); exact kd_ord _ (by omega) _ (by decide)) | ((with_reducible apply ap_rI); exact kd_rid _ (by omega) _ (by decide)) | ((with_reducible apply ap_wI); exact kd_rid _ (by omega) _ (by decide)) | ((with_reducible apply ap_rc); exact (kd_clO _ (by omega)).1) | ((with_reducible apply ap_rc); exact (kd_clR _ (by omega)).1) | ((with_reducible apply ap_rc); exact (kd_clR _ (by omega)).2.2.1) | ((with_reducible apply ap_rR); exact (kd_ridA _ (by omega)).1) | ((with_reducible apply ap_rN); rfl) | ((with_reducible apply M_in)) | ((with_reducible apply X_isWithin)) | ((with_reducible apply ap_rI); rfl) | ((with_reducible apply ap_wI); rfl) | ((with_reducible apply ap_iA); rfl; (try simp only [bz_lit, pk_mul, nI_add]); rfl; omega) | ((with_reducible apply ap_iW); rfl; (try simp only [bz_lit, pk_mul, nI_add]); rfl; omega))
          refine X_worthOf (i := i) (n := n) (f := f) (g := g) (by rw [r4.1, r3.1, r12.1]; exact hT) hfg hwf (nv_t v3 r4 k1 k4) (fun S5 r5 => ?_)
          have rr : fr (fun c _ => 175 ≤ c ∧ c ≤ 185) S S5 := fr_t r12 (fr_t (fr_m r3 (by intro c k h; first | omega | (dsimp only at h ⊢; omega) | (dsimp only at h; omega) | (dsimp only; omega))) (fr_t (fr_m r4 (by intro c k h; first | omega | (dsimp only at h ⊢; omega) | (dsimp only at h; omega) | (dsimp only; omega))) (fr_m r5 (by intro c k h; first | omega | (dsimp only at h ⊢; omega) | (dsimp only at h; omega) | (dsimp only; omega)))))
          have hok' : f_ofk s o n g k = some (f_st (f_env s (s (600 + 8 * k + 0)) (s (600 + 8 * k + 1)).toNatClampNeg o (s 0 - s (312 + 12 * o + 2)) (s (600 + 8 * k + 3)) (f_ratR s k) (f_lateBy s o (nI q.2)) (nI k)) g n 0) := hok
          generalize hv : f_st (f_env s (s (600 + 8 * k + 0)) (s (600 + 8 * k + 1)).toNatClampNeg o (s 0 - s (312 + 12 * o + 2)) (s (600 + 8 * k + 3)) (f_ratR s k) (f_lateBy s o (nI q.2)) (nI k)) g n 0 = v at *
          cases hbk : f_bf (f_ofk s o n g) k with
          | none =>
            rw [f_bf_0 hok' hbk] at ih
            exact ⟨fun _ => ih S5 _ _ rr, fun c3 => absurd rfl c3⟩
          | some b =>
            rw [f_bf_s hok' hbk] at ih
            have hbl := (f_bf_lt hbk).1
            refine ⟨fun c3 => absurd c3 (nI_nn (by omega)), fun _ => ⟨fun c3 => ?_, fun c3 => ?_⟩⟩
            · rw [if_pos (show v ≤ b.2 from c3)] at ih
              exact ih S5 _ _ rr
            · rw [if_neg (show ¬ v ≤ b.2 from c3)] at ih
              exact ih S5 _ _ rr
      · rw [if_neg hb]
        refine ⟨fun _ => ?_, fun c1 => absurd c1 (by decide)⟩
        rw [f_bf_n (show f_ofk s o n g k = none by unfold f_ofk; rw [if_neg c, if_neg hb])] at ih
        exact ih S1 _ _ r1
  · intro S1 u7 u8 r1
    have ht1 : tw S1 s := tw_f ht r1 (by intro c k h; first | omega | (dsimp only at h ⊢; omega) | (dsimp only at h; omega) | (dsimp only; omega))
    have e10 : S1.1 6 10 = nI m3 := (sy_c (tw_s ht1) 3 0 10 (by decide) rfl).trans em3
    refine g_X11_bestFor_19 hl _ _ _ _ _ _ _ _ _ _ ?_
    unfold w_X11_bestFor_19
    repeat (first | ((with_reducible apply ap_rc); rfl) | ((with_reducible apply ap_nn)) | ((with_reducible apply ap_rR); rfl) | ((with_reducible apply M_ofOrder); rfl; (exact bz_lit _); omega; (first | omega | decide)) | ((with_reducible apply M_ofRider); rfl; (exact bz_lit _); omega; (first | omega | decide)) | ((with_reducible apply ap_rI); exact kd_ord _ (by omega) _ (by decide)) | ((with_reducible apply ap_wI); exact kd_ord _ (by omega) _ (by decide)) | ((with_reducible apply ap_rI); exact kd_rid _ (by omega) _ (by decide)) | ((with_reducible apply ap_wI); exact kd_rid _ (by omega) _ (by decide)) | ((with_reducible apply ap_rc); exact (kd_clO _ (by omega)).1) | ((with_reducible apply ap_rc); exact (kd_clR _ (by omega)).1) | ((with_reducible apply ap_rc); exact (kd_clR _ (by omega)).2.2.1) | ((with_reducible apply ap_rR); exact (kd_ridA _ (by omega)).1) | ((with_reducible apply ap_rN); rfl) | ((with_reducible apply M_in)) | ((with_reducible apply X_isWithin)) | ((with_reducible apply ap_rI); rfl) | ((with_reducible apply ap_wI); rfl) | ((with_reducible apply ap_iA); rfl; (try simp only [bz_lit, pk_mul, nI_add]); rfl; omega) | ((with_reducible apply ap_iW); rfl; (try simp only [bz_lit, pk_mul, nI_add]); rfl; omega))
    rw [e10]
    exact ⟨fun _ => ⟨_, rfl, hP S1 r1⟩, fun c => absurd (nI_le (by omega) (by omega)) c⟩
theorem M_offeredTo {P : Int32 → bz_H → Prop} {o t n : Nat} {g : Nat → Nat} (ho : o < 24) (hs : S.1 187 = s) (hg : gd_b s) (hf : fd S) (h5 : s 5 = nI t) (ht8 : t < 8) (htg : tg s t n g) (hwf : wfm g n) (hst : ¬ s (312 + 12 * o + 5) = 1) (hP : ∀ S', fr tN S S' → fd S' → P (f_bi (f_of s o n g)) (bz_hp E S')) : bz_cI G l (d + 9) kX12_offeredTo [.inr (some 186), .inl (nI o)] (bz_hp E S) 0 0 P := by
  refine m_X12_offeredTo _ _ _ (fun κ bc bs hl => ?_)
  unfold w_X12_offeredTo_0
  obtain ⟨m3, hm3, em3⟩ : bz_lt (s 3) 13 := hg 3 (by decide) (by decide) (by decide)
  unfold f_of at hP
  rw [em3, nI_clamp (by omega)] at hP
  have main := bz_for (n := m3) (Q := fun k => ∀ (S1 : bz_S) (u5 u6 : Option bz_V), fr tN S S1 → fd S1 → bz_J G κ kX12_offeredTo (d + 8 + 1) (fun v h' => ∃ x, v = some (.inl x) ∧ P x h') bc bs 7 [some (.inr (some 186)), some (.inl (nI o)), some (.inl (f_bi (f_bf (f_ofk s o n g) k))), some (.inl (f_bm (f_bf (f_ofk s o n g) k))), some (.inl (nI k)), u5, u6] [] (bz_hp E S1)) (fun k hk ih S1 u5 u6 r1 f1 => ?_) ?_
  · exact main S none none (fr_r _ S) hf
  · have e1 : S1.1 187 = s := (fr_c r1 (fun k => by omega)).trans hs
    have hk12 : k < 12 := by omega
    rw [nI_succ] at ih
    have no : ∀ u5 u6, f_ofk s o n g k = none → bz_J G κ kX12_offeredTo (d + 8 + 1) (fun v h' => ∃ x, v = some (.inl x) ∧ P x h') bc bs 57 [some (.inr (some 186)), some (.inl (nI o)), some (.inl (f_bi (f_bf (f_ofk s o n g) k))), some (.inl (f_bm (f_bf (f_ofk s o n g) k))), some (.inl (nI k)), u5, u6] [.inl 0] (bz_hp E S1) := by
      intro u5 u6 hno
      rw [f_bf_n hno] at ih
      refine g_X12_offeredTo_57 hl _ _ _ _ _ _ _ _ _ ?_
      unfold w_X12_offeredTo_57
      exact ⟨fun _ => ih S1 _ _ r1 f1, fun c => absurd rfl c⟩
    refine g_X12_offeredTo_7 hl _ _ _ _ _ _ _ _ ?_
    unfold w_X12_offeredTo_7
    repeat (first | ((with_reducible apply ap_rc); rfl) | ((with_reducible apply ap_nn)) | ((with_reducible apply ap_rR); rfl) | ((with_reducible apply M_ofOrder); rfl; (exact bz_lit _); omega; (first | omega | decide)) | ((with_reducible apply M_ofRider); rfl; (exact bz_lit _); omega; (first | omega | decide)) | ((with_reducible apply ap_rI); exact kd_ord _ (by omega) _ (by decide)) | ((with_reducible apply ap_wI); exact kd_ord _ (by omega) _ (by decide)) | ((with_reducible apply ap_rI); exact kd_rid _ (by omega) _ (by decide)) | ((with_reducible apply ap_wI); exact kd_rid _ (by omega) _ (by decide)) | ((with_reducible apply ap_rc); exact (kd_clO _ (by omega)).1) | ((with_reducible apply ap_rc); exact (kd_clR _ (by omega)).1) | ((with_reducible apply ap_rc); exact (kd_clR _ (by omega)).2.2.1) | ((with_reducible apply ap_rR); exact (kd_ridA _ (by omega)).1) | ((with_reducible apply ap_rN); rfl) | ((with_reducible apply M_in)) | ((with_reducible apply X_isWithin)) | ((with_reducible apply ap_rI); rfl) | ((with_reducible apply ap_wI); rfl) | ((with_reducible apply ap_iA); rfl; (try simp only [bz_lit, pk_mul, nI_add]); rfl; omega) | ((with_reducible apply ap_iW); rfl; (try simp only [bz_lit, pk_mul, nI_add]); rfl; omega))
    rw [e1, em3]
    refine ⟨fun c => absurd ((nI_leI (by omega) (by omega)).mp c) (by omega), fun _ => ?_⟩
    repeat (first | ((with_reducible apply ap_rc); rfl) | ((with_reducible apply ap_nn)) | ((with_reducible apply ap_rR); rfl) | ((with_reducible apply M_ofOrder); rfl; (exact bz_lit _); omega; (first | omega | decide)) | ((with_reducible apply M_ofRider); rfl; (exact bz_lit _); omega; (first | omega | decide)) | ((with_reducible apply ap_rI); exact kd_ord _ (by omega) _ (by decide)) | ((with_reducible apply ap_wI); exact kd_ord _ (by omega) _ (by decide)) | ((with_reducible apply ap_rI); exact kd_rid _ (by omega) _ (by decide)) | ((with_reducible apply ap_wI); exact kd_rid _ (by omega) _ (by decide)) | ((with_reducible apply ap_rc); exact (kd_clO _ (by omega)).1) | ((with_reducible apply ap_rc); exact (kd_clR _ (by omega)).1) | ((with_reducible apply ap_rc); exact (kd_clR _ (by omega)).2.2.1) | ((with_reducible apply ap_rR); exact (kd_ridA _ (by omega)).1) | ((with_reducible apply ap_rN); rfl) | ((with_reducible apply M_in)) | ((with_reducible apply X_isWithin)) | ((with_reducible apply ap_rI); rfl) | ((with_reducible apply ap_wI); rfl) | ((with_reducible apply ap_iA); rfl; (try simp only [bz_lit, pk_mul, nI_add]); rfl; omega) | ((with_reducible apply ap_iW); rfl; (try simp only [bz_lit, pk_mul, nI_add]); rfl; omega))
    rw [e1]
    refine ⟨fun c => no _ _ (if_pos c), fun c => ?_⟩
    repeat (first | ((with_reducible apply ap_rc); rfl) | ((with_reducible apply ap_nn)) | ((with_reducible apply ap_rR); rfl) | ((with_reducible apply M_ofOrder); rfl; (exact bz_lit _); omega; (first | omega | decide)) | ((with_reducible apply M_ofRider); rfl; (exact bz_lit _); omega; (first | omega | decide)) | ((with_reducible apply ap_rI); exact kd_ord _ (by omega) _ (by decide)) | ((with_reducible apply ap_wI); exact kd_ord _ (by omega) _ (by decide)) | ((with_reducible apply ap_rI); exact kd_rid _ (by omega) _ (by decide)) | ((with_reducible apply ap_wI); exact kd_rid _ (by omega) _ (by decide)) | ((with_reducible apply ap_rc); exact (kd_clO _ (by omega)).1) | ((with_reducible apply ap_rc); exact (kd_clR _ (by omega)).1) | ((with_reducible apply ap_rc); exact (kd_clR _ (by omega)).2.2.1) | ((with_reducible apply ap_rR); exact (kd_ridA _ (by omega)).1) | ((with_reducible apply ap_rN); rfl) | ((with_reducible apply M_in)) | ((with_reducible apply X_isWithin)) | ((with_reducible apply ap_rI); rfl) | ((with_reducible apply ap_wI); rfl) | ((with_reducible apply ap_iA); rfl; (try simp only [bz_lit, pk_mul, nI_add]); rfl; omega) | ((with_reducible apply ap_iW); rfl; (try simp only [bz_lit, pk_mul, nI_add]); rfl; omega))
    rw [e1]
    by_cases hb : (s (696 + k) >>> (nI o &&& 31)) &&& 1 = 0
    · rw [if_pos hb]
      have hok : f_ofk s o n g k = (f_tn s k o).map (fun q => f_st (f_en2 s k o (s 0 - s (312 + 12 * o + 2)) (f_lateBy s o (nI q.2))) g n 0) := by
        unfold f_ofk
        rw [if_neg c, if_pos hb]
      refine g_X12_offeredTo_57 hl _ _ _ _ _ _ _ _ _ ?_
      unfold w_X12_offeredTo_57
      refine ⟨fun c => absurd c (by decide), fun _ => ?_⟩
      repeat (first | ((with_reducible apply ap_rc); rfl) | ((with_reducible apply ap_nn)) | ((with_reducible apply ap_rR); rfl) | ((with_reducible apply M_ofOrder); rfl; (exact bz_lit _); omega; (first | omega | decide)) | ((with_reducible apply M_ofRider); rfl; (exact bz_lit _); omega; (first | omega | decide)) | ((with_reducible apply ap_rI); exact kd_ord _ (by omega) _ (by decide)) | ((with_reducible apply ap_wI); exact kd_ord _ (by omega) _ (by decide)) | ((with_reducible apply ap_rI); exact kd_rid _ (by omega) _ (by decide)) | ((with_reducible apply ap_wI); exact kd_rid _ (by omega) _ (by decide)) | ((with_reducible apply ap_rc); exact (kd_clO _ (by omega)).1) | ((with_reducible apply ap_rc); exact (kd_clR _ (by omega)).1) | ((with_reducible apply ap_rc); exact (kd_clR _ (by omega)).2.2.1) | ((with_reducible apply ap_rR); exact (kd_ridA _ (by omega)).1) | ((with_reducible apply ap_rN); rfl) | ((with_reducible apply M_in)) | ((with_reducible apply X_isWithin)) | ((with_reducible apply ap_rI); rfl) | ((with_reducible apply ap_wI); rfl) | ((with_reducible apply ap_iA); rfl; (try simp only [bz_lit, pk_mul, nI_add]); rfl; omega) | ((with_reducible apply ap_iW); rfl; (try simp only [bz_lit, pk_mul, nI_add]); rfl; omega))
      refine M_tripNow hk12 ho e1 hg f1 (fun S2 r2 f2 v2 => ?_)
      have e2 : S2.1 187 = s := (fr_c r2 (fun k => by omega)).trans e1
      cases h : f_tn s k o with
      | none =>
        rw [h] at hok
        rw [f_bf_n hok] at ih
        exact ⟨fun c2 => absurd rfl c2, fun _ => ih S2 _ _ (fr_t r1 (fr_m r2 (by intro c k h; first | omega | (dsimp only at h ⊢; omega) | (dsimp only at h; omega) | (dsimp only; omega)))) f2⟩
      | some q =>
        rw [h] at hok
        refine ⟨fun _ => ?_, fun c2 => absurd c2 (f_ok_1 _)⟩
        repeat (first | ((with_reducible apply ap_rc); rfl) | ((with_reducible apply ap_nn)) | ((with_reducible apply ap_rR); rfl) | ((with_reducible apply M_ofOrder); rfl; (exact bz_lit _); omega; (first | omega | decide)) | ((with_reducible apply M_ofRider); rfl; (exact bz_lit _); omega; (first | omega | decide)) | ((with_reducible apply ap_rI); exact kd_ord _ (by omega) _ (by decide)) | ((with_reducible apply ap_wI); exact kd_ord _ (by omega) _ (by decide)) | ((with_reducible apply ap_rI); exact kd_rid _ (by omega) _ (by decide)) | ((with_reducible apply ap_wI); exact kd_rid _ (by omega) _ (by decide)) | ((with_reducible apply ap_rc); exact (kd_clO _ (by omega)).1) | ((with_reducible apply ap_rc); exact (kd_clR _ (by omega)).1) | ((with_reducible apply ap_rc); exact (kd_clR _ (by omega)).2.2.1) | ((with_reducible apply ap_rR); exact (kd_ridA _ (by omega)).1) | ((with_reducible apply ap_rN); rfl) | ((with_reducible apply M_in)) | ((with_reducible apply X_isWithin)) | ((with_reducible apply ap_rI); rfl) | ((with_reducible apply ap_wI); rfl) | ((with_reducible apply ap_iA); rfl; (try simp only [bz_lit, pk_mul, nI_add]); rfl; omega) | ((with_reducible apply ap_iW); rfl; (try simp only [bz_lit, pk_mul, nI_add]); rfl; omega))
        refine M_nameAll hk12 ho e2 hg f2 (fun S3 r3 f3 v3 => ?_)
        have e3 : S3.1 187 = s := (fr_c r3 (fun k => by omega)).trans e2
        have hw0 : f_nw s o = s 0 - s (312 + 12 * o + 2) := by
          unfold f_nw
          rw [if_neg hst]
        have hl0 : f_nl s k o = f_lateBy s o (nI q.2) := by
          unfold f_nl
          rw [if_neg hst, h]
          rfl
        rw [hw0, hl0] at v3
        repeat (first | ((with_reducible apply ap_rc); rfl) | ((with_reducible apply ap_nn)) | ((with_reducible apply ap_rR); rfl) | ((with_reducible apply M_ofOrder); rfl; (exact bz_lit _); omega; (first | omega | decide)) | ((with_reducible apply M_ofRider); rfl; (exact bz_lit _); omega; (first | omega | decide)) | ((with_reducible apply ap_rI); exact kd_ord _ (by omega) _ (by decide)) | ((with_reducible apply ap_wI); exact kd_ord _ (by omega) _ (by decide)) | ((with_reducible apply ap_rI); exact kd_rid _ (by omega) _ (by decide)) | ((with_reducible apply ap_wI); exact kd_rid _ (by omega) _ (by decide)) | ((with_reducible apply ap_rc); exact (kd_clO _ (by omega)).1) | ((with_reducible apply ap_rc); exact (kd_clR _ (by omega)).1) | ((with_reducible apply ap_rc); exact (kd_clR _ (by omega)).2.2.1) | ((with_reducible apply ap_rR); exact (kd_ridA _ (by omega)).1) | ((with_reducible apply ap_rN); rfl) | ((with_reducible apply M_in)) | ((with_reducible apply X_isWithin)) | ((with_reducible apply ap_rI); rfl) | ((with_reducible apply ap_wI); rfl) | ((with_reducible apply ap_iA); rfl; (try simp only [bz_lit, pk_mul, nI_add]); rfl; omega) | ((with_reducible apply ap_iW); rfl; (try simp only [bz_lit, pk_mul, nI_add]); rfl; omega))
        rw [e3, h5]
        refine M_works rfl ht8 e3 htg hwf v3 (fun S4 r4 => ?_)
        have rr : fr tN S S4 := fr_t r1 (fr_t (fr_m r2 (by intro c k h; first | omega | (dsimp only at h ⊢; omega) | (dsimp only at h; omega) | (dsimp only; omega))) (fr_t (fr_m r3 (by intro c k h; first | omega | (dsimp only at h ⊢; omega) | (dsimp only at h; omega) | (dsimp only; omega))) (fr_m r4 (by intro c k h; first | omega | (dsimp only at h ⊢; omega) | (dsimp only at h; omega) | (dsimp only; omega)))))
        have f4 : fd S4 := fd_f f3 r4 (by intro c k h; first | omega | (dsimp only at h ⊢; omega) | (dsimp only at h; omega) | (dsimp only; omega))
        have hok' : f_ofk s o n g k = some (f_st (f_en2 s k o (s 0 - s (312 + 12 * o + 2)) (f_lateBy s o (nI q.2))) g n 0) := hok
        generalize hv : f_st (f_en2 s k o (s 0 - s (312 + 12 * o + 2)) (f_lateBy s o (nI q.2))) g n 0 = v at *
        cases hbk : f_bf (f_ofk s o n g) k with
        | none =>
          rw [f_bf_0 hok' hbk] at ih
          exact ⟨fun _ => ih S4 _ _ rr f4, fun c3 => absurd (by decide) c3⟩
        | some b =>
          rw [f_bf_s hok' hbk] at ih
          have hbl := (f_bf_lt hbk).1
          refine ⟨fun c3 => absurd c3 (nI_pos (by omega)), fun _ => ⟨fun c3 => ?_, fun c3 => ?_⟩⟩
          · rw [if_pos (show v ≤ b.2 from c3)] at ih
            exact ih S4 _ _ rr f4
          · rw [if_neg (show ¬ v ≤ b.2 from c3)] at ih
            exact ih S4 _ _ rr f4
    · rw [if_neg hb]
      exact no _ _ (by unfold f_ofk; rw [if_neg c, if_neg hb])
  · intro S1 u5 u6 r1 f1
    have e1 : S1.1 187 = s := (fr_c r1 (fun k => by omega)).trans hs
    refine g_X12_offeredTo_7 hl _ _ _ _ _ _ _ _ ?_
    unfold w_X12_offeredTo_7
    repeat (first | ((with_reducible apply ap_rc); rfl) | ((with_reducible apply ap_nn)) | ((with_reducible apply ap_rR); rfl) | ((with_reducible apply M_ofOrder); rfl; (exact bz_lit _); omega; (first | omega | decide)) | ((with_reducible apply M_ofRider); rfl; (exact bz_lit _); omega; (first | omega | decide)) | ((with_reducible apply ap_rI); exact kd_ord _ (by omega) _ (by decide)) | ((with_reducible apply ap_wI); exact kd_ord _ (by omega) _ (by decide)) | ((with_reducible apply ap_rI); exact kd_rid _ (by omega) _ (by decide)) | ((with_reducible apply ap_wI); exact kd_rid _ (by omega) _ (by decide)) | ((with_reducible apply ap_rc); exact (kd_clO _ (by omega)).1) | ((with_reducible apply ap_rc); exact (kd_clR _ (by omega)).1) | ((with_reducible apply ap_rc); exact (kd_clR _ (by omega)).2.2.1) | ((with_reducible apply ap_rR); exact (kd_ridA _ (by omega)).1) | ((with_reducible apply ap_rN); rfl) | ((with_reducible apply M_in)) | ((with_reducible apply X_isWithin)) | ((with_reducible apply ap_rI); rfl) | ((with_reducible apply ap_wI); rfl) | ((with_reducible apply ap_iA); rfl; (try simp only [bz_lit, pk_mul, nI_add]); rfl; omega) | ((with_reducible apply ap_iW); rfl; (try simp only [bz_lit, pk_mul, nI_add]); rfl; omega))
    rw [e1, em3]
    exact ⟨fun _ => ⟨_, rfl, hP S1 r1 f1⟩, fun c => absurd (nI_le (by omega) (by omega)) c⟩
end OFF
