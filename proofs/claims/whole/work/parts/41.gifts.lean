/-! rows that grow; trips that begin -/
section GFT
variable {G : bz_G} {l : Launch} {d : Nat} {E : Nat × (Nat → Int32)} {S : bz_S} {s : Nat → Int32}
theorem X_isFull {P : Int32 → bz_H → Prop} {a b n k : Nat} (h1 : bz_rf a 4 0 = some (some b)) (h2 : bz_ln b = some n) (h4 : bz_isI a 4 1 = true) (hk : S.1 a 1 = nI k) (hn : 3 * k + 2 < 100000 ∧ n < 100000) (hP : P (if 3 * k + 2 < n then 0 else 1) (bz_hp E S)) : bz_cI G l (d + 1) kX4_isFull [.inr (some a)] (bz_hp E S) 0 0 P := by
  refine m_X4_isFull _ _ ?_
  unfold w_X4_isFull_0
  refine ap_rI h4 (ap_rR h1 (ap_nn (ap_rN h2 ⟨_, rfl, ?_⟩)))
  rw [hk, show (3 : Int32) * nI k + 2 = nI (3 * k + 2) by simp only [bz_lit, pk_mul, nI_add]]
  by_cases q : 3 * k + 2 < n
  · rw [if_pos q] at hP
    rw [if_pos (show nI (3 * k + 2) < Int32.ofNat n from nI_lt q (by omega))]
    exact hP
  · rw [if_neg q] at hP
    rw [if_neg (show ¬ nI (3 * k + 2) < Int32.ofNat n from nI_nlt (by omega) (by omega))]
    exact hP
theorem X_add {P : Int32 → bz_H → Prop} {a b n k : Nat} {x1 x2 x3 : Int32} (hab : ¬ a = b) (h1 : bz_rf a 4 0 = some (some b)) (h2 : bz_ln b = some n) (h3 : bz_cls a = some 4) (h4 : bz_isI a 4 1 = true) (hk : S.1 a 1 = nI k) (hn : 3 * k + 2 < n ∧ n < 100000) (hP : P (nI (k + 1)) (bz_hp E (bz_u (bz_u (bz_u (bz_u S.1 b (3 * k) x1) b (3 * k + 1) x2) b (3 * k + 2) x3) a 1 (nI k + 1), S.2))) : bz_cI G l (d + 2) kX4_add [.inr (some a), .inl x1, .inl x2, .inl x3] (bz_hp E S) 0 0 P := by
  refine m_X4_add _ _ _ _ _ ?_
  unfold w_X4_add_0
  refine ap_rc h3 (X_isFull h1 h2 h4 hk (by omega) ?_)
  rw [if_pos hn.1]
  refine ⟨fun c => absurd rfl c, fun _ => ?_⟩
  refine ap_rR h1 (ap_rI h4 (ap_nn ?_))
  rw [hk]
  refine ap_iW h2 (i := 3 * k) (by simp only [bz_lit, pk_mul]) (by omega) (ap_rR h1 (ap_rI h4 (ap_nn ?_)))
  dsimp only
  rw [bz_u_ne _ _ (Or.inl hab), hk]
  refine ap_iW h2 (i := 3 * k + 1) (by simp only [bz_lit, pk_mul, nI_add]) (by omega) (ap_rR h1 (ap_rI h4 (ap_nn ?_)))
  dsimp only
  rw [bz_u_ne _ _ (Or.inl hab), bz_u_ne _ _ (Or.inl hab), hk]
  refine ap_iW h2 (i := 3 * k + 2) (by simp only [bz_lit, pk_mul, nI_add]) (by omega) (ap_rI h4 (ap_wI h4 (ap_rI h4 ⟨_, rfl, ?_⟩)))
  dsimp only
  rw [bz_u_same, bz_u_ne _ _ (Or.inl hab), bz_u_ne _ _ (Or.inl hab), bz_u_ne _ _ (Or.inl hab), hk]
  rw [nI_succ] at hP
  exact hP
theorem tc_t3 : ∀ t, t < 24 → ∀ j, j < 3 → tb_c (894 + 3 * t + j) = some (12, 3 * t + j) := by decide +kernel
theorem X_engage {P : bz_H → Prop} {r : Nat} {bb e b n : Int32} (hr : r < 12) (hr3 : r < (s 3).toNatClampNeg) (hg : gd_b s) (hw : wo (wv S.1 6) s) (ht : (s 10).toNatClampNeg < 24) (k6 : S.1 175 6 = bb) (k7 : S.1 175 7 = e) (k8 : S.1 175 8 = b) (hP : ∀ S', fr (fun c _ => c = 17 ∨ c = 18 ∨ c = 48 + 3 * r) S S' → wo (wv S'.1 6) (f_en3 s r bb e b n) → S'.1 (48 + 3 * r) 0 = S.1 (48 + 3 * r) 0 → P (bz_hp E S')) : bz_cV G l (d + 3) kX10_engage [.inr (some 6), .inl (nI r), .inr (some 175), .inl n] (bz_hp E S) 0 0 P := by
  refine m_X10_engage _ _ _ _ _ ?_
  unfold w_X10_engage_0
  obtain ⟨t, ht', et⟩ : bz_lt (s 10) 25 := hg 10 (by decide) (by decide) (by decide)
  rw [et, nI_clamp (by omega)] at ht
  have hs := hw.1
  have en' : S.1 17 1 = nI t := (sy_c hs 10 11 1 (by decide) rfl).trans et
  have kg := sy_r hs hr 3 6 (by decide) rfl
  repeat (first | ((with_reducible apply ap_rc); rfl) | ((with_reducible apply ap_nn)) | ((with_reducible apply ap_rR); rfl) | ((with_reducible apply M_ofOrder); rfl; (exact bz_lit _); omega; (first | omega | decide)) | ((with_reducible apply M_ofRider); rfl; (exact bz_lit _); omega; (first | omega | decide)) | ((with_reducible apply ap_rI); exact kd_ord _ (by omega) _ (by decide)) | ((with_reducible apply ap_wI); exact kd_ord _ (by omega) _ (by decide)) | ((with_reducible apply ap_rI); exact kd_rid _ (by omega) _ (by decide)) | ((with_reducible apply ap_wI); exact kd_rid _ (by omega) _ (by decide)) | ((with_reducible apply ap_rc); exact (kd_clO _ (by omega)).1) | ((with_reducible apply ap_rc); exact (kd_clR _ (by omega)).1) | ((with_reducible apply ap_rc); exact (kd_clR _ (by omega)).2.2.1) | ((with_reducible apply ap_rR); exact (kd_ridA _ (by omega)).1) | ((with_reducible apply ap_rN); rfl) | ((with_reducible apply M_in)) | ((with_reducible apply X_isWithin)) | ((with_reducible apply ap_rI); rfl) | ((with_reducible apply ap_wI); rfl) | ((with_reducible apply ap_iA); rfl; (try simp only [bz_lit, pk_mul, nI_add]); rfl; omega) | ((with_reducible apply ap_iW); rfl; (try simp only [bz_lit, pk_mul, nI_add]); rfl; omega))
  refine ap_qR rfl hr ?_
  repeat (first | ((with_reducible apply ap_rc); rfl) | ((with_reducible apply ap_nn)) | ((with_reducible apply ap_rR); rfl) | ((with_reducible apply M_ofOrder); rfl; (exact bz_lit _); omega; (first | omega | decide)) | ((with_reducible apply M_ofRider); rfl; (exact bz_lit _); omega; (first | omega | decide)) | ((with_reducible apply ap_rI); exact kd_ord _ (by omega) _ (by decide)) | ((with_reducible apply ap_wI); exact kd_ord _ (by omega) _ (by decide)) | ((with_reducible apply ap_rI); exact kd_rid _ (by omega) _ (by decide)) | ((with_reducible apply ap_wI); exact kd_rid _ (by omega) _ (by decide)) | ((with_reducible apply ap_rc); exact (kd_clO _ (by omega)).1) | ((with_reducible apply ap_rc); exact (kd_clR _ (by omega)).1) | ((with_reducible apply ap_rc); exact (kd_clR _ (by omega)).2.2.1) | ((with_reducible apply ap_rR); exact (kd_ridA _ (by omega)).1) | ((with_reducible apply ap_rN); rfl) | ((with_reducible apply M_in)) | ((with_reducible apply X_isWithin)) | ((with_reducible apply ap_rI); rfl) | ((with_reducible apply ap_wI); rfl) | ((with_reducible apply ap_iA); rfl; (try simp only [bz_lit, pk_mul, nI_add]); rfl; omega) | ((with_reducible apply ap_iW); rfl; (try simp only [bz_lit, pk_mul, nI_add]); rfl; omega))
  rw [k6, k7]
  refine X_add (k := t) (by decide) rfl rfl rfl rfl en' (by omega) ?_
  repeat (first | ((with_reducible apply ap_rc); rfl) | ((with_reducible apply ap_nn)) | ((with_reducible apply ap_rR); rfl) | ((with_reducible apply M_ofOrder); rfl; (exact bz_lit _); omega; (first | omega | decide)) | ((with_reducible apply M_ofRider); rfl; (exact bz_lit _); omega; (first | omega | decide)) | ((with_reducible apply ap_rI); exact kd_ord _ (by omega) _ (by decide)) | ((with_reducible apply ap_wI); exact kd_ord _ (by omega) _ (by decide)) | ((with_reducible apply ap_rI); exact kd_rid _ (by omega) _ (by decide)) | ((with_reducible apply ap_wI); exact kd_rid _ (by omega) _ (by decide)) | ((with_reducible apply ap_rc); exact (kd_clO _ (by omega)).1) | ((with_reducible apply ap_rc); exact (kd_clR _ (by omega)).1) | ((with_reducible apply ap_rc); exact (kd_clR _ (by omega)).2.2.1) | ((with_reducible apply ap_rR); exact (kd_ridA _ (by omega)).1) | ((with_reducible apply ap_rN); rfl) | ((with_reducible apply M_in)) | ((with_reducible apply X_isWithin)) | ((with_reducible apply ap_rI); rfl) | ((with_reducible apply ap_wI); rfl) | ((with_reducible apply ap_iA); rfl; (try simp only [bz_lit, pk_mul, nI_add]); rfl; omega) | ((with_reducible apply ap_iW); rfl; (try simp only [bz_lit, pk_mul, nI_add]); rfl; omega))
  dsimp only
  simp (disch := omega) only [bz_u_ne]
  rw [k7, k8, kg]
  refine ⟨trivial, hP _ (fr_v (fr_v (fr_v (fr_v (fr_v (fr_v (fr_v (fr_0 _ S) (by first | omega | (dsimp only; omega))) (by first | omega | (dsimp only; omega))) (by first | omega | (dsimp only; omega))) (by first | omega | (dsimp only; omega))) (by first | omega | (dsimp only; omega))) (by first | omega | (dsimp only; omega))) (by first | omega | (dsimp only; omega))) ?_ ?_⟩
  · have u : ∀ i, ¬ (894 + 3 * t ≤ i ∧ i ≤ 894 + 3 * t + 2) → ¬ (600 + 8 * r + 1 ≤ i ∧ i ≤ 600 + 8 * r + 3) → ¬ i = 10 → f_en3 s r bb e b n i = s i := fun i a b c => by
      unfold f_en3
      rw [et, nI_clamp (by omega)]
      simp (disch := omega) only [pk_un]
    refine wo_n (w := wv S.1 6) hg hw ?_ (fun a k h => ?_) (fun i hi => u i ?_ ?_ ?_)
    · unfold f_en3
      rw [et, nI_clamp (by omega)]
      exact sy_uu (a := 42 + 3 * r) (sy_uu (a := 42 + 3 * r) (sy_uu (a := 42 + 3 * r) (sy_uu (sy_uu (sy_uu (sy_uu hs (by omega) (tc_t3 t (by omega) 0 (by decide)) rfl) (by omega) (tc_t3 t (by omega) 1 (by decide)) rfl) (by omega) (tc_t3 t (by omega) 2 (by decide)) rfl) (by decide) (show tb_c 10 = some (11, 1) from rfl) rfl) (by omega) (tc_br r hr 1 (by decide)) (by omega)) (by omega) (tc_br r hr 2 (by decide)) (by omega)) (by omega) (tc_br r hr 3 (by decide)) (by omega)
    · unfold wv
      dsimp only
      simp (disch := omega) only [bz_u_ne]
    · unfold dR at hi; omega
    · unfold dR at hi; omega
    · unfold dR at hi; omega
  · dsimp only
    simp (disch := omega) only [bz_u_ne]
theorem f_cl_b (v : Int32) : bz_lt (f_cl v) 10000 := by
  unfold f_cl
  by_cases h : 0 ≤ v
  · rw [if_pos h]
    by_cases h2 : v ≤ 9999
    · rw [if_pos h2]
      obtain ⟨j, hj, e⟩ := nI_of (Int32.not_lt.mpr h)
      subst e
      have := (nI_leI (b := 9999) hj (by decide)).mp h2
      exact ⟨j, by omega, rfl⟩
    · rw [if_neg h2]
      exact ⟨9999, by decide, rfl⟩
  · rw [if_neg h]
    exact ⟨0, by decide, rfl⟩
theorem f_pf_b (s : Nat → Int32) (r o : Nat) (p e : Int32) (q : Option (Nat × (Nat → Nat))) : bz_lt (f_pf s r o p e q) 10000 := by
  unfold f_pf
  cases q with
  | none => exact ⟨0, by decide, rfl⟩
  | some q => exact f_cl_b _
/-- a trip's times -/
theorem f_ri_ge {s : Nat → Int32} {x : Int32} {b m a m' a' : Nat} (h : f_ri s x b (some (m, a)) = some (m', a')) : m ≤ m' := by
  have h3 : (f_wy s 16 a b).map (fun w => (m + f_leg x w, b)) = some (m', a') := h
  cases hw : f_wy s 16 a b with
  | none => rw [hw] at h3; cases h3
  | some w =>
    rw [hw] at h3
    have : m + f_leg x w = m' := congrArg Prod.fst (Option.some.inj h3)
    omega
theorem f_stp_ge {s : Nat → Int32} {x : Int32} {o1 o2 c m a m' a' : Nat} (h : f_stp s x o1 o2 c (some (m, a)) = some (m', a')) : m ≤ m' := by
  unfold f_stp at h
  generalize (if c < 2 then o1 else o2) = oo at h
  split at h
  · unfold f_pk at h
    cases hr : f_ri s x (f_ka s oo).toNatClampNeg (some (m, a)) with
    | none => rw [hr] at h; cases h
    | some q =>
      rw [hr] at h
      have e := congrArg Prod.fst (Option.some.inj h)
      have g := f_ri_ge (m' := q.1) (a' := q.2) hr
      dsimp only at e
      split at e <;> omega
  · exact f_ri_ge h
theorem f_wk_le {s : Nat → Int32} {x : Int32} {o1 o2 m a : Nat} {L : Nat → Nat} : ∀ {k e b : Nat}, (f_wk s x o1 o2 m a L k).1 = some (e, b) → ∀ i, i < k → (f_wk s x o1 o2 m a L k).2 (L i) ≤ e
  | 0, e, b, h, i, hi => absurd hi (by omega)
  | k + 1, e, b, h, i, hi => by
    rw [f_wk] at h ⊢
    dsimp only at h ⊢
    cases hk : (f_wk s x o1 o2 m a L k).1 with
    | none => rw [hk, f_stp_n] at h; cases h
    | some q =>
      obtain ⟨m1, a1⟩ := q
      rw [hk] at h
      have g := f_stp_ge h
      split
      · rw [h]
        exact Nat.le_refl _
      · next hne =>
        have hik : i < k := by
          rcases Nat.lt_or_ge i k with q | q
          · exact q
          · exact absurd (by rw [show i = k by omega]) hne
        have := f_wk_le hk i hik
        omega
theorem f_w_le {s : Nat → Int32} {x : Int32} {o1 o2 m a lb e b : Nat} (hlb : lb < 6) (h : (f_w s x o1 o2 m a lb).1 = some (e, b)) : ∀ c, c < 4 → (f_w s x o1 o2 m a lb).2 c ≤ e := by
  intro c hc
  obtain ⟨i, hi, ei⟩ := li_p lb hlb c hc
  have := f_wk_le h i hi
  rw [ei] at this
  exact this
theorem f_tp_le {s : Nat → Int32} {x : Int32} {a m o p e : Nat} (h : f_tp s x a m o = some (p, e)) : p ≤ e ∧ e ≤ 1439 := by
  unfold f_tp at h
  cases h1 : f_pk s x o (some (m, a)) with
  | none => rw [h1] at h; cases h
  | some q =>
    rw [h1] at h
    dsimp only at h
    cases h2 : f_dr s x o (some q) with
    | none => rw [h2] at h; cases h
    | some q' =>
      rw [h2] at h
      dsimp only at h
      split at h
      · next hq =>
        have u1 : q.1 = p := congrArg Prod.fst (Option.some.inj h)
        have u2 : q'.1 = e := congrArg Prod.snd (Option.some.inj h)
        have := f_ri_ge (m := q.1) (a := q.2) (m' := q'.1) (a' := q'.2) h2
        omega
      · cases h
theorem X_handOver {P : bz_H → Prop} {r o : Nat} {p e : Nat} {q : Option (Nat × (Nat → Nat))} (hr : r < 12) (hr3 : r < (s 3).toNatClampNeg) (ho : o < 24) (hpl : o < (s 2).toNatClampNeg) (ht : tw S s) (hq : tu S s 6 q) (hpe : p ≤ e ∧ e ≤ 1439) (h10 : (s 10).toNatClampNeg < 24) (v0 : S.1 176 0 = nI p) (v1 : S.1 176 1 = nI e) (v6 : S.1 175 6 = nI (f_bg s r)) (v7 : S.1 175 7 = nI e) (v8 : S.1 175 8 = s (312 + 12 * o + 1)) (hP : ∀ S', fr (fun c _ => c = 17 ∨ c = 18 ∨ (24 ≤ c ∧ c < 84) ∨ (175 ≤ c ∧ c ≤ 185)) S S' → (∀ q, q < 12 → S'.1 (48 + 3 * q) 0 = S.1 (48 + 3 * q) 0) → wo (wv S'.1 6) (f_bgv (f_ends s r (nI e) (s (312 + 12 * o + 1))) r o (nI p) (nI e) (f_pf s r o (nI p) (nI e) q)) → S'.1 (24 + o) 10 = nI e → P (bz_hp E S')) : bz_cV G l (d + 5) kX11_handOver [.inr (some 5), .inl (nI r), .inr (some (24 + o))] (bz_hp E S) 0 0 P := by
  refine m_X11_handOver _ _ _ _ ?_
  unfold w_X11_handOver_0
  have hg := tw_b ht
  have hb1 : bz_lt (nI p) 1440 := ⟨p, by omega, rfl⟩
  have hb2 : bz_lt (nI e) 1440 := ⟨e, by omega, rfl⟩
  repeat (first | ((with_reducible apply ap_rc); rfl) | ((with_reducible apply ap_nn)) | ((with_reducible apply ap_rR); rfl) | ((with_reducible apply M_ofOrder); rfl; (exact bz_lit _); omega; (first | omega | decide)) | ((with_reducible apply M_ofRider); rfl; (exact bz_lit _); omega; (first | omega | decide)) | ((with_reducible apply ap_rI); exact kd_ord _ (by omega) _ (by decide)) | ((with_reducible apply ap_wI); exact kd_ord _ (by omega) _ (by decide)) | ((with_reducible apply ap_rI); exact kd_rid _ (by omega) _ (by decide)) | ((with_reducible apply ap_wI); exact kd_rid _ (by omega) _ (by decide)) | ((with_reducible apply ap_rc); exact (kd_clO _ (by omega)).1) | ((with_reducible apply ap_rc); exact (kd_clR _ (by omega)).1) | ((with_reducible apply ap_rc); exact (kd_clR _ (by omega)).2.2.1) | ((with_reducible apply ap_rR); exact (kd_ridA _ (by omega)).1) | ((with_reducible apply ap_rN); rfl) | ((with_reducible apply M_in)) | ((with_reducible apply X_isWithin)) | ((with_reducible apply ap_rI); rfl) | ((with_reducible apply ap_wI); rfl) | ((with_reducible apply ap_iA); rfl; (try simp only [bz_lit, pk_mul, nI_add]); rfl; omega) | ((with_reducible apply ap_iW); rfl; (try simp only [bz_lit, pk_mul, nI_add]); rfl; omega))
  rw [v0, v1]
  refine X_wageFor hr ho hpl ht hq (fun S1 r1 => ?_)
  have ht1 := tw_f ht r1 (by intro c k h; first | omega | (dsimp only at h ⊢; omega) | (dsimp only at h; omega) | (dsimp only; omega))
  have hpf := f_pf_b s r o (nI p) (nI e) q
  repeat (first | ((with_reducible apply ap_rc); rfl) | ((with_reducible apply ap_nn)) | ((with_reducible apply ap_rR); rfl) | ((with_reducible apply M_ofOrder); rfl; (exact bz_lit _); omega; (first | omega | decide)) | ((with_reducible apply M_ofRider); rfl; (exact bz_lit _); omega; (first | omega | decide)) | ((with_reducible apply ap_rI); exact kd_ord _ (by omega) _ (by decide)) | ((with_reducible apply ap_wI); exact kd_ord _ (by omega) _ (by decide)) | ((with_reducible apply ap_rI); exact kd_rid _ (by omega) _ (by decide)) | ((with_reducible apply ap_wI); exact kd_rid _ (by omega) _ (by decide)) | ((with_reducible apply ap_rc); exact (kd_clO _ (by omega)).1) | ((with_reducible apply ap_rc); exact (kd_clR _ (by omega)).1) | ((with_reducible apply ap_rc); exact (kd_clR _ (by omega)).2.2.1) | ((with_reducible apply ap_rR); exact (kd_ridA _ (by omega)).1) | ((with_reducible apply ap_rN); rfl) | ((with_reducible apply M_in)) | ((with_reducible apply X_isWithin)) | ((with_reducible apply ap_rI); rfl) | ((with_reducible apply ap_wI); rfl) | ((with_reducible apply ap_iA); rfl; (try simp only [bz_lit, pk_mul, nI_add]); rfl; omega) | ((with_reducible apply ap_iW); rfl; (try simp only [bz_lit, pk_mul, nI_add]); rfl; omega))
  refine X_becomeGiven ho hpl hr hg hb1 hb2 hpf ht1.2 (fun S2 r2 w2 d2 => ?_)
  have z10 : f_bg0 s r o (nI p) (nI e) (f_pf s r o (nI p) (nI e) q) 10 = s 10 := by
    unfold f_bg0
    simp (disch := omega) only [pk_un]
  have z3 : f_bg0 s r o (nI p) (nI e) (f_pf s r o (nI p) (nI e) q) 3 = s 3 := by
    unfold f_bg0
    simp (disch := omega) only [pk_un]
  have a175 : ∀ k, S2.1 175 k = S.1 175 k := fun k => (r2.2 _ _ (by omega)).trans (r1.2 _ _ (by dsimp only; omega))
  repeat (first | ((with_reducible apply ap_rc); rfl) | ((with_reducible apply ap_nn)) | ((with_reducible apply ap_rR); rfl) | ((with_reducible apply M_ofOrder); rfl; (exact bz_lit _); omega; (first | omega | decide)) | ((with_reducible apply M_ofRider); rfl; (exact bz_lit _); omega; (first | omega | decide)) | ((with_reducible apply ap_rI); exact kd_ord _ (by omega) _ (by decide)) | ((with_reducible apply ap_wI); exact kd_ord _ (by omega) _ (by decide)) | ((with_reducible apply ap_rI); exact kd_rid _ (by omega) _ (by decide)) | ((with_reducible apply ap_wI); exact kd_rid _ (by omega) _ (by decide)) | ((with_reducible apply ap_rc); exact (kd_clO _ (by omega)).1) | ((with_reducible apply ap_rc); exact (kd_clR _ (by omega)).1) | ((with_reducible apply ap_rc); exact (kd_clR _ (by omega)).2.2.1) | ((with_reducible apply ap_rR); exact (kd_ridA _ (by omega)).1) | ((with_reducible apply ap_rN); rfl) | ((with_reducible apply M_in)) | ((with_reducible apply X_isWithin)) | ((with_reducible apply ap_rI); rfl) | ((with_reducible apply ap_wI); rfl) | ((with_reducible apply ap_iA); rfl; (try simp only [bz_lit, pk_mul, nI_add]); rfl; omega) | ((with_reducible apply ap_iW); rfl; (try simp only [bz_lit, pk_mul, nI_add]); rfl; omega))
  refine X_engage hr (by rw [z3]; exact hr3) (gd_b_bg0 hg hr ho hb1 hb2 hpf) w2 (by rw [z10]; exact h10) ((a175 6).trans v6) ((a175 7).trans v7) ((a175 8).trans v8) (fun S3 r3 w3 n3 => ?_)
  rw [f_xo hr ho] at w3
  refine ⟨rfl, hP S3 (fr_t (fr_m r1 (by intro c k h; first | omega | (dsimp only at h ⊢; omega) | (dsimp only at h; omega) | (dsimp only; omega))) (fr_t (fr_m r2 (by intro c k h; first | omega | (dsimp only at h ⊢; omega) | (dsimp only at h; omega) | (dsimp only; omega))) (fr_m r3 (by intro c k h; first | omega | (dsimp only at h ⊢; omega) | (dsimp only at h; omega) | (dsimp only; omega))))) (fun j hj => ?_) w3 ?_⟩
  · by_cases hjr : j = r
    · subst hjr
      rw [n3, r2.2 _ _ (by omega), r1.2 _ _ (by dsimp only; omega)]
    · rw [r3.2 _ _ (by dsimp only; omega), r2.2 _ _ (by omega), r1.2 _ _ (by dsimp only; omega)]
  · rw [r3.2 _ _ (by dsimp only; omega)]
    exact d2
theorem M_ends {P : bz_H → Prop} {r : Nat} (hr : r < 12) (hs : S.1 187 = s) (hg : gd_b s) (h10 : (s 10).toNatClampNeg < 24) (hP : ∀ S', fr (fun c _ => c = 187) S S' → S'.1 187 = f_ends s r (S.1 186 7) (S.1 186 6) → P (bz_hp E S')) : bz_cV G l (d + 3) kX12_ends [.inr (some 186), .inl (nI r)] (bz_hp E S) 0 0 P := by
  refine m_X12_ends _ _ _ ?_
  unfold w_X12_ends_0
  subst hs
  obtain ⟨t, ht', et⟩ : bz_lt (S.1 187 10) 25 := hg 10 (by decide) (by decide) (by decide)
  unfold f_ends at hP
  rw [et, nI_clamp (by omega)] at hP h10
  have b1 := hg
  repeat (first | ((with_reducible apply ap_rc); rfl) | ((with_reducible apply ap_nn)) | ((with_reducible apply ap_rR); rfl) | ((with_reducible apply M_ofOrder); rfl; (exact bz_lit _); omega; (first | omega | decide)) | ((with_reducible apply M_ofRider); rfl; (exact bz_lit _); omega; (first | omega | decide)) | ((with_reducible apply ap_rI); exact kd_ord _ (by omega) _ (by decide)) | ((with_reducible apply ap_wI); exact kd_ord _ (by omega) _ (by decide)) | ((with_reducible apply ap_rI); exact kd_rid _ (by omega) _ (by decide)) | ((with_reducible apply ap_wI); exact kd_rid _ (by omega) _ (by decide)) | ((with_reducible apply ap_rc); exact (kd_clO _ (by omega)).1) | ((with_reducible apply ap_rc); exact (kd_clR _ (by omega)).1) | ((with_reducible apply ap_rc); exact (kd_clR _ (by omega)).2.2.1) | ((with_reducible apply ap_rR); exact (kd_ridA _ (by omega)).1) | ((with_reducible apply ap_rN); rfl) | ((with_reducible apply M_in)) | ((with_reducible apply X_isWithin)) | ((with_reducible apply ap_rI); rfl) | ((with_reducible apply ap_wI); rfl) | ((with_reducible apply ap_iA); rfl; (try simp only [bz_lit, pk_mul, nI_add]); rfl; omega) | ((with_reducible apply ap_iW); rfl; (try simp only [bz_lit, pk_mul, nI_add]); rfl; omega))
  rw [et]
  repeat (first | ((with_reducible apply ap_rc); rfl) | ((with_reducible apply ap_nn)) | ((with_reducible apply ap_rR); rfl) | ((with_reducible apply M_ofOrder); rfl; (exact bz_lit _); omega; (first | omega | decide)) | ((with_reducible apply M_ofRider); rfl; (exact bz_lit _); omega; (first | omega | decide)) | ((with_reducible apply ap_rI); exact kd_ord _ (by omega) _ (by decide)) | ((with_reducible apply ap_wI); exact kd_ord _ (by omega) _ (by decide)) | ((with_reducible apply ap_rI); exact kd_rid _ (by omega) _ (by decide)) | ((with_reducible apply ap_wI); exact kd_rid _ (by omega) _ (by decide)) | ((with_reducible apply ap_rc); exact (kd_clO _ (by omega)).1) | ((with_reducible apply ap_rc); exact (kd_clR _ (by omega)).1) | ((with_reducible apply ap_rc); exact (kd_clR _ (by omega)).2.2.1) | ((with_reducible apply ap_rR); exact (kd_ridA _ (by omega)).1) | ((with_reducible apply ap_rN); rfl) | ((with_reducible apply M_in)) | ((with_reducible apply X_isWithin)) | ((with_reducible apply ap_rI); rfl) | ((with_reducible apply ap_wI); rfl) | ((with_reducible apply ap_iA); rfl; (try simp only [bz_lit, pk_mul, nI_add]); rfl; omega) | ((with_reducible apply ap_iW); rfl; (try simp only [bz_lit, pk_mul, nI_add]); rfl; omega))
  dsimp only
  rw [bz_u_ne _ _ (by omega), et]
  refine M_beginsAt (s := upd (S.1 187) (894 + 3 * t) (nI r)) hr (by dsimp only; rw [bz_u_row]) (gb_u hg (tb_bt t (by omega) 0 (by decide)) ⟨r, hr, rfl⟩) ?_
  have e1 : f_bg (upd (S.1 187) (894 + 3 * t) (nI r)) r = f_bg (S.1 187) r := by
    unfold f_bg
    simp (disch := omega) only [pk_un]
  rw [e1]
  repeat (first | ((with_reducible apply ap_rc); rfl) | ((with_reducible apply ap_nn)) | ((with_reducible apply ap_rR); rfl) | ((with_reducible apply M_ofOrder); rfl; (exact bz_lit _); omega; (first | omega | decide)) | ((with_reducible apply M_ofRider); rfl; (exact bz_lit _); omega; (first | omega | decide)) | ((with_reducible apply ap_rI); exact kd_ord _ (by omega) _ (by decide)) | ((with_reducible apply ap_wI); exact kd_ord _ (by omega) _ (by decide)) | ((with_reducible apply ap_rI); exact kd_rid _ (by omega) _ (by decide)) | ((with_reducible apply ap_wI); exact kd_rid _ (by omega) _ (by decide)) | ((with_reducible apply ap_rc); exact (kd_clO _ (by omega)).1) | ((with_reducible apply ap_rc); exact (kd_clR _ (by omega)).1) | ((with_reducible apply ap_rc); exact (kd_clR _ (by omega)).2.2.1) | ((with_reducible apply ap_rR); exact (kd_ridA _ (by omega)).1) | ((with_reducible apply ap_rN); rfl) | ((with_reducible apply M_in)) | ((with_reducible apply X_isWithin)) | ((with_reducible apply ap_rI); rfl) | ((with_reducible apply ap_wI); rfl) | ((with_reducible apply ap_iA); rfl; (try simp only [bz_lit, pk_mul, nI_add]); rfl; omega) | ((with_reducible apply ap_iW); rfl; (try simp only [bz_lit, pk_mul, nI_add]); rfl; omega))
  dsimp only
  rw [bz_u_ne _ _ (by omega), bz_u_ne _ _ (by omega), et]
  repeat (first | ((with_reducible apply ap_rc); rfl) | ((with_reducible apply ap_nn)) | ((with_reducible apply ap_rR); rfl) | ((with_reducible apply M_ofOrder); rfl; (exact bz_lit _); omega; (first | omega | decide)) | ((with_reducible apply M_ofRider); rfl; (exact bz_lit _); omega; (first | omega | decide)) | ((with_reducible apply ap_rI); exact kd_ord _ (by omega) _ (by decide)) | ((with_reducible apply ap_wI); exact kd_ord _ (by omega) _ (by decide)) | ((with_reducible apply ap_rI); exact kd_rid _ (by omega) _ (by decide)) | ((with_reducible apply ap_wI); exact kd_rid _ (by omega) _ (by decide)) | ((with_reducible apply ap_rc); exact (kd_clO _ (by omega)).1) | ((with_reducible apply ap_rc); exact (kd_clR _ (by omega)).1) | ((with_reducible apply ap_rc); exact (kd_clR _ (by omega)).2.2.1) | ((with_reducible apply ap_rR); exact (kd_ridA _ (by omega)).1) | ((with_reducible apply ap_rN); rfl) | ((with_reducible apply M_in)) | ((with_reducible apply X_isWithin)) | ((with_reducible apply ap_rI); rfl) | ((with_reducible apply ap_wI); rfl) | ((with_reducible apply ap_iA); rfl; (try simp only [bz_lit, pk_mul, nI_add]); rfl; omega) | ((with_reducible apply ap_iW); rfl; (try simp only [bz_lit, pk_mul, nI_add]); rfl; omega))
  dsimp only
  simp (disch := omega) only [bz_u_ne]
  rw [et]
  refine ⟨trivial, hP _ (fr_v (fr_v (fr_v (fr_v (fr_v (fr_v (fr_0 _ S) (by first | omega | (dsimp only; omega))) (by first | omega | (dsimp only; omega))) (by first | omega | (dsimp only; omega))) (by first | omega | (dsimp only; omega))) (by first | omega | (dsimp only; omega))) (by first | omega | (dsimp only; omega))) ?_⟩
  dsimp only
  simp only [bz_u_row]
theorem M_becomesGiven {P : bz_H → Prop} {r o w : Nat} {y v : Int32} (hy : y = nI w) (hw : w < 2) (hr : r < 12) (ho : o < 24) (hs : S.1 187 = s) (hP : ∀ S', fr (fun c _ => c = 187) S S' → S'.1 187 = f_bgv s r o (S.1 191 w) (S.1 192 w) v → P (bz_hp E S')) : bz_cV G l (d + 1) kX12_becomesGiven [.inr (some 186), .inl (nI r), .inl (nI o), .inl y, .inl v] (bz_hp E S) 0 0 P := by
  refine m_X12_becomesGiven _ _ _ _ _ _ ?_
  unfold w_X12_becomesGiven_0
  subst hs; subst hy
  unfold f_bgv at hP
  repeat (first | ((with_reducible apply ap_rc); rfl) | ((with_reducible apply ap_nn)) | ((with_reducible apply ap_rR); rfl) | ((with_reducible apply M_ofOrder); rfl; (exact bz_lit _); omega; (first | omega | decide)) | ((with_reducible apply M_ofRider); rfl; (exact bz_lit _); omega; (first | omega | decide)) | ((with_reducible apply ap_rI); exact kd_ord _ (by omega) _ (by decide)) | ((with_reducible apply ap_wI); exact kd_ord _ (by omega) _ (by decide)) | ((with_reducible apply ap_rI); exact kd_rid _ (by omega) _ (by decide)) | ((with_reducible apply ap_wI); exact kd_rid _ (by omega) _ (by decide)) | ((with_reducible apply ap_rc); exact (kd_clO _ (by omega)).1) | ((with_reducible apply ap_rc); exact (kd_clR _ (by omega)).1) | ((with_reducible apply ap_rc); exact (kd_clR _ (by omega)).2.2.1) | ((with_reducible apply ap_rR); exact (kd_ridA _ (by omega)).1) | ((with_reducible apply ap_rN); rfl) | ((with_reducible apply M_in)) | ((with_reducible apply X_isWithin)) | ((with_reducible apply ap_rI); rfl) | ((with_reducible apply ap_wI); rfl) | ((with_reducible apply ap_iA); rfl; (try simp only [bz_lit, pk_mul, nI_add]); rfl; omega) | ((with_reducible apply ap_iW); rfl; (try simp only [bz_lit, pk_mul, nI_add]); rfl; omega))
  dsimp only
  simp (disch := omega) only [bz_u_ne]
  refine ⟨trivial, hP _ (fr_v (fr_v (fr_v (fr_v (fr_v (fr_v (fr_0 _ S) (by first | omega | (dsimp only; omega))) (by first | omega | (dsimp only; omega))) (by first | omega | (dsimp only; omega))) (by first | omega | (dsimp only; omega))) (by first | omega | (dsimp only; omega))) (by first | omega | (dsimp only; omega))) ?_⟩
  dsimp only
  simp only [bz_u_row]
theorem M_gives {P : Int32 → bz_H → Prop} {r o p e : Nat} {q : Option (Nat × (Nat → Nat))} (hr : r < 12) (ho : o < 24) (hs : S.1 187 = s) (hg : gd_b s) (hf : fd S) (hq : tu S s 6 q) (h10 : (s 10).toNatClampNeg < 24) (v0 : S.1 191 0 = nI p) (v1 : S.1 192 0 = nI e) (v7 : S.1 186 7 = nI e) (v6 : S.1 186 6 = s (312 + 12 * o + 1)) (hP : ∀ S', fr (fun c k => c = 187 ∨ c = 190 ∨ c = 195 ∨ c = 196 ∨ (c = 186 ∧ k = 5)) S S' → fd S' → S'.1 187 = f_bgv (f_ends s r (nI e) (s (312 + 12 * o + 1))) r o (nI p) (nI e) (f_pf s r o (nI p) (nI e) q) → P (nI e) (bz_hp E S')) : bz_cI G l (d + 9) kX12_gives [.inr (some 186), .inl (nI r), .inl (nI o)] (bz_hp E S) 0 0 P := by
  refine m_X12_gives _ _ _ _ ?_
  unfold w_X12_gives_0
  repeat (first | ((with_reducible apply ap_rc); rfl) | ((with_reducible apply ap_nn)) | ((with_reducible apply ap_rR); rfl) | ((with_reducible apply M_ofOrder); rfl; (exact bz_lit _); omega; (first | omega | decide)) | ((with_reducible apply M_ofRider); rfl; (exact bz_lit _); omega; (first | omega | decide)) | ((with_reducible apply ap_rI); exact kd_ord _ (by omega) _ (by decide)) | ((with_reducible apply ap_wI); exact kd_ord _ (by omega) _ (by decide)) | ((with_reducible apply ap_rI); exact kd_rid _ (by omega) _ (by decide)) | ((with_reducible apply ap_wI); exact kd_rid _ (by omega) _ (by decide)) | ((with_reducible apply ap_rc); exact (kd_clO _ (by omega)).1) | ((with_reducible apply ap_rc); exact (kd_clR _ (by omega)).1) | ((with_reducible apply ap_rc); exact (kd_clR _ (by omega)).2.2.1) | ((with_reducible apply ap_rR); exact (kd_ridA _ (by omega)).1) | ((with_reducible apply ap_rN); rfl) | ((with_reducible apply M_in)) | ((with_reducible apply X_isWithin)) | ((with_reducible apply ap_rI); rfl) | ((with_reducible apply ap_wI); rfl) | ((with_reducible apply ap_iA); rfl; (try simp only [bz_lit, pk_mul, nI_add]); rfl; omega) | ((with_reducible apply ap_iW); rfl; (try simp only [bz_lit, pk_mul, nI_add]); rfl; omega))
  refine M_payFor (w := 0) rfl (by decide) hr ho hs hg hf hq (fun S1 r1 f1 => ?_)
  rw [v0, v1]
  have e1 : S1.1 187 = s := (fr_c r1 (fun k => by omega)).trans hs
  have a7 : S1.1 186 7 = nI e := (r1.2 _ _ (by omega)).trans v7
  have a6 : S1.1 186 6 = s (312 + 12 * o + 1) := (r1.2 _ _ (by omega)).trans v6
  repeat (first | ((with_reducible apply ap_rc); rfl) | ((with_reducible apply ap_nn)) | ((with_reducible apply ap_rR); rfl) | ((with_reducible apply M_ofOrder); rfl; (exact bz_lit _); omega; (first | omega | decide)) | ((with_reducible apply M_ofRider); rfl; (exact bz_lit _); omega; (first | omega | decide)) | ((with_reducible apply ap_rI); exact kd_ord _ (by omega) _ (by decide)) | ((with_reducible apply ap_wI); exact kd_ord _ (by omega) _ (by decide)) | ((with_reducible apply ap_rI); exact kd_rid _ (by omega) _ (by decide)) | ((with_reducible apply ap_wI); exact kd_rid _ (by omega) _ (by decide)) | ((with_reducible apply ap_rc); exact (kd_clO _ (by omega)).1) | ((with_reducible apply ap_rc); exact (kd_clR _ (by omega)).1) | ((with_reducible apply ap_rc); exact (kd_clR _ (by omega)).2.2.1) | ((with_reducible apply ap_rR); exact (kd_ridA _ (by omega)).1) | ((with_reducible apply ap_rN); rfl) | ((with_reducible apply M_in)) | ((with_reducible apply X_isWithin)) | ((with_reducible apply ap_rI); rfl) | ((with_reducible apply ap_wI); rfl) | ((with_reducible apply ap_iA); rfl; (try simp only [bz_lit, pk_mul, nI_add]); rfl; omega) | ((with_reducible apply ap_iW); rfl; (try simp only [bz_lit, pk_mul, nI_add]); rfl; omega))
  refine M_ends hr e1 hg h10 (fun S2 r2 e2 => ?_)
  rw [a7, a6] at e2
  repeat (first | ((with_reducible apply ap_rc); rfl) | ((with_reducible apply ap_nn)) | ((with_reducible apply ap_rR); rfl) | ((with_reducible apply M_ofOrder); rfl; (exact bz_lit _); omega; (first | omega | decide)) | ((with_reducible apply M_ofRider); rfl; (exact bz_lit _); omega; (first | omega | decide)) | ((with_reducible apply ap_rI); exact kd_ord _ (by omega) _ (by decide)) | ((with_reducible apply ap_wI); exact kd_ord _ (by omega) _ (by decide)) | ((with_reducible apply ap_rI); exact kd_rid _ (by omega) _ (by decide)) | ((with_reducible apply ap_wI); exact kd_rid _ (by omega) _ (by decide)) | ((with_reducible apply ap_rc); exact (kd_clO _ (by omega)).1) | ((with_reducible apply ap_rc); exact (kd_clR _ (by omega)).1) | ((with_reducible apply ap_rc); exact (kd_clR _ (by omega)).2.2.1) | ((with_reducible apply ap_rR); exact (kd_ridA _ (by omega)).1) | ((with_reducible apply ap_rN); rfl) | ((with_reducible apply M_in)) | ((with_reducible apply X_isWithin)) | ((with_reducible apply ap_rI); rfl) | ((with_reducible apply ap_wI); rfl) | ((with_reducible apply ap_iA); rfl; (try simp only [bz_lit, pk_mul, nI_add]); rfl; omega) | ((with_reducible apply ap_iW); rfl; (try simp only [bz_lit, pk_mul, nI_add]); rfl; omega))
  refine M_becomesGiven (w := 0) rfl (by decide) hr ho e2 (fun S3 r3 e3 => ?_)
  have b0 : S2.1 191 0 = nI p := (r2.2 _ _ (by omega)).trans ((r1.2 _ _ (by omega)).trans v0)
  have b1 : S2.1 192 0 = nI e := (r2.2 _ _ (by omega)).trans ((r1.2 _ _ (by omega)).trans v1)
  rw [b0, b1] at e3
  repeat (first | ((with_reducible apply ap_rc); rfl) | ((with_reducible apply ap_nn)) | ((with_reducible apply ap_rR); rfl) | ((with_reducible apply M_ofOrder); rfl; (exact bz_lit _); omega; (first | omega | decide)) | ((with_reducible apply M_ofRider); rfl; (exact bz_lit _); omega; (first | omega | decide)) | ((with_reducible apply ap_rI); exact kd_ord _ (by omega) _ (by decide)) | ((with_reducible apply ap_wI); exact kd_ord _ (by omega) _ (by decide)) | ((with_reducible apply ap_rI); exact kd_rid _ (by omega) _ (by decide)) | ((with_reducible apply ap_wI); exact kd_rid _ (by omega) _ (by decide)) | ((with_reducible apply ap_rc); exact (kd_clO _ (by omega)).1) | ((with_reducible apply ap_rc); exact (kd_clR _ (by omega)).1) | ((with_reducible apply ap_rc); exact (kd_clR _ (by omega)).2.2.1) | ((with_reducible apply ap_rR); exact (kd_ridA _ (by omega)).1) | ((with_reducible apply ap_rN); rfl) | ((with_reducible apply M_in)) | ((with_reducible apply X_isWithin)) | ((with_reducible apply ap_rI); rfl) | ((with_reducible apply ap_wI); rfl) | ((with_reducible apply ap_iA); rfl; (try simp only [bz_lit, pk_mul, nI_add]); rfl; omega) | ((with_reducible apply ap_iW); rfl; (try simp only [bz_lit, pk_mul, nI_add]); rfl; omega))
  rw [r3.2 192 0 (by omega), b1]
  refine ⟨_, rfl, hP S3 (fr_t (fr_m r1 (by intro c k h; first | omega | (dsimp only at h ⊢; omega) | (dsimp only at h; omega) | (dsimp only; omega))) (fr_t (fr_m r2 (by intro c k h; first | omega | (dsimp only at h ⊢; omega) | (dsimp only at h; omega) | (dsimp only; omega))) (fr_m r3 (by intro c k h; first | omega | (dsimp only at h ⊢; omega) | (dsimp only at h; omega) | (dsimp only; omega))))) ?_ e3⟩
  refine fd_s f1 ?_ ?_ (fun i hi => ?_)
  · rw [r3.2 _ _ (by omega), r2.2 _ _ (by omega)]
  · funext k
    rw [r3.2 _ _ (by omega), r2.2 _ _ (by omega)]
  · rw [e3, e1]
    unfold f_bgv f_ends
    simp (disch := omega) only [pk_un]
end GFT
