/-! the reference's nights -/
abbrev tM (c k : Nat) : Prop := c = 190 ∨ c = 191 ∨ c = 192 ∨ c = 195 ∨ c = 196 ∨ (197 ≤ c ∧ c ≤ 200) ∨ (c = 186 ∧ ((5 ≤ k ∧ k ≤ 8) ∨ k = 28 ∨ k = 29))
section MNI
variable {G : bz_G} {l : Launch} {d : Nat} {E : Nat × (Nat → Int32)} {S : bz_S} {s : Nat → Int32}
theorem M_nightTrip {P : Int32 → bz_H → Prop} {y : Int32} {r o m : Nat} {v : Nv} (hy : y = nI r) (hr : r < 12) (hrm : r < m) (ho : o < 24) (hs : S.1 187 = s) (hg : gd_b s) (hf : fd S) (hv : nr S m v) (hb : nb s v o) (hP : ∀ S', fr tX S S' → fd S' → (∀ p e, f_np s v r o = some (p, e) → S'.1 192 0 = nI e ∧ S'.1 186 7 = nI e ∧ S'.1 186 6 = s (312 + 12 * o + 1)) → P (f_ok (f_np s v r o)) (bz_hp E S')) : bz_cI G l (d + 7) kX12_nightTrip [.inr (some 186), .inl y, .inl (nI o)] (bz_hp E S) 0 0 P := by
  refine m_X12_nightTrip _ _ _ _ ?_
  unfold w_X12_nightTrip_0
  subst hy; subst hs
  obtain ⟨p, hpp, ep⟩ : bz_lt (S.1 187 (312 + 12 * o + 2)) 1440 := gb_o hg ho 2 (by decide)
  obtain ⟨v1, v2, v3⟩ := hv r hrm
  obtain ⟨b1, b2, b3⟩ := hb.1 r hr
  have hbl := f_nb_l hg ho hr hb
  have hP' : ∀ S', fr tX S S' → fd S' → (∀ p e, f_np (S.1 187) v r o = some (p, e) → S'.1 191 0 = nI p ∧ S'.1 192 0 = nI e ∧ S'.1 186 7 = nI e ∧ S'.1 186 6 = S.1 187 (312 + 12 * o + 1)) → P (f_ok (f_np (S.1 187) v r o)) (bz_hp E S') := fun S' r1 f1 q => hP S' r1 f1 (fun p e h => (q p e h).2)
  repeat (first | ((with_reducible apply ap_rc); rfl) | ((with_reducible apply ap_nn)) | ((with_reducible apply ap_rR); rfl) | ((with_reducible apply M_ofOrder); rfl; (exact bz_lit _); omega; (first | omega | decide)) | ((with_reducible apply M_ofRider); rfl; (exact bz_lit _); omega; (first | omega | decide)) | ((with_reducible apply ap_rI); exact kd_ord _ (by omega) _ (by decide)) | ((with_reducible apply ap_wI); exact kd_ord _ (by omega) _ (by decide)) | ((with_reducible apply ap_rI); exact kd_rid _ (by omega) _ (by decide)) | ((with_reducible apply ap_wI); exact kd_rid _ (by omega) _ (by decide)) | ((with_reducible apply ap_rc); exact (kd_clO _ (by omega)).1) | ((with_reducible apply ap_rc); exact (kd_clR _ (by omega)).1) | ((with_reducible apply ap_rc); exact (kd_clR _ (by omega)).2.2.1) | ((with_reducible apply ap_rR); exact (kd_ridA _ (by omega)).1) | ((with_reducible apply ap_rN); rfl) | ((with_reducible apply M_in)) | ((with_reducible apply X_isWithin)) | ((with_reducible apply ap_rI); rfl) | ((with_reducible apply ap_wI); rfl) | ((with_reducible apply ap_iA); rfl; (try simp only [bz_lit, pk_mul, nI_add]); rfl; omega) | ((with_reducible apply ap_iW); rfl; (try simp only [bz_lit, pk_mul, nI_add]); rfl; omega))
  rw [v1, v2, ep]
  have en : f_nb (S.1 187) v r o = (if v.2.1 r ≤ p then p else v.2.1 r) := by
    unfold f_nb
    rw [ep, nI_clamp (by omega)]
  refine ⟨fun c => ?_, fun c => ?_⟩
  · have c' := (nI_leI (by omega) (by omega)).mp c
    rw [if_pos c'] at en
    repeat (first | ((with_reducible apply ap_rc); rfl) | ((with_reducible apply ap_nn)) | ((with_reducible apply ap_rR); rfl) | ((with_reducible apply M_ofOrder); rfl; (exact bz_lit _); omega; (first | omega | decide)) | ((with_reducible apply M_ofRider); rfl; (exact bz_lit _); omega; (first | omega | decide)) | ((with_reducible apply ap_rI); exact kd_ord _ (by omega) _ (by decide)) | ((with_reducible apply ap_wI); exact kd_ord _ (by omega) _ (by decide)) | ((with_reducible apply ap_rI); exact kd_rid _ (by omega) _ (by decide)) | ((with_reducible apply ap_wI); exact kd_rid _ (by omega) _ (by decide)) | ((with_reducible apply ap_rc); exact (kd_clO _ (by omega)).1) | ((with_reducible apply ap_rc); exact (kd_clR _ (by omega)).1) | ((with_reducible apply ap_rc); exact (kd_clR _ (by omega)).2.2.1) | ((with_reducible apply ap_rR); exact (kd_ridA _ (by omega)).1) | ((with_reducible apply ap_rN); rfl) | ((with_reducible apply M_in)) | ((with_reducible apply X_isWithin)) | ((with_reducible apply ap_rI); rfl) | ((with_reducible apply ap_wI); rfl) | ((with_reducible apply ap_iA); rfl; (try simp only [bz_lit, pk_mul, nI_add]); rfl; omega) | ((with_reducible apply ap_iW); rfl; (try simp only [bz_lit, pk_mul, nI_add]); rfl; omega))
    exact M_tripFrom rfl (by rw [en]) ho b1 (by omega) rfl hg hf (fun S' r1 f1 q => ⟨f_ok01 _, _, rfl, hP' S' r1 f1 q⟩)
  · have c' : ¬ v.2.1 r ≤ p := fun q => c ((nI_leI (by omega) (by omega)).mpr q)
    rw [if_neg c'] at en
    repeat (first | ((with_reducible apply ap_rc); rfl) | ((with_reducible apply ap_nn)) | ((with_reducible apply ap_rR); rfl) | ((with_reducible apply M_ofOrder); rfl; (exact bz_lit _); omega; (first | omega | decide)) | ((with_reducible apply M_ofRider); rfl; (exact bz_lit _); omega; (first | omega | decide)) | ((with_reducible apply ap_rI); exact kd_ord _ (by omega) _ (by decide)) | ((with_reducible apply ap_wI); exact kd_ord _ (by omega) _ (by decide)) | ((with_reducible apply ap_rI); exact kd_rid _ (by omega) _ (by decide)) | ((with_reducible apply ap_wI); exact kd_rid _ (by omega) _ (by decide)) | ((with_reducible apply ap_rc); exact (kd_clO _ (by omega)).1) | ((with_reducible apply ap_rc); exact (kd_clR _ (by omega)).1) | ((with_reducible apply ap_rc); exact (kd_clR _ (by omega)).2.2.1) | ((with_reducible apply ap_rR); exact (kd_ridA _ (by omega)).1) | ((with_reducible apply ap_rN); rfl) | ((with_reducible apply M_in)) | ((with_reducible apply X_isWithin)) | ((with_reducible apply ap_rI); rfl) | ((with_reducible apply ap_wI); rfl) | ((with_reducible apply ap_iA); rfl; (try simp only [bz_lit, pk_mul, nI_add]); rfl; omega) | ((with_reducible apply ap_iW); rfl; (try simp only [bz_lit, pk_mul, nI_add]); rfl; omega))
    rw [v2]
    exact M_tripFrom rfl (by rw [en]) ho b1 (by omega) rfl hg hf (fun S' r1 f1 q => ⟨f_ok01 _, _, rfl, hP' S' r1 f1 q⟩)
theorem M_nightRider {P : Int32 → bz_H → Prop} {o t n m : Nat} {g : Nat → Nat} {v : Nv} (ho : o < 24) (hs : S.1 187 = s) (hg : gd_b s) (hf : fd S) (hm : m = (s 3).toNatClampNeg) (hv : nr S m v) (hb : nb s v o) (ht8 : t < 8) (htg : tg s t n g) (hwf : wfm g n) (hP : ∀ S', fr tN S S' → fd S' → P (f_bi (f_bf (f_nk s n g v o) m)) (bz_hp E S')) : bz_cI G l (d + 9) kX12_nightRider [.inr (some 186), .inl (nI t), .inl (nI o)] (bz_hp E S) 0 0 P := by
  refine m_X12_nightRider _ _ _ _ (fun κ bc bs hl => ?_)
  unfold w_X12_nightRider_0
  obtain ⟨m3, hm3, em3⟩ : bz_lt (s 3) 13 := hg 3 (by decide) (by decide) (by decide)
  have hmm : m = m3 := by rw [hm, em3, nI_clamp (by omega)]
  subst hmm
  have main := bz_for (n := m) (Q := fun k => ∀ (S1 : bz_S) (u6 u7 : Option bz_V), fr tN S S1 → fd S1 → bz_J G κ kX12_nightRider (d + 8 + 1) (fun v h' => ∃ x, v = some (.inl x) ∧ P x h') bc bs 8 [some (.inr (some 186)), some (.inl (nI t)), some (.inl (nI o)), some (.inl (f_bi (f_bf (f_nk s n g v o) k))), some (.inl (f_bm (f_bf (f_nk s n g v o) k))), some (.inl (nI k)), u6, u7] [] (bz_hp E S1)) (fun k hk ih S1 u6 u7 r1 f1 => ?_) ?_
  · exact main S none none (fr_r _ S) hf
  · have e1 : S1.1 187 = s := (fr_c r1 (fun k => by omega)).trans hs
    have hv1 : nr S1 m v := nr_f hv r1 (by intro c k h; first | omega | (dsimp only at h ⊢; omega) | (dsimp only at h; omega) | (dsimp only; omega))
    have hk12 : k < 12 := by omega
    obtain ⟨b1, b2, b3⟩ := hb.1 k hk12
    rw [nI_succ] at ih
    refine g_X12_nightRider_8 hl _ _ _ _ _ _ _ _ _ ?_
    unfold w_X12_nightRider_8
    repeat (first | ((with_reducible apply ap_rc); rfl) | ((with_reducible apply ap_nn)) | ((with_reducible apply ap_rR); rfl) | ((with_reducible apply M_ofOrder); rfl; (exact bz_lit _); omega; (first | omega | decide)) | ((with_reducible apply M_ofRider); rfl; (exact bz_lit _); omega; (first | omega | decide)) | ((with_reducible apply ap_rI); exact kd_ord _ (by omega) _ (by decide)) | ((with_reducible apply ap_wI); exact kd_ord _ (by omega) _ (by decide)) | ((with_reducible apply ap_rI); exact kd_rid _ (by omega) _ (by decide)) | ((with_reducible apply ap_wI); exact kd_rid _ (by omega) _ (by decide)) | ((with_reducible apply ap_rc); exact (kd_clO _ (by omega)).1) | ((with_reducible apply ap_rc); exact (kd_clR _ (by omega)).1) | ((with_reducible apply ap_rc); exact (kd_clR _ (by omega)).2.2.1) | ((with_reducible apply ap_rR); exact (kd_ridA _ (by omega)).1) | ((with_reducible apply ap_rN); rfl) | ((with_reducible apply M_in)) | ((with_reducible apply X_isWithin)) | ((with_reducible apply ap_rI); rfl) | ((with_reducible apply ap_wI); rfl) | ((with_reducible apply ap_iA); rfl; (try simp only [bz_lit, pk_mul, nI_add]); rfl; omega) | ((with_reducible apply ap_iW); rfl; (try simp only [bz_lit, pk_mul, nI_add]); rfl; omega))
    rw [e1, em3]
    refine ⟨fun c => absurd ((nI_leI (by omega) (by omega)).mp c) (by omega), fun _ => ?_⟩
    repeat (first | ((with_reducible apply ap_rc); rfl) | ((with_reducible apply ap_nn)) | ((with_reducible apply ap_rR); rfl) | ((with_reducible apply M_ofOrder); rfl; (exact bz_lit _); omega; (first | omega | decide)) | ((with_reducible apply M_ofRider); rfl; (exact bz_lit _); omega; (first | omega | decide)) | ((with_reducible apply ap_rI); exact kd_ord _ (by omega) _ (by decide)) | ((with_reducible apply ap_wI); exact kd_ord _ (by omega) _ (by decide)) | ((with_reducible apply ap_rI); exact kd_rid _ (by omega) _ (by decide)) | ((with_reducible apply ap_wI); exact kd_rid _ (by omega) _ (by decide)) | ((with_reducible apply ap_rc); exact (kd_clO _ (by omega)).1) | ((with_reducible apply ap_rc); exact (kd_clR _ (by omega)).1) | ((with_reducible apply ap_rc); exact (kd_clR _ (by omega)).2.2.1) | ((with_reducible apply ap_rR); exact (kd_ridA _ (by omega)).1) | ((with_reducible apply ap_rN); rfl) | ((with_reducible apply M_in)) | ((with_reducible apply X_isWithin)) | ((with_reducible apply ap_rI); rfl) | ((with_reducible apply ap_wI); rfl) | ((with_reducible apply ap_iA); rfl; (try simp only [bz_lit, pk_mul, nI_add]); rfl; omega) | ((with_reducible apply ap_iW); rfl; (try simp only [bz_lit, pk_mul, nI_add]); rfl; omega))
    rw [e1]
    refine ⟨fun c => ?_, fun c => ?_⟩
    · rw [f_bf_n (show f_nk s n g v o k = none from if_pos c)] at ih
      exact ih S1 _ _ r1 f1
    · have hok : f_nk s n g v o k = (f_np s v k o).map (fun q => f_st (f_env s (s (600 + 8 * k + 0)) (v.1 k) o 0 (nI (v.2.2.1 k)) 25 (f_lateBy s o (nI q.2)) (nI k)) g n 0) := if_neg c
      repeat (first | ((with_reducible apply ap_rc); rfl) | ((with_reducible apply ap_nn)) | ((with_reducible apply ap_rR); rfl) | ((with_reducible apply M_ofOrder); rfl; (exact bz_lit _); omega; (first | omega | decide)) | ((with_reducible apply M_ofRider); rfl; (exact bz_lit _); omega; (first | omega | decide)) | ((with_reducible apply ap_rI); exact kd_ord _ (by omega) _ (by decide)) | ((with_reducible apply ap_wI); exact kd_ord _ (by omega) _ (by decide)) | ((with_reducible apply ap_rI); exact kd_rid _ (by omega) _ (by decide)) | ((with_reducible apply ap_wI); exact kd_rid _ (by omega) _ (by decide)) | ((with_reducible apply ap_rc); exact (kd_clO _ (by omega)).1) | ((with_reducible apply ap_rc); exact (kd_clR _ (by omega)).1) | ((with_reducible apply ap_rc); exact (kd_clR _ (by omega)).2.2.1) | ((with_reducible apply ap_rR); exact (kd_ridA _ (by omega)).1) | ((with_reducible apply ap_rN); rfl) | ((with_reducible apply M_in)) | ((with_reducible apply X_isWithin)) | ((with_reducible apply ap_rI); rfl) | ((with_reducible apply ap_wI); rfl) | ((with_reducible apply ap_iA); rfl; (try simp only [bz_lit, pk_mul, nI_add]); rfl; omega) | ((with_reducible apply ap_iW); rfl; (try simp only [bz_lit, pk_mul, nI_add]); rfl; omega))
      refine M_nightTrip rfl hk12 hk ho e1 hg f1 hv1 hb (fun S2 r2 f2 v2 => ?_)
      have e2 : S2.1 187 = s := (fr_c r2 (fun k => by omega)).trans e1
      have hv2 : nr S2 m v := nr_f hv1 r2 (by intro c k h; first | omega | (dsimp only at h ⊢; omega) | (dsimp only at h; omega) | (dsimp only; omega))
      cases h : f_np s v k o with
      | none =>
        rw [h] at hok
        rw [f_bf_n hok] at ih
        exact ⟨fun c2 => absurd rfl c2, fun _ => ih S2 _ _ (fr_t r1 (fr_m r2 (by intro c k h; first | omega | (dsimp only at h ⊢; omega) | (dsimp only at h; omega) | (dsimp only; omega)))) f2⟩
      | some q =>
        rw [h] at hok
        have v192 := (v2 q.1 q.2 h).1
        refine ⟨fun _ => ?_, fun c2 => absurd c2 (f_ok_1 _)⟩
        repeat (first | ((with_reducible apply ap_rc); rfl) | ((with_reducible apply ap_nn)) | ((with_reducible apply ap_rR); rfl) | ((with_reducible apply M_ofOrder); rfl; (exact bz_lit _); omega; (first | omega | decide)) | ((with_reducible apply M_ofRider); rfl; (exact bz_lit _); omega; (first | omega | decide)) | ((with_reducible apply ap_rI); exact kd_ord _ (by omega) _ (by decide)) | ((with_reducible apply ap_wI); exact kd_ord _ (by omega) _ (by decide)) | ((with_reducible apply ap_rI); exact kd_rid _ (by omega) _ (by decide)) | ((with_reducible apply ap_wI); exact kd_rid _ (by omega) _ (by decide)) | ((with_reducible apply ap_rc); exact (kd_clO _ (by omega)).1) | ((with_reducible apply ap_rc); exact (kd_clR _ (by omega)).1) | ((with_reducible apply ap_rc); exact (kd_clR _ (by omega)).2.2.1) | ((with_reducible apply ap_rR); exact (kd_ridA _ (by omega)).1) | ((with_reducible apply ap_rN); rfl) | ((with_reducible apply M_in)) | ((with_reducible apply X_isWithin)) | ((with_reducible apply ap_rI); rfl) | ((with_reducible apply ap_wI); rfl) | ((with_reducible apply ap_iA); rfl; (try simp only [bz_lit, pk_mul, nI_add]); rfl; omega) | ((with_reducible apply ap_iW); rfl; (try simp only [bz_lit, pk_mul, nI_add]); rfl; omega))
        rw [(hv2 k hk).1]
        refine M_nameWays rfl ho b1 e2 hg f2 (fun S3 r3 f3 v100 v99 => ?_)
        have e3 : S3.1 187 = s := (fr_c r3 (fun k => by omega)).trans e2
        have w192 : S3.1 192 0 = nI q.2 := (r3.2 192 0 (by omega)).trans v192
        have w199 : S3.1 199 k = nI (v.2.2.1 k) := (r3.2 199 k (by omega)).trans (hv2 k hk).2.2
        repeat (first | ((with_reducible apply ap_rc); rfl) | ((with_reducible apply ap_nn)) | ((with_reducible apply ap_rR); rfl) | ((with_reducible apply M_ofOrder); rfl; (exact bz_lit _); omega; (first | omega | decide)) | ((with_reducible apply M_ofRider); rfl; (exact bz_lit _); omega; (first | omega | decide)) | ((with_reducible apply ap_rI); exact kd_ord _ (by omega) _ (by decide)) | ((with_reducible apply ap_wI); exact kd_ord _ (by omega) _ (by decide)) | ((with_reducible apply ap_rI); exact kd_rid _ (by omega) _ (by decide)) | ((with_reducible apply ap_wI); exact kd_rid _ (by omega) _ (by decide)) | ((with_reducible apply ap_rc); exact (kd_clO _ (by omega)).1) | ((with_reducible apply ap_rc); exact (kd_clR _ (by omega)).1) | ((with_reducible apply ap_rc); exact (kd_clR _ (by omega)).2.2.1) | ((with_reducible apply ap_rR); exact (kd_ridA _ (by omega)).1) | ((with_reducible apply ap_rN); rfl) | ((with_reducible apply M_in)) | ((with_reducible apply X_isWithin)) | ((with_reducible apply ap_rI); rfl) | ((with_reducible apply ap_wI); rfl) | ((with_reducible apply ap_iA); rfl; (try simp only [bz_lit, pk_mul, nI_add]); rfl; omega) | ((with_reducible apply ap_iW); rfl; (try simp only [bz_lit, pk_mul, nI_add]); rfl; omega))
        dsimp only
        simp (disch := omega) only [bz_u_ne]
        rw [w192, w199]
        refine M_lateBy ho ?_
        dsimp only
        rw [bz_u_cell _ _ _ (by decide), bz_u_cell _ _ _ (by decide), bz_u_cell _ _ _ (by decide), e3]
        repeat (first | ((with_reducible apply ap_rc); rfl) | ((with_reducible apply ap_nn)) | ((with_reducible apply ap_rR); rfl) | ((with_reducible apply M_ofOrder); rfl; (exact bz_lit _); omega; (first | omega | decide)) | ((with_reducible apply M_ofRider); rfl; (exact bz_lit _); omega; (first | omega | decide)) | ((with_reducible apply ap_rI); exact kd_ord _ (by omega) _ (by decide)) | ((with_reducible apply ap_wI); exact kd_ord _ (by omega) _ (by decide)) | ((with_reducible apply ap_rI); exact kd_rid _ (by omega) _ (by decide)) | ((with_reducible apply ap_wI); exact kd_rid _ (by omega) _ (by decide)) | ((with_reducible apply ap_rc); exact (kd_clO _ (by omega)).1) | ((with_reducible apply ap_rc); exact (kd_clR _ (by omega)).1) | ((with_reducible apply ap_rc); exact (kd_clR _ (by omega)).2.2.1) | ((with_reducible apply ap_rR); exact (kd_ridA _ (by omega)).1) | ((with_reducible apply ap_rN); rfl) | ((with_reducible apply M_in)) | ((with_reducible apply X_isWithin)) | ((with_reducible apply ap_rI); rfl) | ((with_reducible apply ap_wI); rfl) | ((with_reducible apply ap_iA); rfl; (try simp only [bz_lit, pk_mul, nI_add]); rfl; omega) | ((with_reducible apply ap_iW); rfl; (try simp only [bz_lit, pk_mul, nI_add]); rfl; omega))
        have r4 : fr (fun c k => c = 195) S3 (bz_u (bz_u (bz_u (bz_u (bz_u S3.1 195 119 0) 195 104 (nI (v.2.2.1 k))) 195 114 25) 195 108 (f_lateBy s o (nI q.2))) 195 110 (nI k), S3.2) := fr_v (fr_v (fr_v (fr_v (fr_v (fr_0 _ S3) (by first | omega | (dsimp only; omega))) (by first | omega | (dsimp only; omega))) (by first | omega | (dsimp only; omega))) (by first | omega | (dsimp only; omega))) (by first | omega | (dsimp only; omega))
        refine M_works (s := s) (v := f_env s (s (600 + 8 * k + 0)) (v.1 k) o 0 (nI (v.2.2.1 k)) 25 (f_lateBy s o (nI q.2)) (nI k)) rfl ht8 ((fr_c r4 (fun k => by omega)).trans e3) htg hwf ?_ (fun S4 r5 => ?_)
        · refine nm_7 ?_ ?_ ?_ ?_ ?_ ?_ ?_
          · simp (disch := omega) only [bz_u_same, bz_u_ne]
            exact v100
          · simp (disch := omega) only [bz_u_same, bz_u_ne]
            rfl
          · simp (disch := omega) only [bz_u_same, bz_u_ne]
            rfl
          · simp (disch := omega) only [bz_u_same, bz_u_ne]
            rfl
          · simp (disch := omega) only [bz_u_same, bz_u_ne]
            rfl
          · simp (disch := omega) only [bz_u_same, bz_u_ne]
            exact v99
          · simp (disch := omega) only [bz_u_same, bz_u_ne]
            rfl
        · have rr : fr tN S S4 := fr_t r1 (fr_t (fr_m r2 (by intro c k h; first | omega | (dsimp only at h ⊢; omega) | (dsimp only at h; omega) | (dsimp only; omega))) (fr_t (fr_m r3 (by intro c k h; first | omega | (dsimp only at h ⊢; omega) | (dsimp only at h; omega) | (dsimp only; omega))) (fr_t (fr_m r4 (by intro c k h; first | omega | (dsimp only at h ⊢; omega) | (dsimp only at h; omega) | (dsimp only; omega))) (fr_m r5 (by intro c k h; first | omega | (dsimp only at h ⊢; omega) | (dsimp only at h; omega) | (dsimp only; omega))))))
          have f4 : fd S4 := fd_f (fd_f f3 r4 (by intro c k h; first | omega | (dsimp only at h ⊢; omega) | (dsimp only at h; omega) | (dsimp only; omega))) r5 (by intro c k h; first | omega | (dsimp only at h ⊢; omega) | (dsimp only at h; omega) | (dsimp only; omega))
          have hok' : f_nk s n g v o k = some (f_st (f_env s (s (600 + 8 * k + 0)) (v.1 k) o 0 (nI (v.2.2.1 k)) 25 (f_lateBy s o (nI q.2)) (nI k)) g n 0) := hok
          generalize hvv : f_st (f_env s (s (600 + 8 * k + 0)) (v.1 k) o 0 (nI (v.2.2.1 k)) 25 (f_lateBy s o (nI q.2)) (nI k)) g n 0 = vv at *
          cases hbk : f_bf (f_nk s n g v o) k with
          | none =>
            rw [f_bf_0 hok' hbk] at ih
            exact ⟨fun _ => ih S4 _ _ rr f4, fun c3 => absurd (by decide) c3⟩
          | some b =>
            rw [f_bf_s hok' hbk] at ih
            have hbl := (f_bf_lt hbk).1
            refine ⟨fun c3 => absurd c3 (nI_pos (by omega)), fun _ => ⟨fun c3 => ?_, fun c3 => ?_⟩⟩
            · rw [if_pos (show vv ≤ b.2 from c3)] at ih
              exact ih S4 _ _ rr f4
            · rw [if_neg (show ¬ vv ≤ b.2 from c3)] at ih
              exact ih S4 _ _ rr f4
  · intro S1 u6 u7 r1 f1
    have e1 : S1.1 187 = s := (fr_c r1 (fun k => by omega)).trans hs
    refine g_X12_nightRider_8 hl _ _ _ _ _ _ _ _ _ ?_
    unfold w_X12_nightRider_8
    repeat (first | ((with_reducible apply ap_rc); rfl) | ((with_reducible apply ap_nn)) | ((with_reducible apply ap_rR); rfl) | ((with_reducible apply M_ofOrder); rfl; (exact bz_lit _); omega; (first | omega | decide)) | ((with_reducible apply M_ofRider); rfl; (exact bz_lit _); omega; (first | omega | decide)) | ((with_reducible apply ap_rI); exact kd_ord _ (by omega) _ (by decide)) | ((with_reducible apply ap_wI); exact kd_ord _ (by omega) _ (by decide)) | ((with_reducible apply ap_rI); exact kd_rid _ (by omega) _ (by decide)) | ((with_reducible apply ap_wI); exact kd_rid _ (by omega) _ (by decide)) | ((with_reducible apply ap_rc); exact (kd_clO _ (by omega)).1) | ((with_reducible apply ap_rc); exact (kd_clR _ (by omega)).1) | ((with_reducible apply ap_rc); exact (kd_clR _ (by omega)).2.2.1) | ((with_reducible apply ap_rR); exact (kd_ridA _ (by omega)).1) | ((with_reducible apply ap_rN); rfl) | ((with_reducible apply M_in)) | ((with_reducible apply X_isWithin)) | ((with_reducible apply ap_rI); rfl) | ((with_reducible apply ap_wI); rfl) | ((with_reducible apply ap_iA); rfl; (try simp only [bz_lit, pk_mul, nI_add]); rfl; omega) | ((with_reducible apply ap_iW); rfl; (try simp only [bz_lit, pk_mul, nI_add]); rfl; omega))
    rw [e1, em3]
    exact ⟨fun _ => ⟨_, rfl, hP S1 r1 f1⟩, fun c => absurd (nI_le (by omega) (by omega)) c⟩
theorem M_goesNight {P : bz_H → Prop} {y : Int32} {t n m N : Nat} {g : Nat → Nat} (hy : y = nI t) (hs : S.1 187 = s) (hg : gd_b s) (hf : fd S) (hm : m = (s 3).toNatClampNeg) (hN : N = (s 2).toNatClampNeg) (ht8 : t < 8) (htg : tg s t n g) (hwf : wfm g n) (hP : ∀ S', fr tM S S' → fd S' → nr S' m (f_ni s n g N) → S'.1 186 28 = (f_ni s n g N).2.2.2.2.2.1 → S'.1 186 29 = nI (f_ni s n g N).2.2.2.2.2.2 → (∀ j, j < N → S'.1 200 j = (f_ni s n g N).2.2.2.1 j) → P (bz_hp E S')) : bz_cV G l (d + 10) kX12_goesNight [.inr (some 186), .inl y] (bz_hp E S) 0 0 P := by
  refine m_X12_goesNight _ _ _ (fun κ bc bs hl => ?_)
  unfold w_X12_goesNight_0
  subst hy
  obtain ⟨m3, hm3, em3⟩ : bz_lt (s 3) 13 := hg 3 (by decide) (by decide) (by decide)
  obtain ⟨m2, hm2, em2⟩ : bz_lt (s 2) 25 := hg 2 (by decide) (by decide) (by decide)
  have hmm : m = m3 := by rw [hm, em3, nI_clamp (by omega)]
  have hNN : N = m2 := by rw [hN, em2, nI_clamp (by omega)]
  subst hmm; subst hNN
  have two := bz_for (n := N) (Q := fun k => ∀ (S1 : bz_S) (u3 : Option bz_V), fr tM S S1 → fd S1 → nr S1 m (f_ni s n g k) → S1.1 186 28 = (f_ni s n g k).2.2.2.2.2.1 → S1.1 186 29 = nI (f_ni s n g k).2.2.2.2.2.2 → (∀ j, j < k → S1.1 200 j = (f_ni s n g k).2.2.2.1 j) → bz_J G κ kX12_goesNight (d + 9 + 1) (fun v h' => v = none ∧ P h') bc bs 61 [some (.inr (some 186)), some (.inl (nI t)), some (.inl (nI k)), u3] [] (bz_hp E S1)) (fun k hk ih S1 u3 r1 f1 v1 a8 a9 aj => ?_) ?_
  · have one := bz_for (n := m) (Q := fun k => ∀ (S1 : bz_S), fr tM S S1 → fd S1 → nr S1 k (f_ni s n g 0) → bz_J G κ kX12_goesNight (d + 9 + 1) (fun v h' => v = none ∧ P h') bc bs 2 [some (.inr (some 186)), some (.inl (nI t)), some (.inl (nI k)), none] [] (bz_hp E S1)) (fun k hk ih S1 r1 f1 v1 => ?_) ?_
    · exact one S (fr_r _ S) hf (fun r hr => absurd hr (by omega))
    · have e1 : S1.1 187 = s := (fr_c r1 (fun k => by omega)).trans hs
      have hk12 : k < 12 := by omega
      obtain ⟨a, ha, ea⟩ : bz_lt (s (600 + 8 * k + 4)) 16 := gb_r hg hk12 4 (by decide)
      obtain ⟨b, hb, eb⟩ : bz_lt (s (600 + 8 * k + 5)) 1440 := gb_r hg hk12 5 (by decide)
      rw [nI_succ] at ih
      refine g_X12_goesNight_2 hl _ _ _ _ _ ?_
      unfold w_X12_goesNight_2
      repeat (first | ((with_reducible apply ap_rc); rfl) | ((with_reducible apply ap_nn)) | ((with_reducible apply ap_rR); rfl) | ((with_reducible apply M_ofOrder); rfl; (exact bz_lit _); omega; (first | omega | decide)) | ((with_reducible apply M_ofRider); rfl; (exact bz_lit _); omega; (first | omega | decide)) | ((with_reducible apply ap_rI); exact kd_ord _ (by omega) _ (by decide)) | ((with_reducible apply ap_wI); exact kd_ord _ (by omega) _ (by decide)) | ((with_reducible apply ap_rI); exact kd_rid _ (by omega) _ (by decide)) | ((with_reducible apply ap_wI); exact kd_rid _ (by omega) _ (by decide)) | ((with_reducible apply ap_rc); exact (kd_clO _ (by omega)).1) | ((with_reducible apply ap_rc); exact (kd_clR _ (by omega)).1) | ((with_reducible apply ap_rc); exact (kd_clR _ (by omega)).2.2.1) | ((with_reducible apply ap_rR); exact (kd_ridA _ (by omega)).1) | ((with_reducible apply ap_rN); rfl) | ((with_reducible apply M_in)) | ((with_reducible apply X_isWithin)) | ((with_reducible apply ap_rI); rfl) | ((with_reducible apply ap_wI); rfl) | ((with_reducible apply ap_iA); rfl; (try simp only [bz_lit, pk_mul, nI_add]); rfl; omega) | ((with_reducible apply ap_iW); rfl; (try simp only [bz_lit, pk_mul, nI_add]); rfl; omega))
      rw [e1, em3]
      refine ⟨fun c => absurd ((nI_leI (by omega) (by omega)).mp c) (by omega), fun _ => ?_⟩
      repeat (first | ((with_reducible apply ap_rc); rfl) | ((with_reducible apply ap_nn)) | ((with_reducible apply ap_rR); rfl) | ((with_reducible apply M_ofOrder); rfl; (exact bz_lit _); omega; (first | omega | decide)) | ((with_reducible apply M_ofRider); rfl; (exact bz_lit _); omega; (first | omega | decide)) | ((with_reducible apply ap_rI); exact kd_ord _ (by omega) _ (by decide)) | ((with_reducible apply ap_wI); exact kd_ord _ (by omega) _ (by decide)) | ((with_reducible apply ap_rI); exact kd_rid _ (by omega) _ (by decide)) | ((with_reducible apply ap_wI); exact kd_rid _ (by omega) _ (by decide)) | ((with_reducible apply ap_rc); exact (kd_clO _ (by omega)).1) | ((with_reducible apply ap_rc); exact (kd_clR _ (by omega)).1) | ((with_reducible apply ap_rc); exact (kd_clR _ (by omega)).2.2.1) | ((with_reducible apply ap_rR); exact (kd_ridA _ (by omega)).1) | ((with_reducible apply ap_rN); rfl) | ((with_reducible apply M_in)) | ((with_reducible apply X_isWithin)) | ((with_reducible apply ap_rI); rfl) | ((with_reducible apply ap_wI); rfl) | ((with_reducible apply ap_iA); rfl; (try simp only [bz_lit, pk_mul, nI_add]); rfl; omega) | ((with_reducible apply ap_iW); rfl; (try simp only [bz_lit, pk_mul, nI_add]); rfl; omega))
      dsimp only
      simp (disch := omega) only [bz_u_ne]
      rw [e1]
      have r2 : fr (fun c _ => 197 ≤ c ∧ c ≤ 199) S1 (bz_u (bz_u (bz_u S1.1 197 k (s (600 + 8 * k + 4))) 198 k (s (600 + 8 * k + 5))) 199 k 0, S1.2) := fr_v (fr_v (fr_v (fr_0 _ S1) (by first | omega | (dsimp only; omega))) (by first | omega | (dsimp only; omega))) (by first | omega | (dsimp only; omega))
      refine ih _ (fr_t r1 (fr_m r2 (by intro c k h; first | omega | (dsimp only at h ⊢; omega) | (dsimp only at h; omega) | (dsimp only; omega)))) (fd_f f1 r2 (by intro c k h; first | omega | (dsimp only at h ⊢; omega) | (dsimp only at h; omega) | (dsimp only; omega))) (fun r hr => ?_)
      dsimp only
      by_cases hrk : r = k
      · subst hrk
        simp (disch := omega) only [bz_u_same, bz_u_ne]
        show _ ∧ _ ∧ (0 : Int32) = nI 0
        refine ⟨?_, ?_, rfl⟩
        · show s (600 + 8 * r + 4) = nI (s (600 + 8 * r + 4)).toNatClampNeg
          rw [ea, nI_clamp (by omega)]
        · show s (600 + 8 * r + 5) = nI (s (600 + 8 * r + 5)).toNatClampNeg
          rw [eb, nI_clamp (by omega)]
      · simp (disch := omega) only [bz_u_ne]
        exact v1 r (by omega)
    · intro S1 r1 f1 v1
      have e1 : S1.1 187 = s := (fr_c r1 (fun k => by omega)).trans hs
      refine g_X12_goesNight_2 hl _ _ _ _ _ ?_
      unfold w_X12_goesNight_2
      repeat (first | ((with_reducible apply ap_rc); rfl) | ((with_reducible apply ap_nn)) | ((with_reducible apply ap_rR); rfl) | ((with_reducible apply M_ofOrder); rfl; (exact bz_lit _); omega; (first | omega | decide)) | ((with_reducible apply M_ofRider); rfl; (exact bz_lit _); omega; (first | omega | decide)) | ((with_reducible apply ap_rI); exact kd_ord _ (by omega) _ (by decide)) | ((with_reducible apply ap_wI); exact kd_ord _ (by omega) _ (by decide)) | ((with_reducible apply ap_rI); exact kd_rid _ (by omega) _ (by decide)) | ((with_reducible apply ap_wI); exact kd_rid _ (by omega) _ (by decide)) | ((with_reducible apply ap_rc); exact (kd_clO _ (by omega)).1) | ((with_reducible apply ap_rc); exact (kd_clR _ (by omega)).1) | ((with_reducible apply ap_rc); exact (kd_clR _ (by omega)).2.2.1) | ((with_reducible apply ap_rR); exact (kd_ridA _ (by omega)).1) | ((with_reducible apply ap_rN); rfl) | ((with_reducible apply M_in)) | ((with_reducible apply X_isWithin)) | ((with_reducible apply ap_rI); rfl) | ((with_reducible apply ap_wI); rfl) | ((with_reducible apply ap_iA); rfl; (try simp only [bz_lit, pk_mul, nI_add]); rfl; omega) | ((with_reducible apply ap_iW); rfl; (try simp only [bz_lit, pk_mul, nI_add]); rfl; omega))
      rw [e1, em3]
      refine ⟨fun _ => ?_, fun c => absurd (nI_le (by omega) (by omega)) c⟩
      repeat (first | ((with_reducible apply ap_rc); rfl) | ((with_reducible apply ap_nn)) | ((with_reducible apply ap_rR); rfl) | ((with_reducible apply M_ofOrder); rfl; (exact bz_lit _); omega; (first | omega | decide)) | ((with_reducible apply M_ofRider); rfl; (exact bz_lit _); omega; (first | omega | decide)) | ((with_reducible apply ap_rI); exact kd_ord _ (by omega) _ (by decide)) | ((with_reducible apply ap_wI); exact kd_ord _ (by omega) _ (by decide)) | ((with_reducible apply ap_rI); exact kd_rid _ (by omega) _ (by decide)) | ((with_reducible apply ap_wI); exact kd_rid _ (by omega) _ (by decide)) | ((with_reducible apply ap_rc); exact (kd_clO _ (by omega)).1) | ((with_reducible apply ap_rc); exact (kd_clR _ (by omega)).1) | ((with_reducible apply ap_rc); exact (kd_clR _ (by omega)).2.2.1) | ((with_reducible apply ap_rR); exact (kd_ridA _ (by omega)).1) | ((with_reducible apply ap_rN); rfl) | ((with_reducible apply M_in)) | ((with_reducible apply X_isWithin)) | ((with_reducible apply ap_rI); rfl) | ((with_reducible apply ap_wI); rfl) | ((with_reducible apply ap_iA); rfl; (try simp only [bz_lit, pk_mul, nI_add]); rfl; omega) | ((with_reducible apply ap_iW); rfl; (try simp only [bz_lit, pk_mul, nI_add]); rfl; omega))
      have r2 : fr (fun c k => c = 186 ∧ (k = 28 ∨ k = 29)) S1 (bz_u (bz_u S1.1 186 28 0) 186 29 0, S1.2) := fr_v (fr_v (fr_0 _ S1) (by first | omega | (dsimp only; omega))) (by first | omega | (dsimp only; omega))
      refine two _ _ (fr_t r1 (fr_m r2 (by intro c k h; first | omega | (dsimp only at h ⊢; omega) | (dsimp only at h; omega) | (dsimp only; omega)))) (fd_f f1 r2 (by intro c k h; first | omega | (dsimp only at h ⊢; omega) | (dsimp only at h; omega) | (dsimp only; omega))) (nr_f v1 r2 (by intro c k h; first | omega | (dsimp only at h ⊢; omega) | (dsimp only at h; omega) | (dsimp only; omega))) ?_ ?_ (fun j hj => absurd hj (by omega))
      · simp (disch := omega) only [bz_u_same, bz_u_ne]
        rfl
      · simp (disch := omega) only [bz_u_same, bz_u_ne]
        rfl
  · have e1 : S1.1 187 = s := (fr_c r1 (fun k => by omega)).trans hs
    have hk24 : k < 24 := by omega
    have hb := nb_i hg n g k (by omega)
    obtain ⟨tk, htk, etk⟩ : bz_lt (s (312 + 12 * k + 1)) 16 := gb_o hg hk24 1 (by decide)
    rw [nI_succ] at ih
    rw [show f_ni s n g (k + 1) = f_ns s n g (f_ni s n g k) k from rfl] at ih
    generalize f_ni s n g k = v at *
    unfold f_ns at ih
    have key : ∀ (S2 : bz_S) (u3 : Option bz_V), fr tN S1 S2 → fd S2 → bz_J G κ kX12_goesNight (d + 9 + 1) (fun v h' => v = none ∧ P h') bc bs 96 [some (.inr (some 186)), some (.inl (nI t)), some (.inl (nI k)), u3] [.inl (f_bi (f_nq s n g v k)), .inl (nI k), .inr (some 200)] (bz_hp E S2) := by
      intro S2 u3 r2 f2
      refine g_X12_goesNight_96 hl _ _ _ _ _ _ _ _ ?_
      unfold w_X12_goesNight_96
      generalize hx : f_bi (f_nq s n g v k) = x
      have r3 : fr (fun c _ => c = 200) S2 (bz_u S2.1 200 k x, S2.2) := fr_u (S := S2) (by first | omega | (dsimp only; omega))
      have r23 : fr (fun c k => tN c k ∨ c = 200) S1 (bz_u S2.1 200 k x, S2.2) := fr_t (fr_m r2 (by intro c k h; first | omega | (dsimp only at h ⊢; omega) | (dsimp only at h; omega) | (dsimp only; omega))) (fr_m r3 (by intro c k h; first | omega | (dsimp only at h ⊢; omega) | (dsimp only at h; omega) | (dsimp only; omega)))
      have f3 := fd_f f2 r3 (by intro c k h; first | omega | (dsimp only at h ⊢; omega) | (dsimp only at h; omega) | (dsimp only; omega))
      have p1 : fr tM S (bz_u S2.1 200 k x, S2.2) := fr_t r1 (fr_m r23 (by intro c k h; first | omega | (dsimp only at h ⊢; omega) | (dsimp only at h; omega) | (dsimp only; omega)))
      have p2 : nr (bz_u S2.1 200 k x, S2.2) m v := nr_f v1 r23 (by intro c k h; first | omega | (dsimp only at h ⊢; omega) | (dsimp only at h; omega) | (dsimp only; omega))
      have p4 : (bz_u S2.1 200 k x) 186 28 = v.2.2.2.2.2.1 := (r23.2 186 28 (by first | omega | (dsimp only; omega))).trans a8
      have p5 : (bz_u S2.1 200 k x) 186 29 = nI v.2.2.2.2.2.2 := (r23.2 186 29 (by first | omega | (dsimp only; omega))).trans a9
      have p6 : ∀ j, j < k + 1 → (bz_u S2.1 200 k x) 200 j = upd v.2.2.2.1 k x j := by
        intro j hj
        by_cases hjk : j = k
        · subst hjk; rw [bz_u_same, pk_us]
        · rw [bz_u_ne _ _ (Or.inr hjk), pk_un hjk, r2.2 200 j (by first | omega | (dsimp only; omega))]
          exact aj j (by omega)
      repeat (first | ((with_reducible apply ap_rc); rfl) | ((with_reducible apply ap_nn)) | ((with_reducible apply ap_rR); rfl) | ((with_reducible apply M_ofOrder); rfl; (exact bz_lit _); omega; (first | omega | decide)) | ((with_reducible apply M_ofRider); rfl; (exact bz_lit _); omega; (first | omega | decide)) | ((with_reducible apply ap_rI); exact kd_ord _ (by omega) _ (by decide)) | ((with_reducible apply ap_wI); exact kd_ord _ (by omega) _ (by decide)) | ((with_reducible apply ap_rI); exact kd_rid _ (by omega) _ (by decide)) | ((with_reducible apply ap_wI); exact kd_rid _ (by omega) _ (by decide)) | ((with_reducible apply ap_rc); exact (kd_clO _ (by omega)).1) | ((with_reducible apply ap_rc); exact (kd_clR _ (by omega)).1) | ((with_reducible apply ap_rc); exact (kd_clR _ (by omega)).2.2.1) | ((with_reducible apply ap_rR); exact (kd_ridA _ (by omega)).1) | ((with_reducible apply ap_rN); rfl) | ((with_reducible apply M_in)) | ((with_reducible apply X_isWithin)) | ((with_reducible apply ap_rI); rfl) | ((with_reducible apply ap_wI); rfl) | ((with_reducible apply ap_iA); rfl; (try simp only [bz_lit, pk_mul, nI_add]); rfl; omega) | ((with_reducible apply ap_iW); rfl; (try simp only [bz_lit, pk_mul, nI_add]); rfl; omega))
      dsimp only
      rw [bz_u_same]
      cases hnq : f_nq s n g v k with
      | none =>
        rw [hnq] at ih hx
        have hx' : x = -1 := hx.symm
        rw [hx'] at p1 p2 p4 p5 p6 f3 ⊢
        exact ⟨fun _ => ih _ _ p1 f3 p2 p4 p5 p6, fun c1 => absurd (by decide) c1⟩
      | some q =>
        rw [hnq] at ih hx
        have hx' : x = nI q.1 := hx.symm
        have hq : q.1 < m := by
          unfold f_nq at hnq
          split at hnq
          · cases hnq
          · have := (f_bf_lt hnq).1
            omega
        have hq12 : q.1 < 12 := by omega
        rw [hx'] at p1 p2 p4 p5 p6 f3 ⊢
        have e3 : (bz_u S2.1 200 k (nI q.1)) 187 = s := (fr_c p1 (fun k => by omega)).trans hs
        refine ⟨fun c1 => absurd c1 (nI_pos (by omega)), fun _ => ?_⟩
        repeat (first | ((with_reducible apply ap_rc); rfl) | ((with_reducible apply ap_nn)) | ((with_reducible apply ap_rR); rfl) | ((with_reducible apply M_ofOrder); rfl; (exact bz_lit _); omega; (first | omega | decide)) | ((with_reducible apply M_ofRider); rfl; (exact bz_lit _); omega; (first | omega | decide)) | ((with_reducible apply ap_rI); exact kd_ord _ (by omega) _ (by decide)) | ((with_reducible apply ap_wI); exact kd_ord _ (by omega) _ (by decide)) | ((with_reducible apply ap_rI); exact kd_rid _ (by omega) _ (by decide)) | ((with_reducible apply ap_wI); exact kd_rid _ (by omega) _ (by decide)) | ((with_reducible apply ap_rc); exact (kd_clO _ (by omega)).1) | ((with_reducible apply ap_rc); exact (kd_clR _ (by omega)).1) | ((with_reducible apply ap_rc); exact (kd_clR _ (by omega)).2.2.1) | ((with_reducible apply ap_rR); exact (kd_ridA _ (by omega)).1) | ((with_reducible apply ap_rN); rfl) | ((with_reducible apply M_in)) | ((with_reducible apply X_isWithin)) | ((with_reducible apply ap_rI); rfl) | ((with_reducible apply ap_wI); rfl) | ((with_reducible apply ap_iA); rfl; (try simp only [bz_lit, pk_mul, nI_add]); rfl; omega) | ((with_reducible apply ap_iW); rfl; (try simp only [bz_lit, pk_mul, nI_add]); rfl; omega))
        dsimp only
        rw [bz_u_same]
        refine M_nightTrip (v := v) rfl hq12 hq hk24 e3 hg f3 p2 hb (fun S3 r4 f4 v4 => ?_)
        have q8 : S3.1 186 28 = v.2.2.2.2.2.1 := (r4.2 186 28 (by omega)).trans p4
        have q9 : S3.1 186 29 = nI v.2.2.2.2.2.2 := (r4.2 186 29 (by omega)).trans p5
        have qj : ∀ j, j < k + 1 → S3.1 200 j = upd v.2.2.2.1 k (nI q.1) j := fun j hj => (r4.2 200 j (by omega)).trans (p6 j hj)
        have qx : nr S3 m v := nr_f p2 r4 (by intro c k h; first | omega | (dsimp only at h ⊢; omega) | (dsimp only at h; omega) | (dsimp only; omega))
        have qr : fr tM S S3 := fr_t p1 (fr_m r4 (by intro c k h; first | omega | (dsimp only at h ⊢; omega) | (dsimp only at h; omega) | (dsimp only; omega)))
        have e4 : S3.1 187 = s := (fr_c qr (fun k => by omega)).trans hs
        dsimp only at ih
        cases hnp : f_np s v q.1 k with
        | none =>
          rw [hnp] at ih
          exact ⟨fun _ => ih _ _ qr f4 qx q8 q9 qj, fun c2 => absurd rfl c2⟩
        | some p =>
          rw [hnp] at ih
          obtain ⟨t2, t7, t6⟩ := v4 p.1 p.2 hnp
          have hpe := (f_tp_le (p := p.1) (e := p.2) hnp).2
          have he0 := hb.2.2
          dsimp only at ih
          rw [etk, nI_clamp (by omega)] at ih
          refine ⟨fun c2 => absurd c2 (f_ok_1 _), fun _ => ?_⟩
          have q200 : S3.1 200 k = nI q.1 := by
            rw [qj k (by omega), pk_us]
          obtain ⟨z1, z2, z3⟩ := qx q.1 hq
          repeat (first | ((with_reducible apply ap_rc); rfl) | ((with_reducible apply ap_nn)) | ((with_reducible apply ap_rR); rfl) | ((with_reducible apply M_ofOrder); rfl; (exact bz_lit _); omega; (first | omega | decide)) | ((with_reducible apply M_ofRider); rfl; (exact bz_lit _); omega; (first | omega | decide)) | ((with_reducible apply ap_rI); exact kd_ord _ (by omega) _ (by decide)) | ((with_reducible apply ap_wI); exact kd_ord _ (by omega) _ (by decide)) | ((with_reducible apply ap_rI); exact kd_rid _ (by omega) _ (by decide)) | ((with_reducible apply ap_wI); exact kd_rid _ (by omega) _ (by decide)) | ((with_reducible apply ap_rc); exact (kd_clO _ (by omega)).1) | ((with_reducible apply ap_rc); exact (kd_clR _ (by omega)).1) | ((with_reducible apply ap_rc); exact (kd_clR _ (by omega)).2.2.1) | ((with_reducible apply ap_rR); exact (kd_ridA _ (by omega)).1) | ((with_reducible apply ap_rN); rfl) | ((with_reducible apply M_in)) | ((with_reducible apply X_isWithin)) | ((with_reducible apply ap_rI); rfl) | ((with_reducible apply ap_wI); rfl) | ((with_reducible apply ap_iA); rfl; (try simp only [bz_lit, pk_mul, nI_add]); rfl; omega) | ((with_reducible apply ap_iW); rfl; (try simp only [bz_lit, pk_mul, nI_add]); rfl; omega))
          rw [q200]
          repeat (first | ((with_reducible apply ap_rc); rfl) | ((with_reducible apply ap_nn)) | ((with_reducible apply ap_rR); rfl) | ((with_reducible apply M_ofOrder); rfl; (exact bz_lit _); omega; (first | omega | decide)) | ((with_reducible apply M_ofRider); rfl; (exact bz_lit _); omega; (first | omega | decide)) | ((with_reducible apply ap_rI); exact kd_ord _ (by omega) _ (by decide)) | ((with_reducible apply ap_wI); exact kd_ord _ (by omega) _ (by decide)) | ((with_reducible apply ap_rI); exact kd_rid _ (by omega) _ (by decide)) | ((with_reducible apply ap_wI); exact kd_rid _ (by omega) _ (by decide)) | ((with_reducible apply ap_rc); exact (kd_clO _ (by omega)).1) | ((with_reducible apply ap_rc); exact (kd_clR _ (by omega)).1) | ((with_reducible apply ap_rc); exact (kd_clR _ (by omega)).2.2.1) | ((with_reducible apply ap_rR); exact (kd_ridA _ (by omega)).1) | ((with_reducible apply ap_rN); rfl) | ((with_reducible apply M_in)) | ((with_reducible apply X_isWithin)) | ((with_reducible apply ap_rI); rfl) | ((with_reducible apply ap_wI); rfl) | ((with_reducible apply ap_iA); rfl; (try simp only [bz_lit, pk_mul, nI_add]); rfl; omega) | ((with_reducible apply ap_iW); rfl; (try simp only [bz_lit, pk_mul, nI_add]); rfl; omega))
          dsimp only
          simp (disch := omega) only [bz_u_ne]
          rw [t2]
          refine M_lateBy hk24 ?_
          dsimp only
          rw [bz_u_cell _ _ _ (by decide), bz_u_cell _ _ _ (by decide), bz_u_cell _ _ _ (by decide), e4]
          repeat (first | ((with_reducible apply ap_rc); rfl) | ((with_reducible apply ap_nn)) | ((with_reducible apply ap_rR); rfl) | ((with_reducible apply M_ofOrder); rfl; (exact bz_lit _); omega; (first | omega | decide)) | ((with_reducible apply M_ofRider); rfl; (exact bz_lit _); omega; (first | omega | decide)) | ((with_reducible apply ap_rI); exact kd_ord _ (by omega) _ (by decide)) | ((with_reducible apply ap_wI); exact kd_ord _ (by omega) _ (by decide)) | ((with_reducible apply ap_rI); exact kd_rid _ (by omega) _ (by decide)) | ((with_reducible apply ap_wI); exact kd_rid _ (by omega) _ (by decide)) | ((with_reducible apply ap_rc); exact (kd_clO _ (by omega)).1) | ((with_reducible apply ap_rc); exact (kd_clR _ (by omega)).1) | ((with_reducible apply ap_rc); exact (kd_clR _ (by omega)).2.2.1) | ((with_reducible apply ap_rR); exact (kd_ridA _ (by omega)).1) | ((with_reducible apply ap_rN); rfl) | ((with_reducible apply M_in)) | ((with_reducible apply X_isWithin)) | ((with_reducible apply ap_rI); rfl) | ((with_reducible apply ap_wI); rfl) | ((with_reducible apply ap_iA); rfl; (try simp only [bz_lit, pk_mul, nI_add]); rfl; omega) | ((with_reducible apply ap_iW); rfl; (try simp only [bz_lit, pk_mul, nI_add]); rfl; omega))
          dsimp only
          simp (disch := omega) only [bz_u_ne, bz_u_same]
          rw [t6, t7, z3, q8, q9, etk]
          have fin : ∀ e' u3, e' = nI (if p.2 ≤ v.2.2.2.2.2.2 then v.2.2.2.2.2.2 else p.2) → bz_J G κ kX12_goesNight (d + 9 + 1) (fun v h' => v = none ∧ P h') bc bs 61 [some (.inr (some 186)), some (.inl (nI t)), some (.inl (nI k + 1)), u3] [] (bz_hp E (bz_u (bz_u (bz_u (bz_u (bz_u S3.1 197 q.1 (nI tk)) 198 q.1 (nI p.2)) 199 q.1 (nI (v.2.2.1 q.1) + 1)) 186 28 (v.2.2.2.2.2.1 + f_lateBy s k (nI p.2))) 186 29 e', S3.2)) := by
            intro e' u3 he'
            have r5 : fr (fun c k => (197 ≤ c ∧ c ≤ 199) ∨ (c = 186 ∧ (k = 28 ∨ k = 29))) S3 (bz_u (bz_u (bz_u (bz_u (bz_u S3.1 197 q.1 (nI tk)) 198 q.1 (nI p.2)) 199 q.1 (nI (v.2.2.1 q.1) + 1)) 186 28 (v.2.2.2.2.2.1 + f_lateBy s k (nI p.2))) 186 29 e', S3.2) := fr_v (fr_v (fr_v (fr_v (fr_v (fr_0 _ S3) (by first | omega | (dsimp only; omega))) (by first | omega | (dsimp only; omega))) (by first | omega | (dsimp only; omega))) (by first | omega | (dsimp only; omega))) (by first | omega | (dsimp only; omega))
            refine ih _ _ (fr_t qr (fr_m r5 (by intro c k h; first | omega | (dsimp only at h ⊢; omega) | (dsimp only at h; omega) | (dsimp only; omega)))) (fd_f f4 r5 (by intro c k h; first | omega | (dsimp only at h ⊢; omega) | (dsimp only at h; omega) | (dsimp only; omega))) (fun r hr => ?_) ?_ ?_ (fun j hj => (r5.2 200 j (by first | omega | (dsimp only; omega))).trans (qj j hj))
            · dsimp only
              by_cases hrq : r = q.1
              · subst hrq
                simp (disch := omega) only [bz_u_same, bz_u_ne]
                rw [updn_s, updn_s, updn_s, nI_succ]
                exact ⟨by first | rfl | trivial, by first | rfl | trivial, by first | rfl | trivial⟩
              · simp (disch := omega) only [bz_u_ne]
                rw [updn_n hrq, updn_n hrq, updn_n hrq]
                exact qx r hr
            · simp (disch := omega) only [bz_u_same, bz_u_ne]
            · simp (disch := omega) only [bz_u_same, bz_u_ne]
              exact he'
          refine ⟨fun c => ?_, fun c => ?_⟩
          · repeat (first | ((with_reducible apply ap_rc); rfl) | ((with_reducible apply ap_nn)) | ((with_reducible apply ap_rR); rfl) | ((with_reducible apply M_ofOrder); rfl; (exact bz_lit _); omega; (first | omega | decide)) | ((with_reducible apply M_ofRider); rfl; (exact bz_lit _); omega; (first | omega | decide)) | ((with_reducible apply ap_rI); exact kd_ord _ (by omega) _ (by decide)) | ((with_reducible apply ap_wI); exact kd_ord _ (by omega) _ (by decide)) | ((with_reducible apply ap_rI); exact kd_rid _ (by omega) _ (by decide)) | ((with_reducible apply ap_wI); exact kd_rid _ (by omega) _ (by decide)) | ((with_reducible apply ap_rc); exact (kd_clO _ (by omega)).1) | ((with_reducible apply ap_rc); exact (kd_clR _ (by omega)).1) | ((with_reducible apply ap_rc); exact (kd_clR _ (by omega)).2.2.1) | ((with_reducible apply ap_rR); exact (kd_ridA _ (by omega)).1) | ((with_reducible apply ap_rN); rfl) | ((with_reducible apply M_in)) | ((with_reducible apply X_isWithin)) | ((with_reducible apply ap_rI); rfl) | ((with_reducible apply ap_wI); rfl) | ((with_reducible apply ap_iA); rfl; (try simp only [bz_lit, pk_mul, nI_add]); rfl; omega) | ((with_reducible apply ap_iW); rfl; (try simp only [bz_lit, pk_mul, nI_add]); rfl; omega))
            dsimp only
            simp (disch := omega) only [bz_u_ne, bz_u_same]
            rw [q9]
            exact fin _ _ (by rw [if_pos ((nI_leI (by omega) (by omega)).mp c)])
          · repeat (first | ((with_reducible apply ap_rc); rfl) | ((with_reducible apply ap_nn)) | ((with_reducible apply ap_rR); rfl) | ((with_reducible apply M_ofOrder); rfl; (exact bz_lit _); omega; (first | omega | decide)) | ((with_reducible apply M_ofRider); rfl; (exact bz_lit _); omega; (first | omega | decide)) | ((with_reducible apply ap_rI); exact kd_ord _ (by omega) _ (by decide)) | ((with_reducible apply ap_wI); exact kd_ord _ (by omega) _ (by decide)) | ((with_reducible apply ap_rI); exact kd_rid _ (by omega) _ (by decide)) | ((with_reducible apply ap_wI); exact kd_rid _ (by omega) _ (by decide)) | ((with_reducible apply ap_rc); exact (kd_clO _ (by omega)).1) | ((with_reducible apply ap_rc); exact (kd_clR _ (by omega)).1) | ((with_reducible apply ap_rc); exact (kd_clR _ (by omega)).2.2.1) | ((with_reducible apply ap_rR); exact (kd_ridA _ (by omega)).1) | ((with_reducible apply ap_rN); rfl) | ((with_reducible apply M_in)) | ((with_reducible apply X_isWithin)) | ((with_reducible apply ap_rI); rfl) | ((with_reducible apply ap_wI); rfl) | ((with_reducible apply ap_iA); rfl; (try simp only [bz_lit, pk_mul, nI_add]); rfl; omega) | ((with_reducible apply ap_iW); rfl; (try simp only [bz_lit, pk_mul, nI_add]); rfl; omega))
            dsimp only
            simp (disch := omega) only [bz_u_ne, bz_u_same]
            rw [t7]
            exact fin _ _ (by rw [if_neg (fun z => c ((nI_leI (by omega) (by omega)).mpr z))])
    refine g_X12_goesNight_61 hl _ _ _ _ _ ?_
    unfold w_X12_goesNight_61
    repeat (first | ((with_reducible apply ap_rc); rfl) | ((with_reducible apply ap_nn)) | ((with_reducible apply ap_rR); rfl) | ((with_reducible apply M_ofOrder); rfl; (exact bz_lit _); omega; (first | omega | decide)) | ((with_reducible apply M_ofRider); rfl; (exact bz_lit _); omega; (first | omega | decide)) | ((with_reducible apply ap_rI); exact kd_ord _ (by omega) _ (by decide)) | ((with_reducible apply ap_wI); exact kd_ord _ (by omega) _ (by decide)) | ((with_reducible apply ap_rI); exact kd_rid _ (by omega) _ (by decide)) | ((with_reducible apply ap_wI); exact kd_rid _ (by omega) _ (by decide)) | ((with_reducible apply ap_rc); exact (kd_clO _ (by omega)).1) | ((with_reducible apply ap_rc); exact (kd_clR _ (by omega)).1) | ((with_reducible apply ap_rc); exact (kd_clR _ (by omega)).2.2.1) | ((with_reducible apply ap_rR); exact (kd_ridA _ (by omega)).1) | ((with_reducible apply ap_rN); rfl) | ((with_reducible apply M_in)) | ((with_reducible apply X_isWithin)) | ((with_reducible apply ap_rI); rfl) | ((with_reducible apply ap_wI); rfl) | ((with_reducible apply ap_iA); rfl; (try simp only [bz_lit, pk_mul, nI_add]); rfl; omega) | ((with_reducible apply ap_iW); rfl; (try simp only [bz_lit, pk_mul, nI_add]); rfl; omega))
    rw [e1, em2]
    refine ⟨fun c => absurd ((nI_leI (by omega) (by omega)).mp c) (by omega), fun _ => ?_⟩
    repeat (first | ((with_reducible apply ap_rc); rfl) | ((with_reducible apply ap_nn)) | ((with_reducible apply ap_rR); rfl) | ((with_reducible apply M_ofOrder); rfl; (exact bz_lit _); omega; (first | omega | decide)) | ((with_reducible apply M_ofRider); rfl; (exact bz_lit _); omega; (first | omega | decide)) | ((with_reducible apply ap_rI); exact kd_ord _ (by omega) _ (by decide)) | ((with_reducible apply ap_wI); exact kd_ord _ (by omega) _ (by decide)) | ((with_reducible apply ap_rI); exact kd_rid _ (by omega) _ (by decide)) | ((with_reducible apply ap_wI); exact kd_rid _ (by omega) _ (by decide)) | ((with_reducible apply ap_rc); exact (kd_clO _ (by omega)).1) | ((with_reducible apply ap_rc); exact (kd_clR _ (by omega)).1) | ((with_reducible apply ap_rc); exact (kd_clR _ (by omega)).2.2.1) | ((with_reducible apply ap_rR); exact (kd_ridA _ (by omega)).1) | ((with_reducible apply ap_rN); rfl) | ((with_reducible apply M_in)) | ((with_reducible apply X_isWithin)) | ((with_reducible apply ap_rI); rfl) | ((with_reducible apply ap_wI); rfl) | ((with_reducible apply ap_iA); rfl; (try simp only [bz_lit, pk_mul, nI_add]); rfl; omega) | ((with_reducible apply ap_iW); rfl; (try simp only [bz_lit, pk_mul, nI_add]); rfl; omega))
    rw [e1]
    refine ⟨fun c => ?_, fun c => ?_⟩
    · have hnq : f_nq s n g v k = f_bf (f_nk s n g v k) m := by
        unfold f_nq
        rw [if_neg c, ← hm]
      rw [hnq] at key
      repeat (first | ((with_reducible apply ap_rc); rfl) | ((with_reducible apply ap_nn)) | ((with_reducible apply ap_rR); rfl) | ((with_reducible apply M_ofOrder); rfl; (exact bz_lit _); omega; (first | omega | decide)) | ((with_reducible apply M_ofRider); rfl; (exact bz_lit _); omega; (first | omega | decide)) | ((with_reducible apply ap_rI); exact kd_ord _ (by omega) _ (by decide)) | ((with_reducible apply ap_wI); exact kd_ord _ (by omega) _ (by decide)) | ((with_reducible apply ap_rI); exact kd_rid _ (by omega) _ (by decide)) | ((with_reducible apply ap_wI); exact kd_rid _ (by omega) _ (by decide)) | ((with_reducible apply ap_rc); exact (kd_clO _ (by omega)).1) | ((with_reducible apply ap_rc); exact (kd_clR _ (by omega)).1) | ((with_reducible apply ap_rc); exact (kd_clR _ (by omega)).2.2.1) | ((with_reducible apply ap_rR); exact (kd_ridA _ (by omega)).1) | ((with_reducible apply ap_rN); rfl) | ((with_reducible apply M_in)) | ((with_reducible apply X_isWithin)) | ((with_reducible apply ap_rI); rfl) | ((with_reducible apply ap_wI); rfl) | ((with_reducible apply ap_iA); rfl; (try simp only [bz_lit, pk_mul, nI_add]); rfl; omega) | ((with_reducible apply ap_iW); rfl; (try simp only [bz_lit, pk_mul, nI_add]); rfl; omega))
      exact M_nightRider hk24 e1 hg f1 hm v1 hb ht8 htg hwf (fun S2 r2 f2 => key S2 _ r2 f2)
    · have hnq : f_nq s n g v k = none := if_pos c
      rw [hnq] at key
      exact key S1 _ (fr_r _ S1) f1
  · intro S1 u3 r1 f1 v1 a8 a9 aj
    have e1 : S1.1 187 = s := (fr_c r1 (fun k => by omega)).trans hs
    refine g_X12_goesNight_61 hl _ _ _ _ _ ?_
    unfold w_X12_goesNight_61
    repeat (first | ((with_reducible apply ap_rc); rfl) | ((with_reducible apply ap_nn)) | ((with_reducible apply ap_rR); rfl) | ((with_reducible apply M_ofOrder); rfl; (exact bz_lit _); omega; (first | omega | decide)) | ((with_reducible apply M_ofRider); rfl; (exact bz_lit _); omega; (first | omega | decide)) | ((with_reducible apply ap_rI); exact kd_ord _ (by omega) _ (by decide)) | ((with_reducible apply ap_wI); exact kd_ord _ (by omega) _ (by decide)) | ((with_reducible apply ap_rI); exact kd_rid _ (by omega) _ (by decide)) | ((with_reducible apply ap_wI); exact kd_rid _ (by omega) _ (by decide)) | ((with_reducible apply ap_rc); exact (kd_clO _ (by omega)).1) | ((with_reducible apply ap_rc); exact (kd_clR _ (by omega)).1) | ((with_reducible apply ap_rc); exact (kd_clR _ (by omega)).2.2.1) | ((with_reducible apply ap_rR); exact (kd_ridA _ (by omega)).1) | ((with_reducible apply ap_rN); rfl) | ((with_reducible apply M_in)) | ((with_reducible apply X_isWithin)) | ((with_reducible apply ap_rI); rfl) | ((with_reducible apply ap_wI); rfl) | ((with_reducible apply ap_iA); rfl; (try simp only [bz_lit, pk_mul, nI_add]); rfl; omega) | ((with_reducible apply ap_iW); rfl; (try simp only [bz_lit, pk_mul, nI_add]); rfl; omega))
    rw [e1, em2]
    exact ⟨fun _ => ⟨rfl, hP S1 r1 f1 v1 a8 a9 aj⟩, fun c => absurd (nI_le (by omega) (by omega)) c⟩
end MNI
