/-! two orders joined: the class -/
section XJO
variable {G : bz_G} {l : Launch} {d : Nat} {E : Nat × (Nat → Int32)} {S : bz_S} {s : Nat → Int32}
theorem X_planTwo {P : Int32 → bz_H → Prop} {x : Int32} {o1 o2 m a : Nat} (h1 : o1 < 24) (h2 : o2 < 24) (hp1 : o1 < (s 2).toNatClampNeg) (hp2 : o2 < (s 2).toNatClampNeg) (ha : a < 16) (hm : m ≤ 1440) (ht : tw S s) (k3 : S.1 175 3 = x) (k4 : S.1 175 4 = nI a) (k6 : S.1 175 6 = nI m) (k5 : S.1 175 5 = 0) (hP : ∀ S', fr (fun c k => c = 176 ∨ c = 177 ∨ (c = 175 ∧ 5 ≤ k ∧ ¬ k = 6)) S S' → (∀ lb t e, f_bj s x o1 o2 m a 6 = some (lb, t, e) → S'.1 175 9 = nI lb ∧ S'.1 175 10 = t ∧ S'.1 175 7 = nI e ∧ S'.1 175 8 = f_eb s o1 o2 lb ∧ ∀ c, c < 4 → S'.1 176 c = nI ((f_w s x o1 o2 m a lb).2 c)) → P (f_ok (f_bj s x o1 o2 m a 6)) (bz_hp E S')) : bz_cI G l (d + 3) kX9_planTwo [.inr (some 175), .inr (some (24 + o1)), .inr (some (24 + o2))] (bz_hp E S) 0 0 P := by
  refine m_X9_planTwo _ _ _ _ (fun κ bc bs hl => ?_)
  unfold w_X9_planTwo_0
  have hg := tw_b ht
  have main := bz_for (n := 6) (Q := fun k => ∀ (S2 : bz_S) (u4 u5 u6 u7 : Option bz_V), fr (fun c k => c = 176 ∨ c = 177 ∨ (c = 175 ∧ 5 ≤ k ∧ ¬ k = 6)) S S2 → S2.1 175 5 = f_ok (f_bj s x o1 o2 m a k) → (∀ lb t e, f_bj s x o1 o2 m a k = some (lb, t, e) → S2.1 175 9 = nI lb ∧ S2.1 175 10 = t ∧ S2.1 175 7 = nI e ∧ S2.1 175 8 = f_eb s o1 o2 lb ∧ ∀ c, c < 4 → S2.1 176 c = nI ((f_w s x o1 o2 m a lb).2 c)) → bz_J G κ kX9_planTwo (d + 2 + 1) (fun v h' => ∃ x, v = some (.inl x) ∧ P x h') bc bs 2 [some (.inr (some 175)), some (.inr (some (24 + o1))), some (.inr (some (24 + o2))), some (.inl (nI k)), u4, u5, u6, u7] [] (bz_hp E S2)) (fun k hk ih S2 u4 u5 u6 u7 r2 v5 v2 => ?_) ?_
  · exact main S none none none none (fr_r _ S) k5 (fun _ _ _ e => by cases e)
  · have ht2 : tw S2 s := tw_f ht r2 (by intro c k h; first | omega | (dsimp only at h ⊢; omega) | (dsimp only at h; omega) | (dsimp only; omega))
    have q3 : S2.1 175 3 = x := (r2.2 175 3 (by first | omega | (dsimp only; omega))).trans k3
    have q4 : S2.1 175 4 = nI a := (r2.2 175 4 (by first | omega | (dsimp only; omega))).trans k4
    have q6 : S2.1 175 6 = nI m := (r2.2 175 6 (by first | omega | (dsimp only; omega))).trans k6
    refine g_X9_planTwo_2 hl _ _ _ _ _ _ _ _ _ ?_
    unfold w_X9_planTwo_2
    refine ⟨fun c => absurd ((nI_leI (a := 6) (by omega) (by omega)).mp c) (by omega), fun _ => ?_⟩
    repeat (first | ((with_reducible apply ap_rc); rfl) | ((with_reducible apply ap_nn)) | ((with_reducible apply ap_rR); rfl) | ((with_reducible apply M_ofOrder); rfl; (exact bz_lit _); omega; (first | omega | decide)) | ((with_reducible apply M_ofRider); rfl; (exact bz_lit _); omega; (first | omega | decide)) | ((with_reducible apply ap_rI); exact kd_ord _ (by omega) _ (by decide)) | ((with_reducible apply ap_wI); exact kd_ord _ (by omega) _ (by decide)) | ((with_reducible apply ap_rI); exact kd_rid _ (by omega) _ (by decide)) | ((with_reducible apply ap_wI); exact kd_rid _ (by omega) _ (by decide)) | ((with_reducible apply ap_rc); exact (kd_clO _ (by omega)).1) | ((with_reducible apply ap_rc); exact (kd_clR _ (by omega)).1) | ((with_reducible apply ap_rc); exact (kd_clR _ (by omega)).2.2.1) | ((with_reducible apply ap_rR); exact (kd_ridA _ (by omega)).1) | ((with_reducible apply ap_rN); rfl) | ((with_reducible apply M_in)) | ((with_reducible apply X_isWithin)) | ((with_reducible apply ap_rI); rfl) | ((with_reducible apply ap_wI); rfl) | ((with_reducible apply ap_iA); rfl; (try simp only [bz_lit, pk_mul, nI_add]); rfl; omega) | ((with_reducible apply ap_iW); rfl; (try simp only [bz_lit, pk_mul, nI_add]); rfl; omega))
    refine X_follow (L := fun i => li (4 * k + i)) (lb := k) (n := 4) rfl h1 h2 hp1 hp2 hk (by decide) rfl rfl ha hm ht2 q3 q4 q6 (fun S3 r3 w3 => ?_)
    have hfw : f_wk s x o1 o2 m a (fun i => li (4 * k + i)) 4 = f_w s x o1 o2 m a k := rfl
    rw [hfw] at w3 ⊢
    have ht3 : tw S3 s := tw_f ht2 r3 (by intro c k h; first | omega | (dsimp only at h ⊢; omega) | (dsimp only at h; omega) | (dsimp only; omega))
    have r23 : fr (fun c k => c = 176 ∨ c = 177 ∨ (c = 175 ∧ 5 ≤ k ∧ ¬ k = 6)) S S3 := fr_t r2 (fr_m r3 (by intro c k h; first | omega | (dsimp only at h ⊢; omega) | (dsimp only at h; omega) | (dsimp only; omega)))
    have b175 : ∀ j, S3.1 175 j = S2.1 175 j := fun j => r3.2 _ _ (by first | omega | (dsimp only; omega))
    have b176 : ∀ j, S3.1 176 j = S2.1 176 j := fun j => r3.2 _ _ (by first | omega | (dsimp only; omega))
    have leave : ∀ u4 u5 u6 u7, f_bj s x o1 o2 m a (k + 1) = f_bj s x o1 o2 m a k → bz_J G κ kX9_planTwo (d + 2 + 1) (fun v h' => ∃ x, v = some (.inl x) ∧ P x h') bc bs 2 [some (.inr (some 175)), some (.inr (some (24 + o1))), some (.inr (some (24 + o2))), some (.inl (nI k + 1)), u4, u5, u6, u7] [] (bz_hp E S3) := by
      intro u4 u5 u6 u7 hb1
      rw [← nI_succ]
      refine ih S3 _ _ _ _ r23 (by rw [hb1, b175]; exact v5) (fun lb t e q => ?_)
      rw [hb1] at q
      obtain ⟨z1, z2, z3, z4, z5⟩ := v2 lb t e q
      exact ⟨(b175 _).trans z1, (b175 _).trans z2, (b175 _).trans z3, (b175 _).trans z4, fun c hc => (b176 c).trans (z5 c hc)⟩
    repeat (first | ((with_reducible apply ap_rc); rfl) | ((with_reducible apply ap_nn)) | ((with_reducible apply ap_rR); rfl) | ((with_reducible apply M_ofOrder); rfl; (exact bz_lit _); omega; (first | omega | decide)) | ((with_reducible apply M_ofRider); rfl; (exact bz_lit _); omega; (first | omega | decide)) | ((with_reducible apply ap_rI); exact kd_ord _ (by omega) _ (by decide)) | ((with_reducible apply ap_wI); exact kd_ord _ (by omega) _ (by decide)) | ((with_reducible apply ap_rI); exact kd_rid _ (by omega) _ (by decide)) | ((with_reducible apply ap_wI); exact kd_rid _ (by omega) _ (by decide)) | ((with_reducible apply ap_rc); exact (kd_clO _ (by omega)).1) | ((with_reducible apply ap_rc); exact (kd_clR _ (by omega)).1) | ((with_reducible apply ap_rc); exact (kd_clR _ (by omega)).2.2.1) | ((with_reducible apply ap_rR); exact (kd_ridA _ (by omega)).1) | ((with_reducible apply ap_rN); rfl) | ((with_reducible apply M_in)) | ((with_reducible apply X_isWithin)) | ((with_reducible apply ap_rI); rfl) | ((with_reducible apply ap_wI); rfl) | ((with_reducible apply ap_iA); rfl; (try simp only [bz_lit, pk_mul, nI_add]); rfl; omega) | ((with_reducible apply ap_iW); rfl; (try simp only [bz_lit, pk_mul, nI_add]); rfl; omega))
    refine X_lateAt h1 (tw_d ht3) ?_
    repeat (first | ((with_reducible apply ap_rc); rfl) | ((with_reducible apply ap_nn)) | ((with_reducible apply ap_rR); rfl) | ((with_reducible apply M_ofOrder); rfl; (exact bz_lit _); omega; (first | omega | decide)) | ((with_reducible apply M_ofRider); rfl; (exact bz_lit _); omega; (first | omega | decide)) | ((with_reducible apply ap_rI); exact kd_ord _ (by omega) _ (by decide)) | ((with_reducible apply ap_wI); exact kd_ord _ (by omega) _ (by decide)) | ((with_reducible apply ap_rI); exact kd_rid _ (by omega) _ (by decide)) | ((with_reducible apply ap_wI); exact kd_rid _ (by omega) _ (by decide)) | ((with_reducible apply ap_rc); exact (kd_clO _ (by omega)).1) | ((with_reducible apply ap_rc); exact (kd_clR _ (by omega)).1) | ((with_reducible apply ap_rc); exact (kd_clR _ (by omega)).2.2.1) | ((with_reducible apply ap_rR); exact (kd_ridA _ (by omega)).1) | ((with_reducible apply ap_rN); rfl) | ((with_reducible apply M_in)) | ((with_reducible apply X_isWithin)) | ((with_reducible apply ap_rI); rfl) | ((with_reducible apply ap_wI); rfl) | ((with_reducible apply ap_iA); rfl; (try simp only [bz_lit, pk_mul, nI_add]); rfl; omega) | ((with_reducible apply ap_iW); rfl; (try simp only [bz_lit, pk_mul, nI_add]); rfl; omega))
    refine X_lateAt h2 (tw_d ht3) ?_
    have key : ∀ (y0 : Int32) (u6 u7 : Option bz_V), (f_fin (f_w s x o1 o2 m a k).1 = none ∨ (∃ e, f_fin (f_w s x o1 o2 m a k).1 = some e ∧ ((y0 = 0 ∧ f_bj s x o1 o2 m a (k + 1) = f_bj s x o1 o2 m a k) ∨ (¬ y0 = 0 ∧ f_bj s x o1 o2 m a (k + 1) = some (k, f_lj s x o1 o2 m a k, e))))) → bz_J G κ kX9_planTwo (d + 2 + 1) (fun v h' => ∃ x, v = some (.inl x) ∧ P x h') bc bs 80 [some (.inr (some 175)), some (.inr (some (24 + o1))), some (.inr (some (24 + o2))), some (.inl (nI k)), some (.inl (f_fo (f_w s x o1 o2 m a k).1)), some (.inl (f_lateBy s o1 (S3.1 177 1) + f_lateBy s o2 (S3.1 177 3))), u6, u7] [.inl y0] (bz_hp E S3) := by
      intro y0 u6 u7 hy
      refine g_X9_planTwo_80 hl _ _ _ _ _ _ _ _ _ _ ?_
      unfold w_X9_planTwo_80
      rcases hy with hy | ⟨e, hfn, hy⟩
      · have hfo : f_fo (f_w s x o1 o2 m a k).1 = -1 := by
          unfold f_fin at hy
          unfold f_fo
          cases h : (f_w s x o1 o2 m a k).1 with
          | none => rfl
          | some q =>
            rw [h] at hy
            dsimp only at hy ⊢
            split
            · next hq => rw [if_pos hq] at hy; cases hy
            · rfl
        rw [hfo]
        exact ⟨fun _ => leave _ _ _ _ (by rw [f_bj, hy]), fun c => absurd rfl c⟩
      · obtain ⟨he, b, hb0⟩ := f_fin_e hfn
        have hfo : f_fo (f_w s x o1 o2 m a k).1 = nI e := by
          rw [hb0]
          exact if_pos he
        have hne : ¬ (f_w s x o1 o2 m a k).1 = none := by rw [hb0]; intro q; cases q
        have wc : ∀ c, c < 4 → S3.1 177 c = nI ((f_w s x o1 o2 m a k).2 c) := by
          intro c hc
          obtain ⟨i, hi, ei⟩ := li_p k hk c hc
          have := w3 hne i hi
          rw [ei] at this
          exact this
        rw [hfo]
        refine ⟨fun c => absurd c (nI_nn (by omega)), fun _ => ?_⟩
        rcases hy with ⟨hy, hb1⟩ | ⟨hy, hb1⟩
        · exact ⟨fun _ => leave _ _ _ _ hb1, fun c => absurd hy c⟩
        · refine ⟨fun c => absurd c hy, fun _ => ?_⟩
          have hix : nI k * 4 + 4 - 1 = nI (4 * k + 3) := by
            rw [show (4 : Int32) = nI 4 from rfl, pk_mul, nI_add, show (1 : Int32) = nI 1 from rfl, pk_sub (by omega)]
            congr 1
            omega
          rw [hix]
          refine ap_rA1 (vp_in_nI (by omega) (by decide)) ?_
          rw [nI_clamp (by omega), (li_e (4 * k + 3) (by omega)).1]
          have done : ∀ (bb : Int32), bb = f_eb s o1 o2 k → ∀ u7, bz_cV G l (d + 2) kX9_takeTried [.inr (some 175), .inl (nI k), .inl (nI e), .inl (f_lateBy s o1 (S3.1 177 1) + f_lateBy s o2 (S3.1 177 3)), .inl bb] (bz_hp E S3) 0 0 (fun h_24 => bz_J G κ kX9_planTwo (d + 2 + 1) (fun v h' => ∃ x, v = some (.inl x) ∧ P x h') bc bs 2 [some (.inr (some 175)), some (.inr (some (24 + o1))), some (.inr (some (24 + o2))), some (.inl (nI k + 1)), some (.inl (nI e)), some (.inl (f_lateBy s o1 (S3.1 177 1) + f_lateBy s o2 (S3.1 177 3))), some (.inl y0), u7] [] h_24) := by
            intro bb hbb u7
            refine X_takeTried (fun S4 r4 j5 j9 j7 j10 j8 jt => ?_)
            rw [← nI_succ]
            refine ih S4 _ _ _ _ (fr_t r23 (fr_m r4 (by intro c k h; first | omega | (dsimp only at h ⊢; omega) | (dsimp only at h; omega) | (dsimp only; omega)))) (by rw [hb1]; exact j5) (fun lb t e' q => ?_)
            rw [hb1] at q
            cases q
            refine ⟨j9, ?_, j7, j8.trans hbb, fun c hc => (jt c hc).trans (wc c hc)⟩
            rw [j10, wc 1 (by decide), wc 3 (by decide)]
            rfl
          rcases li_3 k hk with q | q
          · rw [q]
            refine ⟨fun c => absurd c (by decide), fun _ => ?_⟩
            repeat (first | ((with_reducible apply ap_rc); rfl) | ((with_reducible apply ap_nn)) | ((with_reducible apply ap_rR); rfl) | ((with_reducible apply M_ofOrder); rfl; (exact bz_lit _); omega; (first | omega | decide)) | ((with_reducible apply M_ofRider); rfl; (exact bz_lit _); omega; (first | omega | decide)) | ((with_reducible apply ap_rI); exact kd_ord _ (by omega) _ (by decide)) | ((with_reducible apply ap_wI); exact kd_ord _ (by omega) _ (by decide)) | ((with_reducible apply ap_rI); exact kd_rid _ (by omega) _ (by decide)) | ((with_reducible apply ap_wI); exact kd_rid _ (by omega) _ (by decide)) | ((with_reducible apply ap_rc); exact (kd_clO _ (by omega)).1) | ((with_reducible apply ap_rc); exact (kd_clR _ (by omega)).1) | ((with_reducible apply ap_rc); exact (kd_clR _ (by omega)).2.2.1) | ((with_reducible apply ap_rR); exact (kd_ridA _ (by omega)).1) | ((with_reducible apply ap_rN); rfl) | ((with_reducible apply M_in)) | ((with_reducible apply X_isWithin)) | ((with_reducible apply ap_rI); rfl) | ((with_reducible apply ap_wI); rfl) | ((with_reducible apply ap_iA); rfl; (try simp only [bz_lit, pk_mul, nI_add]); rfl; omega) | ((with_reducible apply ap_iW); rfl; (try simp only [bz_lit, pk_mul, nI_add]); rfl; omega))
            rw [sy_o (tw_s ht3) h1 1 2 (by decide) rfl]
            exact done _ (by unfold f_eb; rw [if_pos q]) _
          · rw [q]
            refine ⟨fun _ => ?_, fun c => absurd (by decide) c⟩
            repeat (first | ((with_reducible apply ap_rc); rfl) | ((with_reducible apply ap_nn)) | ((with_reducible apply ap_rR); rfl) | ((with_reducible apply M_ofOrder); rfl; (exact bz_lit _); omega; (first | omega | decide)) | ((with_reducible apply M_ofRider); rfl; (exact bz_lit _); omega; (first | omega | decide)) | ((with_reducible apply ap_rI); exact kd_ord _ (by omega) _ (by decide)) | ((with_reducible apply ap_wI); exact kd_ord _ (by omega) _ (by decide)) | ((with_reducible apply ap_rI); exact kd_rid _ (by omega) _ (by decide)) | ((with_reducible apply ap_wI); exact kd_rid _ (by omega) _ (by decide)) | ((with_reducible apply ap_rc); exact (kd_clO _ (by omega)).1) | ((with_reducible apply ap_rc); exact (kd_clR _ (by omega)).1) | ((with_reducible apply ap_rc); exact (kd_clR _ (by omega)).2.2.1) | ((with_reducible apply ap_rR); exact (kd_ridA _ (by omega)).1) | ((with_reducible apply ap_rN); rfl) | ((with_reducible apply M_in)) | ((with_reducible apply X_isWithin)) | ((with_reducible apply ap_rI); rfl) | ((with_reducible apply ap_wI); rfl) | ((with_reducible apply ap_iA); rfl; (try simp only [bz_lit, pk_mul, nI_add]); rfl; omega) | ((with_reducible apply ap_iW); rfl; (try simp only [bz_lit, pk_mul, nI_add]); rfl; omega))
            rw [sy_o (tw_s ht3) h2 1 2 (by decide) rfl]
            exact done _ (by unfold f_eb; rw [if_neg (by rw [q]; decide)]) _
    repeat (first | ((with_reducible apply ap_rc); rfl) | ((with_reducible apply ap_nn)) | ((with_reducible apply ap_rR); rfl) | ((with_reducible apply M_ofOrder); rfl; (exact bz_lit _); omega; (first | omega | decide)) | ((with_reducible apply M_ofRider); rfl; (exact bz_lit _); omega; (first | omega | decide)) | ((with_reducible apply ap_rI); exact kd_ord _ (by omega) _ (by decide)) | ((with_reducible apply ap_wI); exact kd_ord _ (by omega) _ (by decide)) | ((with_reducible apply ap_rI); exact kd_rid _ (by omega) _ (by decide)) | ((with_reducible apply ap_wI); exact kd_rid _ (by omega) _ (by decide)) | ((with_reducible apply ap_rc); exact (kd_clO _ (by omega)).1) | ((with_reducible apply ap_rc); exact (kd_clR _ (by omega)).1) | ((with_reducible apply ap_rc); exact (kd_clR _ (by omega)).2.2.1) | ((with_reducible apply ap_rR); exact (kd_ridA _ (by omega)).1) | ((with_reducible apply ap_rN); rfl) | ((with_reducible apply M_in)) | ((with_reducible apply X_isWithin)) | ((with_reducible apply ap_rI); rfl) | ((with_reducible apply ap_wI); rfl) | ((with_reducible apply ap_iA); rfl; (try simp only [bz_lit, pk_mul, nI_add]); rfl; omega) | ((with_reducible apply ap_iW); rfl; (try simp only [bz_lit, pk_mul, nI_add]); rfl; omega))
    rw [b175, v5]
    cases hfn : f_fin (f_w s x o1 o2 m a k).1 with
    | none =>
      have key' : ∀ y0 u6 u7, _ := fun y0 u6 u7 => key y0 u6 u7 (Or.inl hfn)
      refine ⟨fun _ => key' _ _ _, fun _ => ?_⟩
      repeat (first | ((with_reducible apply ap_rc); rfl) | ((with_reducible apply ap_nn)) | ((with_reducible apply ap_rR); rfl) | ((with_reducible apply M_ofOrder); rfl; (exact bz_lit _); omega; (first | omega | decide)) | ((with_reducible apply M_ofRider); rfl; (exact bz_lit _); omega; (first | omega | decide)) | ((with_reducible apply ap_rI); exact kd_ord _ (by omega) _ (by decide)) | ((with_reducible apply ap_wI); exact kd_ord _ (by omega) _ (by decide)) | ((with_reducible apply ap_rI); exact kd_rid _ (by omega) _ (by decide)) | ((with_reducible apply ap_wI); exact kd_rid _ (by omega) _ (by decide)) | ((with_reducible apply ap_rc); exact (kd_clO _ (by omega)).1) | ((with_reducible apply ap_rc); exact (kd_clR _ (by omega)).1) | ((with_reducible apply ap_rc); exact (kd_clR _ (by omega)).2.2.1) | ((with_reducible apply ap_rR); exact (kd_ridA _ (by omega)).1) | ((with_reducible apply ap_rN); rfl) | ((with_reducible apply M_in)) | ((with_reducible apply X_isWithin)) | ((with_reducible apply ap_rI); rfl) | ((with_reducible apply ap_wI); rfl) | ((with_reducible apply ap_iA); rfl; (try simp only [bz_lit, pk_mul, nI_add]); rfl; omega) | ((with_reducible apply ap_iW); rfl; (try simp only [bz_lit, pk_mul, nI_add]); rfl; omega))
      refine ⟨fun _ => key' _ _ _, fun _ => ?_⟩
      repeat (first | ((with_reducible apply ap_rc); rfl) | ((with_reducible apply ap_nn)) | ((with_reducible apply ap_rR); rfl) | ((with_reducible apply M_ofOrder); rfl; (exact bz_lit _); omega; (first | omega | decide)) | ((with_reducible apply M_ofRider); rfl; (exact bz_lit _); omega; (first | omega | decide)) | ((with_reducible apply ap_rI); exact kd_ord _ (by omega) _ (by decide)) | ((with_reducible apply ap_wI); exact kd_ord _ (by omega) _ (by decide)) | ((with_reducible apply ap_rI); exact kd_rid _ (by omega) _ (by decide)) | ((with_reducible apply ap_wI); exact kd_rid _ (by omega) _ (by decide)) | ((with_reducible apply ap_rc); exact (kd_clO _ (by omega)).1) | ((with_reducible apply ap_rc); exact (kd_clR _ (by omega)).1) | ((with_reducible apply ap_rc); exact (kd_clR _ (by omega)).2.2.1) | ((with_reducible apply ap_rR); exact (kd_ridA _ (by omega)).1) | ((with_reducible apply ap_rN); rfl) | ((with_reducible apply M_in)) | ((with_reducible apply X_isWithin)) | ((with_reducible apply ap_rI); rfl) | ((with_reducible apply ap_wI); rfl) | ((with_reducible apply ap_iA); rfl; (try simp only [bz_lit, pk_mul, nI_add]); rfl; omega) | ((with_reducible apply ap_iW); rfl; (try simp only [bz_lit, pk_mul, nI_add]); rfl; omega))
      refine ⟨fun _ => key' _ _ _, fun _ => ?_⟩
      repeat (first | ((with_reducible apply ap_rc); rfl) | ((with_reducible apply ap_nn)) | ((with_reducible apply ap_rR); rfl) | ((with_reducible apply M_ofOrder); rfl; (exact bz_lit _); omega; (first | omega | decide)) | ((with_reducible apply M_ofRider); rfl; (exact bz_lit _); omega; (first | omega | decide)) | ((with_reducible apply ap_rI); exact kd_ord _ (by omega) _ (by decide)) | ((with_reducible apply ap_wI); exact kd_ord _ (by omega) _ (by decide)) | ((with_reducible apply ap_rI); exact kd_rid _ (by omega) _ (by decide)) | ((with_reducible apply ap_wI); exact kd_rid _ (by omega) _ (by decide)) | ((with_reducible apply ap_rc); exact (kd_clO _ (by omega)).1) | ((with_reducible apply ap_rc); exact (kd_clR _ (by omega)).1) | ((with_reducible apply ap_rc); exact (kd_clR _ (by omega)).2.2.1) | ((with_reducible apply ap_rR); exact (kd_ridA _ (by omega)).1) | ((with_reducible apply ap_rN); rfl) | ((with_reducible apply M_in)) | ((with_reducible apply X_isWithin)) | ((with_reducible apply ap_rI); rfl) | ((with_reducible apply ap_wI); rfl) | ((with_reducible apply ap_iA); rfl; (try simp only [bz_lit, pk_mul, nI_add]); rfl; omega) | ((with_reducible apply ap_iW); rfl; (try simp only [bz_lit, pk_mul, nI_add]); rfl; omega))
      exact key' _ _ _
    | some e =>
      obtain ⟨he, b, hb0⟩ := f_fin_e hfn
      have hne : ¬ (f_w s x o1 o2 m a k).1 = none := by rw [hb0]; intro q; cases q
      have wc : ∀ c, c < 4 → S3.1 177 c = nI ((f_w s x o1 o2 m a k).2 c) := by
        intro c hc
        obtain ⟨i, hi, ei⟩ := li_p k hk c hc
        have := w3 hne i hi
        rw [ei] at this
        exact this
      have hlt : f_lateBy s o1 (S3.1 177 1) + f_lateBy s o2 (S3.1 177 3) = f_lj s x o1 o2 m a k := by
        rw [wc 1 (by decide), wc 3 (by decide)]; rfl
      have hfo : f_fo (f_w s x o1 o2 m a k).1 = nI e := by
        rw [hb0]
        exact if_pos he
      have take : ∀ (y0 : Int32) u6 u7, ¬ y0 = 0 → f_bj s x o1 o2 m a (k + 1) = some (k, f_lj s x o1 o2 m a k, e) → _ := fun y0 u6 u7 hy hb1 => key y0 u6 u7 (Or.inr ⟨e, hfn, Or.inr ⟨hy, hb1⟩⟩)
      have keep : ∀ (y0 : Int32) u6 u7, y0 = 0 → f_bj s x o1 o2 m a (k + 1) = f_bj s x o1 o2 m a k → _ := fun y0 u6 u7 hy hb1 => key y0 u6 u7 (Or.inr ⟨e, hfn, Or.inl ⟨hy, hb1⟩⟩)
      have hbs : f_bj s x o1 o2 m a (k + 1) = (match f_bj s x o1 o2 m a k with | none => some (k, f_lj s x o1 o2 m a k, e) | some (lb, t, e0) => if f_lj s x o1 o2 m a k < t ∨ (f_lj s x o1 o2 m a k = t ∧ e < e0) then some (k, f_lj s x o1 o2 m a k, e) else some (lb, t, e0)) := by
        rw [f_bj, hfn]
        rfl
      cases hb : f_bj s x o1 o2 m a k with
      | none =>
        rw [hb] at hbs
        exact ⟨fun _ => take 1 _ _ (by decide) hbs, fun c => absurd rfl c⟩
      | some q =>
        obtain ⟨lb, t, e0⟩ := q
        rw [hb] at hbs
        dsimp only at hbs
        obtain ⟨z1, z2, z3, z4, z5⟩ := v2 lb t e0 hb
        obtain ⟨p1, p2, p3⟩ := f_bj_i hb
        have he0 := (f_fin_e p3).1
        refine ⟨fun c => absurd c (f_ok_1 _), fun _ => ?_⟩
        repeat (first | ((with_reducible apply ap_rc); rfl) | ((with_reducible apply ap_nn)) | ((with_reducible apply ap_rR); rfl) | ((with_reducible apply M_ofOrder); rfl; (exact bz_lit _); omega; (first | omega | decide)) | ((with_reducible apply M_ofRider); rfl; (exact bz_lit _); omega; (first | omega | decide)) | ((with_reducible apply ap_rI); exact kd_ord _ (by omega) _ (by decide)) | ((with_reducible apply ap_wI); exact kd_ord _ (by omega) _ (by decide)) | ((with_reducible apply ap_rI); exact kd_rid _ (by omega) _ (by decide)) | ((with_reducible apply ap_wI); exact kd_rid _ (by omega) _ (by decide)) | ((with_reducible apply ap_rc); exact (kd_clO _ (by omega)).1) | ((with_reducible apply ap_rc); exact (kd_clR _ (by omega)).1) | ((with_reducible apply ap_rc); exact (kd_clR _ (by omega)).2.2.1) | ((with_reducible apply ap_rR); exact (kd_ridA _ (by omega)).1) | ((with_reducible apply ap_rN); rfl) | ((with_reducible apply M_in)) | ((with_reducible apply X_isWithin)) | ((with_reducible apply ap_rI); rfl) | ((with_reducible apply ap_wI); rfl) | ((with_reducible apply ap_iA); rfl; (try simp only [bz_lit, pk_mul, nI_add]); rfl; omega) | ((with_reducible apply ap_iW); rfl; (try simp only [bz_lit, pk_mul, nI_add]); rfl; omega))
        rw [b175, z2]
        refine ⟨fun c => take 1 _ _ (by decide) (by rw [hbs, if_pos (Or.inl (by rw [← hlt]; exact c))]), fun c => ?_⟩
        repeat (first | ((with_reducible apply ap_rc); rfl) | ((with_reducible apply ap_nn)) | ((with_reducible apply ap_rR); rfl) | ((with_reducible apply M_ofOrder); rfl; (exact bz_lit _); omega; (first | omega | decide)) | ((with_reducible apply M_ofRider); rfl; (exact bz_lit _); omega; (first | omega | decide)) | ((with_reducible apply ap_rI); exact kd_ord _ (by omega) _ (by decide)) | ((with_reducible apply ap_wI); exact kd_ord _ (by omega) _ (by decide)) | ((with_reducible apply ap_rI); exact kd_rid _ (by omega) _ (by decide)) | ((with_reducible apply ap_wI); exact kd_rid _ (by omega) _ (by decide)) | ((with_reducible apply ap_rc); exact (kd_clO _ (by omega)).1) | ((with_reducible apply ap_rc); exact (kd_clR _ (by omega)).1) | ((with_reducible apply ap_rc); exact (kd_clR _ (by omega)).2.2.1) | ((with_reducible apply ap_rR); exact (kd_ridA _ (by omega)).1) | ((with_reducible apply ap_rN); rfl) | ((with_reducible apply M_in)) | ((with_reducible apply X_isWithin)) | ((with_reducible apply ap_rI); rfl) | ((with_reducible apply ap_wI); rfl) | ((with_reducible apply ap_iA); rfl; (try simp only [bz_lit, pk_mul, nI_add]); rfl; omega) | ((with_reducible apply ap_iW); rfl; (try simp only [bz_lit, pk_mul, nI_add]); rfl; omega))
        rw [b175, z2]
        refine ⟨fun c1 => keep _ _ _ rfl (by rw [hbs, hb, if_neg (fun q => q.elim (fun q => c (by rw [hlt]; exact q)) (fun q => c1 (by rw [hlt]; exact q.1)))]), fun c1 => ?_⟩
        repeat (first | ((with_reducible apply ap_rc); rfl) | ((with_reducible apply ap_nn)) | ((with_reducible apply ap_rR); rfl) | ((with_reducible apply M_ofOrder); rfl; (exact bz_lit _); omega; (first | omega | decide)) | ((with_reducible apply M_ofRider); rfl; (exact bz_lit _); omega; (first | omega | decide)) | ((with_reducible apply ap_rI); exact kd_ord _ (by omega) _ (by decide)) | ((with_reducible apply ap_wI); exact kd_ord _ (by omega) _ (by decide)) | ((with_reducible apply ap_rI); exact kd_rid _ (by omega) _ (by decide)) | ((with_reducible apply ap_wI); exact kd_rid _ (by omega) _ (by decide)) | ((with_reducible apply ap_rc); exact (kd_clO _ (by omega)).1) | ((with_reducible apply ap_rc); exact (kd_clR _ (by omega)).1) | ((with_reducible apply ap_rc); exact (kd_clR _ (by omega)).2.2.1) | ((with_reducible apply ap_rR); exact (kd_ridA _ (by omega)).1) | ((with_reducible apply ap_rN); rfl) | ((with_reducible apply M_in)) | ((with_reducible apply X_isWithin)) | ((with_reducible apply ap_rI); rfl) | ((with_reducible apply ap_wI); rfl) | ((with_reducible apply ap_iA); rfl; (try simp only [bz_lit, pk_mul, nI_add]); rfl; omega) | ((with_reducible apply ap_iW); rfl; (try simp only [bz_lit, pk_mul, nI_add]); rfl; omega))
        rw [b175, z3]
        by_cases c2 : nI e0 ≤ f_fo (f_w s x o1 o2 m a k).1
        · rw [if_pos c2]
          have c3 := c2
          rw [hfo] at c3
          have := (nI_leI (by omega) (by omega)).mp c3
          exact keep _ _ _ rfl (by rw [hbs, hb, if_neg (fun q => q.elim (fun q => c (by rw [hlt]; exact q)) (fun q => by omega))])
        · rw [if_neg c2]
          have : e < e0 := by
            rcases Nat.lt_or_ge e e0 with q | q
            · exact q
            · exact absurd (by rw [hfo]; exact nI_le q (by omega)) c2
          exact take 1 _ _ (by decide) (by rw [hbs, if_pos (Or.inr ⟨by rw [← hlt]; exact c1, this⟩)])
  · intro S2 u4 u5 u6 u7 r2 v5 v2
    refine g_X9_planTwo_2 hl _ _ _ _ _ _ _ _ _ ?_
    unfold w_X9_planTwo_2
    refine ⟨fun _ => ?_, fun c => absurd (by decide) c⟩
    repeat (first | ((with_reducible apply ap_rc); rfl) | ((with_reducible apply ap_nn)) | ((with_reducible apply ap_rR); rfl) | ((with_reducible apply M_ofOrder); rfl; (exact bz_lit _); omega; (first | omega | decide)) | ((with_reducible apply M_ofRider); rfl; (exact bz_lit _); omega; (first | omega | decide)) | ((with_reducible apply ap_rI); exact kd_ord _ (by omega) _ (by decide)) | ((with_reducible apply ap_wI); exact kd_ord _ (by omega) _ (by decide)) | ((with_reducible apply ap_rI); exact kd_rid _ (by omega) _ (by decide)) | ((with_reducible apply ap_wI); exact kd_rid _ (by omega) _ (by decide)) | ((with_reducible apply ap_rc); exact (kd_clO _ (by omega)).1) | ((with_reducible apply ap_rc); exact (kd_clR _ (by omega)).1) | ((with_reducible apply ap_rc); exact (kd_clR _ (by omega)).2.2.1) | ((with_reducible apply ap_rR); exact (kd_ridA _ (by omega)).1) | ((with_reducible apply ap_rN); rfl) | ((with_reducible apply M_in)) | ((with_reducible apply X_isWithin)) | ((with_reducible apply ap_rI); rfl) | ((with_reducible apply ap_wI); rfl) | ((with_reducible apply ap_iA); rfl; (try simp only [bz_lit, pk_mul, nI_add]); rfl; omega) | ((with_reducible apply ap_iW); rfl; (try simp only [bz_lit, pk_mul, nI_add]); rfl; omega))
    rw [v5]
    exact ⟨f_ok01 _, _, rfl, hP S2 r2 v2⟩
end XJO
