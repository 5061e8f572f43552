/-! the class's trips -/
theorem fr_ur {X : Nat → Nat → Prop} {S : bz_S} {c : Nat} {g : Nat → Int32} (h : ∀ k, X c k) : fr X S (bz_ur S.1 c g, S.2) := by
  refine ⟨rfl, fun b j q => ?_⟩
  dsimp only
  by_cases e : b = c
  · subst e; exact absurd (h j) q
  · rw [bz_ur_ne _ _ e]
def f_fo (q : Option (Nat × Nat)) : Int32 := match q with
  | none => -1
  | some q => if q.1 ≤ 1439 then nI q.1 else -1
theorem f_go_no (x : Int32) : f_go x (-1) = -1 := by
  unfold f_go
  rw [if_neg (by decide)]
theorem nI_nn {n : Nat} (h : n < 2 ^ 31) : ¬ nI n = -1 := by
  intro q
  have := nI_pos (n := n) h
  rw [q] at this
  exact this (by decide)
theorem mx_n {a b : Nat} (ha : a < 2 ^ 31) (hb : b < 2 ^ 31) : (if nI a < nI b then nI b else nI a) = nI (if a ≤ b then b else a) := by
  by_cases h : a < b
  · rw [if_pos (nI_lt h hb), if_pos (by omega)]
  · rw [if_neg (nI_nlt (by omega) ha)]
    by_cases h2 : a ≤ b
    · rw [if_pos h2, show a = b by omega]
    · rw [if_neg h2]
theorem f_stp_0 (s : Nat → Int32) (x : Int32) (o1 o2 : Nat) (st : Option (Nat × Nat)) : f_stp s x o1 o2 0 st = f_pk s x o1 st := by
  unfold f_stp
  rw [if_pos (by decide : 0 % 2 = 0), if_pos (by decide : 0 < 2)]
theorem f_stp_1 (s : Nat → Int32) (x : Int32) (o1 o2 : Nat) (st : Option (Nat × Nat)) : f_stp s x o1 o2 1 st = f_dr s x o1 st := by
  unfold f_stp
  rw [if_neg (by decide : ¬ 1 % 2 = 0), if_pos (by decide : 1 < 2)]
theorem f_stp_2 (s : Nat → Int32) (x : Int32) (o1 o2 : Nat) (st : Option (Nat × Nat)) : f_stp s x o1 o2 2 st = f_pk s x o2 st := by
  unfold f_stp
  rw [if_pos (by decide : 2 % 2 = 0), if_neg (by decide : ¬ 2 < 2)]
theorem f_stp_3 (s : Nat → Int32) (x : Int32) (o1 o2 : Nat) (st : Option (Nat × Nat)) : f_stp s x o1 o2 3 st = f_dr s x o2 st := by
  unfold f_stp
  rw [if_neg (by decide : ¬ 3 % 2 = 0), if_neg (by decide : ¬ 3 < 2)]
section XTR
variable {G : bz_G} {l : Launch} {d : Nat} {E : Nat × (Nat → Int32)} {S : bz_S} {s : Nat → Int32}
theorem X_follow {P : Int32 → bz_H → Prop} {x y1 y2 : Int32} {o1 o2 m a lb n : Nat} {L : Nat → Nat} (hL : L = fun i => li (4 * lb + i)) (h1 : o1 < 24) (h2 : o2 < 24) (hp1 : o1 < (s 2).toNatClampNeg) (hp2 : o2 < (s 2).toNatClampNeg) (hlb : lb < 6) (hn : n ≤ 4) (hy1 : y1 = nI lb) (hy2 : y2 = nI n) (ha : a < 16) (hm : m ≤ 1440) (ht : tw S s) (k3 : S.1 175 3 = x) (k4 : S.1 175 4 = nI a) (k6 : S.1 175 6 = nI m) (hP : ∀ S', fr (fun c _ => c = 177) S S' → (¬ (f_wk s x o1 o2 m a L n).1 = none → ∀ i, i < n → S'.1 177 (L i) = nI ((f_wk s x o1 o2 m a L n).2 (L i))) → P (f_fo (f_wk s x o1 o2 m a L n).1) (bz_hp E S')) : bz_cI G l (d + 2) kX9_follow [.inr (some 175), .inl y1, .inl y2, .inr (some (24 + o1)), .inr (some (24 + o2))] (bz_hp E S) 0 0 P := by
  refine m_X9_follow _ _ _ _ _ _ (fun κ bc bs hl => ?_)
  unfold w_X9_follow_0
  subst hy1; subst hy2
  have hg := tw_b ht
  repeat (first | ((with_reducible apply ap_rc); rfl) | ((with_reducible apply ap_nn)) | ((with_reducible apply ap_rR); rfl) | ((with_reducible apply M_ofOrder); rfl; (exact bz_lit _); omega; (first | omega | decide)) | ((with_reducible apply M_ofRider); rfl; (exact bz_lit _); omega; (first | omega | decide)) | ((with_reducible apply ap_rI); exact kd_ord _ (by omega) _ (by decide)) | ((with_reducible apply ap_wI); exact kd_ord _ (by omega) _ (by decide)) | ((with_reducible apply ap_rI); exact kd_rid _ (by omega) _ (by decide)) | ((with_reducible apply ap_wI); exact kd_rid _ (by omega) _ (by decide)) | ((with_reducible apply ap_rc); exact (kd_clO _ (by omega)).1) | ((with_reducible apply ap_rc); exact (kd_clR _ (by omega)).1) | ((with_reducible apply ap_rc); exact (kd_clR _ (by omega)).2.2.1) | ((with_reducible apply ap_rR); exact (kd_ridA _ (by omega)).1) | ((with_reducible apply ap_rN); rfl) | ((with_reducible apply M_in)) | ((with_reducible apply X_isWithin)) | ((with_reducible apply ap_rI); rfl) | ((with_reducible apply ap_wI); rfl) | ((with_reducible apply ap_iA); rfl; (try simp only [bz_lit, pk_mul, nI_add]); rfl; omega) | ((with_reducible apply ap_iW); rfl; (try simp only [bz_lit, pk_mul, nI_add]); rfl; omega))
  rw [k4, k6]
  have main := bz_for (n := n) (Q := fun k => ∀ (S1 : bz_S) (mm aa : Nat) (u8 u9 u10 u11 u12 : Option bz_V), fr (fun c _ => c = 177) S S1 → (f_wk s x o1 o2 m a L k).1 = some (mm, aa) → (∀ i, i < k → S1.1 177 (L i) = nI ((f_wk s x o1 o2 m a L k).2 (L i))) → bz_J G κ kX9_follow (d + 1 + 1) (fun v h' => ∃ x, v = some (.inl x) ∧ P x h') bc bs 15 [some (.inr (some 175)), some (.inl (nI lb)), some (.inl (nI n)), some (.inr (some (24 + o1))), some (.inr (some (24 + o2))), some (.inl (nI mm)), some (.inl (nI aa)), some (.inl (nI k)), u8, u9, u10, u11, u12] [] (bz_hp E S1)) (fun k hk ih S1 mm aa u8 u9 u10 u11 u12 r1 e1 v1 => ?_) ?_
  · exact main S m a none none none none none (fr_r _ S) rfl (fun i hi => absurd hi (by omega))
  · have sw := sb_wk hg (x := x) (m := m) (L := L) h1 h2 ha k mm aa e1
    have ht1 : tw S1 s := tw_f ht r1 (by intro c k h; first | omega | (dsimp only at h ⊢; omega) | (dsimp only at h; omega) | (dsimp only; omega))
    have hLk : L k = li (4 * lb + k) := by rw [hL]
    obtain ⟨hli, hl4⟩ := li_e (4 * lb + k) (by omega)
    rw [← hLk] at hli hl4
    have q3 : S1.1 175 3 = x := (r1.2 175 3 (by first | omega | (dsimp only; omega))).trans k3
    have key : ∀ (oc nx : Nat) (x9 : Int32) (u11 u12 : Option bz_V), oc < 24 → oc < (s 2).toNatClampNeg → nx < 16 → (f_stp s x o1 o2 (L k) (some (mm, aa)) = (f_ri s x nx (some (mm, aa))).map (fun q => (if x9 = 0 then q.1 else if q.1 ≤ (f_rdy s oc).toNatClampNeg then (f_rdy s oc).toNatClampNeg else q.1, q.2))) → bz_J G κ kX9_follow (d + 1 + 1) (fun v h' => ∃ x, v = some (.inl x) ∧ P x h') bc bs 83 [some (.inr (some 175)), some (.inl (nI lb)), some (.inl (nI n)), some (.inr (some (24 + o1))), some (.inr (some (24 + o2))), some (.inl (nI mm)), some (.inl (nI aa)), some (.inl (nI k)), some (.inl (nI (L k))), some (.inl x9), some (.inr (some (24 + oc))), u11, u12] [.inl (nI nx)] (bz_hp E S1) := by
      intro oc nx x9 u11 u12 hoc hpc hnx hst
      refine g_X9_follow_83 hl _ _ _ _ _ _ _ _ _ _ _ _ _ _ _ ?_
      unfold w_X9_follow_83
      repeat (first | ((with_reducible apply ap_rc); rfl) | ((with_reducible apply ap_nn)) | ((with_reducible apply ap_rR); rfl) | ((with_reducible apply M_ofOrder); rfl; (exact bz_lit _); omega; (first | omega | decide)) | ((with_reducible apply M_ofRider); rfl; (exact bz_lit _); omega; (first | omega | decide)) | ((with_reducible apply ap_rI); exact kd_ord _ (by omega) _ (by decide)) | ((with_reducible apply ap_wI); exact kd_ord _ (by omega) _ (by decide)) | ((with_reducible apply ap_rI); exact kd_rid _ (by omega) _ (by decide)) | ((with_reducible apply ap_wI); exact kd_rid _ (by omega) _ (by decide)) | ((with_reducible apply ap_rc); exact (kd_clO _ (by omega)).1) | ((with_reducible apply ap_rc); exact (kd_clR _ (by omega)).1) | ((with_reducible apply ap_rc); exact (kd_clR _ (by omega)).2.2.1) | ((with_reducible apply ap_rR); exact (kd_ridA _ (by omega)).1) | ((with_reducible apply ap_rN); rfl) | ((with_reducible apply M_in)) | ((with_reducible apply X_isWithin)) | ((with_reducible apply ap_rI); rfl) | ((with_reducible apply ap_wI); rfl) | ((with_reducible apply ap_iA); rfl; (try simp only [bz_lit, pk_mul, nI_add]); rfl; omega) | ((with_reducible apply ap_iW); rfl; (try simp only [bz_lit, pk_mul, nI_add]); rfl; omega))
      refine X_wayBetween sw.2 hnx ?_
      rw [tw_w ht1 sw.2 hnx, q3]
      refine X_legFor (fun v => f_wy_b hg (by omega)) ?_
      have hnext : (f_wk s x o1 o2 m a L (k + 1)).1 = f_stp s x o1 o2 (L k) (some (mm, aa)) := by rw [f_wk, e1]
      cases hw : f_wy s 16 aa nx with
      | none =>
        have hno : (f_wk s x o1 o2 m a L n).1 = none := by
          have : (f_wk s x o1 o2 m a L (k + 1)).1 = none := by
            rw [hnext, hst]
            show ((f_wy s 16 aa nx).map _).map _ = none
            rw [hw]; rfl
          have := f_wk_n this (n - (k + 1))
          rw [show k + 1 + (n - (k + 1)) = n by omega] at this
          exact this
        rw [show f_no none = -1 from rfl, f_go_no]
        refine ⟨fun c => absurd rfl c, fun _ => ⟨_, rfl, ?_⟩⟩
        have := hP S1 r1 (fun q => absurd hno q)
        rw [hno] at this
        exact this
      | some w =>
        have hleg := f_leg_e x (f_wy_b hg (by omega) hw)
        rw [show f_no (some w) = nI w from rfl, hleg.1]
        refine ⟨fun _ => ?_, fun c => absurd c (nI_nn (by omega))⟩
        rw [nI_add]
        have hri : f_ri s x nx (some (mm, aa)) = some (mm + f_leg x w, nx) := by
          show (f_wy s 16 aa nx).map _ = _
          rw [hw]; rfl
        rw [hri] at hst
        have step : ∀ (v : Nat) (u8 u9 u10 u11 u12 : Option bz_V), f_stp s x o1 o2 (L k) (some (mm, aa)) = some (v, nx) → bz_J G κ kX9_follow (d + 1 + 1) (fun v h' => ∃ x, v = some (.inl x) ∧ P x h') bc bs 15 [some (.inr (some 175)), some (.inl (nI lb)), some (.inl (nI n)), some (.inr (some (24 + o1))), some (.inr (some (24 + o2))), some (.inl (nI v)), some (.inl (nI nx)), some (.inl (nI k + 1)), u8, u9, u10, u11, u12] [] (bz_hp E (bz_u S1.1 177 (L k) (nI v), S1.2)) := by
          intro v u8 u9 u10 u11 u12 hv
          rw [← nI_succ]
          refine ih _ _ _ _ _ _ _ _ (fr_t r1 (fr_u (S := S1) (by first | omega | (dsimp only; omega)))) (by rw [hnext, hv]) (fun i hi => ?_)
          rw [f_wk, e1]
          dsimp only
          by_cases hc : L i = L k
          · rw [hc, bz_u_same, if_pos rfl, hv]
          · rw [bz_u_ne _ _ (Or.inr hc), if_neg hc]
            exact v1 i (by
              rcases Nat.lt_or_ge i k with q | q
              · exact q
              · exact absurd (by rw [show i = k by omega]) hc)
        refine ⟨fun c => ?_, fun c => ?_⟩
        · repeat (first | ((with_reducible apply ap_rc); rfl) | ((with_reducible apply ap_nn)) | ((with_reducible apply ap_rR); rfl) | ((with_reducible apply M_ofOrder); rfl; (exact bz_lit _); omega; (first | omega | decide)) | ((with_reducible apply M_ofRider); rfl; (exact bz_lit _); omega; (first | omega | decide)) | ((with_reducible apply ap_rI); exact kd_ord _ (by omega) _ (by decide)) | ((with_reducible apply ap_wI); exact kd_ord _ (by omega) _ (by decide)) | ((with_reducible apply ap_rI); exact kd_rid _ (by omega) _ (by decide)) | ((with_reducible apply ap_wI); exact kd_rid _ (by omega) _ (by decide)) | ((with_reducible apply ap_rc); exact (kd_clO _ (by omega)).1) | ((with_reducible apply ap_rc); exact (kd_clR _ (by omega)).1) | ((with_reducible apply ap_rc); exact (kd_clR _ (by omega)).2.2.1) | ((with_reducible apply ap_rR); exact (kd_ridA _ (by omega)).1) | ((with_reducible apply ap_rN); rfl) | ((with_reducible apply M_in)) | ((with_reducible apply X_isWithin)) | ((with_reducible apply ap_rI); rfl) | ((with_reducible apply ap_wI); rfl) | ((with_reducible apply ap_iA); rfl; (try simp only [bz_lit, pk_mul, nI_add]); rfl; omega) | ((with_reducible apply ap_iW); rfl; (try simp only [bz_lit, pk_mul, nI_add]); rfl; omega))
          subst c
          exact step _ _ _ _ _ _ (by rw [hst]; rfl)
        · obtain ⟨y, hy, ey⟩ := gb_rdy hg hoc
          repeat (first | ((with_reducible apply ap_rc); rfl) | ((with_reducible apply ap_nn)) | ((with_reducible apply ap_rR); rfl) | ((with_reducible apply M_ofOrder); rfl; (exact bz_lit _); omega; (first | omega | decide)) | ((with_reducible apply M_ofRider); rfl; (exact bz_lit _); omega; (first | omega | decide)) | ((with_reducible apply ap_rI); exact kd_ord _ (by omega) _ (by decide)) | ((with_reducible apply ap_wI); exact kd_ord _ (by omega) _ (by decide)) | ((with_reducible apply ap_rI); exact kd_rid _ (by omega) _ (by decide)) | ((with_reducible apply ap_wI); exact kd_rid _ (by omega) _ (by decide)) | ((with_reducible apply ap_rc); exact (kd_clO _ (by omega)).1) | ((with_reducible apply ap_rc); exact (kd_clR _ (by omega)).1) | ((with_reducible apply ap_rc); exact (kd_clR _ (by omega)).2.2.1) | ((with_reducible apply ap_rR); exact (kd_ridA _ (by omega)).1) | ((with_reducible apply ap_rN); rfl) | ((with_reducible apply M_in)) | ((with_reducible apply X_isWithin)) | ((with_reducible apply ap_rI); rfl) | ((with_reducible apply ap_wI); rfl) | ((with_reducible apply ap_iA); rfl; (try simp only [bz_lit, pk_mul, nI_add]); rfl; omega) | ((with_reducible apply ap_iW); rfl; (try simp only [bz_lit, pk_mul, nI_add]); rfl; omega))
          rw [(dv_pl (tw_d ht1) hoc hpc).2.1, ey, mx_n (by omega) (by omega)]
          refine step _ _ _ _ _ _ ?_
          rw [hst, ey, nI_clamp (by omega)]
          show some ((if x9 = 0 then _ else _), _) = _
          rw [if_neg c]
    refine g_X9_follow_15 hl _ _ _ _ _ _ _ _ _ _ _ _ _ _ ?_
    unfold w_X9_follow_15
    refine ⟨fun c => absurd ((nI_leI (by omega) (by omega)).mp c) (by omega), fun _ => ?_⟩
    have hix : nI lb * 4 + nI k = nI (4 * lb + k) := by
      rw [show (4 : Int32) = nI 4 from rfl, pk_mul, nI_add, Nat.mul_comm]
    rw [hix]
    refine ap_rA1 (vp_in_nI (by omega) (by decide)) ?_
    rw [nI_clamp (by omega), hli]
    obtain ⟨t1, ht1', et1⟩ : bz_lt (s (312 + 12 * o1 + 1)) 16 := gb_o hg h1 1 (by decide)
    obtain ⟨t2, ht2', et2⟩ : bz_lt (s (312 + 12 * o2 + 1)) 16 := gb_o hg h2 1 (by decide)
    obtain ⟨g1, hg1, eg1⟩ := gb_ka hg h1
    obtain ⟨g2, hg2, eg2⟩ := gb_ka hg h2
    rcases (by omega : L k = 0 ∨ L k = 1 ∨ L k = 2 ∨ L k = 3) with hc | hc | hc | hc
    · rw [hc] at key ⊢
      refine ⟨fun c => absurd c (by decide), fun _ => ⟨fun c => absurd c (by decide), fun _ => ?_⟩⟩
      repeat (first | ((with_reducible apply ap_rc); rfl) | ((with_reducible apply ap_nn)) | ((with_reducible apply ap_rR); rfl) | ((with_reducible apply M_ofOrder); rfl; (exact bz_lit _); omega; (first | omega | decide)) | ((with_reducible apply M_ofRider); rfl; (exact bz_lit _); omega; (first | omega | decide)) | ((with_reducible apply ap_rI); exact kd_ord _ (by omega) _ (by decide)) | ((with_reducible apply ap_wI); exact kd_ord _ (by omega) _ (by decide)) | ((with_reducible apply ap_rI); exact kd_rid _ (by omega) _ (by decide)) | ((with_reducible apply ap_wI); exact kd_rid _ (by omega) _ (by decide)) | ((with_reducible apply ap_rc); exact (kd_clO _ (by omega)).1) | ((with_reducible apply ap_rc); exact (kd_clR _ (by omega)).1) | ((with_reducible apply ap_rc); exact (kd_clR _ (by omega)).2.2.1) | ((with_reducible apply ap_rR); exact (kd_ridA _ (by omega)).1) | ((with_reducible apply ap_rN); rfl) | ((with_reducible apply M_in)) | ((with_reducible apply X_isWithin)) | ((with_reducible apply ap_rI); rfl) | ((with_reducible apply ap_wI); rfl) | ((with_reducible apply ap_iA); rfl; (try simp only [bz_lit, pk_mul, nI_add]); rfl; omega) | ((with_reducible apply ap_iW); rfl; (try simp only [bz_lit, pk_mul, nI_add]); rfl; omega))
      rw [(dv_pl (tw_d ht1) h1 hp1).1, eg1]
      exact key o1 g1 1 _ _ h1 hp1 hg1 (by rw [f_stp_0]; unfold f_pk; rw [eg1, nI_clamp (by omega)]; rfl)
    · rw [hc] at key ⊢
      refine ⟨fun c => absurd c (by decide), fun _ => ⟨fun _ => ?_, fun c => absurd rfl c⟩⟩
      repeat (first | ((with_reducible apply ap_rc); rfl) | ((with_reducible apply ap_nn)) | ((with_reducible apply ap_rR); rfl) | ((with_reducible apply M_ofOrder); rfl; (exact bz_lit _); omega; (first | omega | decide)) | ((with_reducible apply M_ofRider); rfl; (exact bz_lit _); omega; (first | omega | decide)) | ((with_reducible apply ap_rI); exact kd_ord _ (by omega) _ (by decide)) | ((with_reducible apply ap_wI); exact kd_ord _ (by omega) _ (by decide)) | ((with_reducible apply ap_rI); exact kd_rid _ (by omega) _ (by decide)) | ((with_reducible apply ap_wI); exact kd_rid _ (by omega) _ (by decide)) | ((with_reducible apply ap_rc); exact (kd_clO _ (by omega)).1) | ((with_reducible apply ap_rc); exact (kd_clR _ (by omega)).1) | ((with_reducible apply ap_rc); exact (kd_clR _ (by omega)).2.2.1) | ((with_reducible apply ap_rR); exact (kd_ridA _ (by omega)).1) | ((with_reducible apply ap_rN); rfl) | ((with_reducible apply M_in)) | ((with_reducible apply X_isWithin)) | ((with_reducible apply ap_rI); rfl) | ((with_reducible apply ap_wI); rfl) | ((with_reducible apply ap_iA); rfl; (try simp only [bz_lit, pk_mul, nI_add]); rfl; omega) | ((with_reducible apply ap_iW); rfl; (try simp only [bz_lit, pk_mul, nI_add]); rfl; omega))
      rw [sy_o (tw_s ht1) h1 1 2 (by decide) rfl, et1]
      exact key o1 t1 0 _ _ h1 hp1 ht1' (by rw [f_stp_1]; unfold f_dr; rw [et1, nI_clamp (by omega)]; cases f_ri s x t1 (some (mm, aa)) <;> rfl)
    · rw [hc] at key ⊢
      refine ⟨fun _ => ⟨fun c => absurd c (by decide), fun _ => ?_⟩, fun c => absurd (by decide) c⟩
      repeat (first | ((with_reducible apply ap_rc); rfl) | ((with_reducible apply ap_nn)) | ((with_reducible apply ap_rR); rfl) | ((with_reducible apply M_ofOrder); rfl; (exact bz_lit _); omega; (first | omega | decide)) | ((with_reducible apply M_ofRider); rfl; (exact bz_lit _); omega; (first | omega | decide)) | ((with_reducible apply ap_rI); exact kd_ord _ (by omega) _ (by decide)) | ((with_reducible apply ap_wI); exact kd_ord _ (by omega) _ (by decide)) | ((with_reducible apply ap_rI); exact kd_rid _ (by omega) _ (by decide)) | ((with_reducible apply ap_wI); exact kd_rid _ (by omega) _ (by decide)) | ((with_reducible apply ap_rc); exact (kd_clO _ (by omega)).1) | ((with_reducible apply ap_rc); exact (kd_clR _ (by omega)).1) | ((with_reducible apply ap_rc); exact (kd_clR _ (by omega)).2.2.1) | ((with_reducible apply ap_rR); exact (kd_ridA _ (by omega)).1) | ((with_reducible apply ap_rN); rfl) | ((with_reducible apply M_in)) | ((with_reducible apply X_isWithin)) | ((with_reducible apply ap_rI); rfl) | ((with_reducible apply ap_wI); rfl) | ((with_reducible apply ap_iA); rfl; (try simp only [bz_lit, pk_mul, nI_add]); rfl; omega) | ((with_reducible apply ap_iW); rfl; (try simp only [bz_lit, pk_mul, nI_add]); rfl; omega))
      rw [(dv_pl (tw_d ht1) h2 hp2).1, eg2]
      exact key o2 g2 1 _ _ h2 hp2 hg2 (by rw [f_stp_2]; unfold f_pk; rw [eg2, nI_clamp (by omega)]; rfl)
    · rw [hc] at key ⊢
      refine ⟨fun _ => ⟨fun _ => ?_, fun c => absurd rfl c⟩, fun c => absurd (by decide) c⟩
      repeat (first | ((with_reducible apply ap_rc); rfl) | ((with_reducible apply ap_nn)) | ((with_reducible apply ap_rR); rfl) | ((with_reducible apply M_ofOrder); rfl; (exact bz_lit _); omega; (first | omega | decide)) | ((with_reducible apply M_ofRider); rfl; (exact bz_lit _); omega; (first | omega | decide)) | ((with_reducible apply ap_rI); exact kd_ord _ (by omega) _ (by decide)) | ((with_reducible apply ap_wI); exact kd_ord _ (by omega) _ (by decide)) | ((with_reducible apply ap_rI); exact kd_rid _ (by omega) _ (by decide)) | ((with_reducible apply ap_wI); exact kd_rid _ (by omega) _ (by decide)) | ((with_reducible apply ap_rc); exact (kd_clO _ (by omega)).1) | ((with_reducible apply ap_rc); exact (kd_clR _ (by omega)).1) | ((with_reducible apply ap_rc); exact (kd_clR _ (by omega)).2.2.1) | ((with_reducible apply ap_rR); exact (kd_ridA _ (by omega)).1) | ((with_reducible apply ap_rN); rfl) | ((with_reducible apply M_in)) | ((with_reducible apply X_isWithin)) | ((with_reducible apply ap_rI); rfl) | ((with_reducible apply ap_wI); rfl) | ((with_reducible apply ap_iA); rfl; (try simp only [bz_lit, pk_mul, nI_add]); rfl; omega) | ((with_reducible apply ap_iW); rfl; (try simp only [bz_lit, pk_mul, nI_add]); rfl; omega))
      rw [sy_o (tw_s ht1) h2 1 2 (by decide) rfl, et2]
      exact key o2 t2 0 _ _ h2 hp2 ht2' (by rw [f_stp_3]; unfold f_dr; rw [et2, nI_clamp (by omega)]; cases f_ri s x t2 (some (mm, aa)) <;> rfl)
  · intro S1 mm aa u8 u9 u10 u11 u12 r1 e1 v1
    have sw := sb_wk hg (x := x) (m := m) (L := L) h1 h2 ha n mm aa e1
    refine g_X9_follow_15 hl _ _ _ _ _ _ _ _ _ _ _ _ _ _ ?_
    unfold w_X9_follow_15
    refine ⟨fun _ => ⟨_, rfl, ?_⟩, fun c => absurd (nI_le (by omega) (by omega)) c⟩
    have := hP S1 r1 (fun _ => v1)
    rw [e1] at this
    unfold f_fo at this
    dsimp only at this
    by_cases q : mm ≤ 1439
    · rw [if_pos q] at this
      rw [if_pos (show nI mm ≤ (1439 : Int32) from nI_le (b := 1439) q (by decide))]
      exact this
    · rw [if_neg q] at this
      rw [if_neg (show ¬ nI mm ≤ (1439 : Int32) from nI_ge (a := 1439) (by omega) (by omega))]
      exact this
theorem X_setOut {P : bz_H → Prop} {x y z : Int32} (hP : ∀ S', fr (fun c k => c = 175 ∧ 3 ≤ k ∧ k ≤ 6) S S' → S'.1 175 3 = x → S'.1 175 4 = y → S'.1 175 6 = z → S'.1 175 5 = 0 → P (bz_hp E S')) : bz_cV G l (d + 1) kX9_setOut [.inr (some 175), .inl x, .inl y, .inl z] (bz_hp E S) 0 0 P := by
  refine m_X9_setOut _ _ _ _ _ ?_
  unfold w_X9_setOut_0
  repeat (first | ((with_reducible apply ap_rc); rfl) | ((with_reducible apply ap_nn)) | ((with_reducible apply ap_rR); rfl) | ((with_reducible apply M_ofOrder); rfl; (exact bz_lit _); omega; (first | omega | decide)) | ((with_reducible apply M_ofRider); rfl; (exact bz_lit _); omega; (first | omega | decide)) | ((with_reducible apply ap_rI); exact kd_ord _ (by omega) _ (by decide)) | ((with_reducible apply ap_wI); exact kd_ord _ (by omega) _ (by decide)) | ((with_reducible apply ap_rI); exact kd_rid _ (by omega) _ (by decide)) | ((with_reducible apply ap_wI); exact kd_rid _ (by omega) _ (by decide)) | ((with_reducible apply ap_rc); exact (kd_clO _ (by omega)).1) | ((with_reducible apply ap_rc); exact (kd_clR _ (by omega)).1) | ((with_reducible apply ap_rc); exact (kd_clR _ (by omega)).2.2.1) | ((with_reducible apply ap_rR); exact (kd_ridA _ (by omega)).1) | ((with_reducible apply ap_rN); rfl) | ((with_reducible apply M_in)) | ((with_reducible apply X_isWithin)) | ((with_reducible apply ap_rI); rfl) | ((with_reducible apply ap_wI); rfl) | ((with_reducible apply ap_iA); rfl; (try simp only [bz_lit, pk_mul, nI_add]); rfl; omega) | ((with_reducible apply ap_iW); rfl; (try simp only [bz_lit, pk_mul, nI_add]); rfl; omega))
  refine ⟨Or.inl rfl, ?_⟩
  repeat (first | ((with_reducible apply ap_rc); rfl) | ((with_reducible apply ap_nn)) | ((with_reducible apply ap_rR); rfl) | ((with_reducible apply M_ofOrder); rfl; (exact bz_lit _); omega; (first | omega | decide)) | ((with_reducible apply M_ofRider); rfl; (exact bz_lit _); omega; (first | omega | decide)) | ((with_reducible apply ap_rI); exact kd_ord _ (by omega) _ (by decide)) | ((with_reducible apply ap_wI); exact kd_ord _ (by omega) _ (by decide)) | ((with_reducible apply ap_rI); exact kd_rid _ (by omega) _ (by decide)) | ((with_reducible apply ap_wI); exact kd_rid _ (by omega) _ (by decide)) | ((with_reducible apply ap_rc); exact (kd_clO _ (by omega)).1) | ((with_reducible apply ap_rc); exact (kd_clR _ (by omega)).1) | ((with_reducible apply ap_rc); exact (kd_clR _ (by omega)).2.2.1) | ((with_reducible apply ap_rR); exact (kd_ridA _ (by omega)).1) | ((with_reducible apply ap_rN); rfl) | ((with_reducible apply M_in)) | ((with_reducible apply X_isWithin)) | ((with_reducible apply ap_rI); rfl) | ((with_reducible apply ap_wI); rfl) | ((with_reducible apply ap_iA); rfl; (try simp only [bz_lit, pk_mul, nI_add]); rfl; omega) | ((with_reducible apply ap_iW); rfl; (try simp only [bz_lit, pk_mul, nI_add]); rfl; omega))
  refine ⟨rfl, hP _ (fr_t (fr_u (S := S) (by first | omega | (dsimp only; omega))) (fr_t (fr_u (S := (bz_u S.1 175 3 x, S.2)) (by first | omega | (dsimp only; omega))) (fr_t (fr_u (S := (bz_u (bz_u S.1 175 3 x) 175 4 y, S.2)) (by first | omega | (dsimp only; omega))) (fr_u (S := (bz_u (bz_u (bz_u S.1 175 3 x) 175 4 y) 175 6 z, S.2)) (by first | omega | (dsimp only; omega)))))) ?_ ?_ ?_ ?_⟩ <;> simp (disch := omega) only [bz_u_same, bz_u_ne]
theorem X_takeTried {P : bz_H → Prop} {x1 x2 x3 x4 : Int32} (hP : ∀ S', fr (fun c k => c = 176 ∨ (c = 175 ∧ 5 ≤ k ∧ ¬ k = 6)) S S' → S'.1 175 5 = 1 → S'.1 175 9 = x1 → S'.1 175 7 = x2 → S'.1 175 10 = x3 → S'.1 175 8 = x4 → (∀ c, c < 4 → S'.1 176 c = S.1 177 c) → P (bz_hp E S')) : bz_cV G l (d + 1) kX9_takeTried [.inr (some 175), .inl x1, .inl x2, .inl x3, .inl x4] (bz_hp E S) 0 0 P := by
  refine m_X9_takeTried _ _ _ _ _ _ ?_
  unfold w_X9_takeTried_0
  refine ⟨Or.inr rfl, ?_⟩
  repeat (first | ((with_reducible apply ap_rc); rfl) | ((with_reducible apply ap_nn)) | ((with_reducible apply ap_rR); rfl) | ((with_reducible apply M_ofOrder); rfl; (exact bz_lit _); omega; (first | omega | decide)) | ((with_reducible apply M_ofRider); rfl; (exact bz_lit _); omega; (first | omega | decide)) | ((with_reducible apply ap_rI); exact kd_ord _ (by omega) _ (by decide)) | ((with_reducible apply ap_wI); exact kd_ord _ (by omega) _ (by decide)) | ((with_reducible apply ap_rI); exact kd_rid _ (by omega) _ (by decide)) | ((with_reducible apply ap_wI); exact kd_rid _ (by omega) _ (by decide)) | ((with_reducible apply ap_rc); exact (kd_clO _ (by omega)).1) | ((with_reducible apply ap_rc); exact (kd_clR _ (by omega)).1) | ((with_reducible apply ap_rc); exact (kd_clR _ (by omega)).2.2.1) | ((with_reducible apply ap_rR); exact (kd_ridA _ (by omega)).1) | ((with_reducible apply ap_rN); rfl) | ((with_reducible apply M_in)) | ((with_reducible apply X_isWithin)) | ((with_reducible apply ap_rI); rfl) | ((with_reducible apply ap_wI); rfl) | ((with_reducible apply ap_iA); rfl; (try simp only [bz_lit, pk_mul, nI_add]); rfl; omega) | ((with_reducible apply ap_iW); rfl; (try simp only [bz_lit, pk_mul, nI_add]); rfl; omega))
  refine ap_cp rfl rfl (by decide) ⟨rfl, hP _ (fr_t (fr_u (S := S) (by first | omega | (dsimp only; omega))) (fr_t (fr_u (S := (bz_u S.1 175 5 1, S.2)) (by first | omega | (dsimp only; omega))) (fr_t (fr_u (S := (bz_u (bz_u S.1 175 5 1) 175 9 x1, S.2)) (by first | omega | (dsimp only; omega))) (fr_t (fr_u (S := (bz_u (bz_u (bz_u S.1 175 5 1) 175 9 x1) 175 7 x2, S.2)) (by first | omega | (dsimp only; omega))) (fr_t (fr_u (S := (bz_u (bz_u (bz_u (bz_u S.1 175 5 1) 175 9 x1) 175 7 x2) 175 10 x3, S.2)) (by first | omega | (dsimp only; omega))) (fr_ur (S := (bz_u (bz_u (bz_u (bz_u (bz_u S.1 175 5 1) 175 9 x1) 175 7 x2) 175 10 x3) 175 8 x4, S.2)) (fun k => (by first | omega | (dsimp only; omega))))))))) ?_ ?_ ?_ ?_ ?_ (fun c hc => ?_)⟩
  · dsimp only
    rw [bz_ur_ne _ _ (by decide)]
    simp (disch := omega) only [bz_u_same, bz_u_ne]
  · dsimp only
    rw [bz_ur_ne _ _ (by decide)]
    simp (disch := omega) only [bz_u_same, bz_u_ne]
  · dsimp only
    rw [bz_ur_ne _ _ (by decide)]
    simp (disch := omega) only [bz_u_same, bz_u_ne]
  · dsimp only
    rw [bz_ur_ne _ _ (by decide)]
    simp (disch := omega) only [bz_u_same, bz_u_ne]
  · dsimp only
    rw [bz_ur_ne _ _ (by decide)]
    simp (disch := omega) only [bz_u_same, bz_u_ne]
  · dsimp only
    rw [bz_ur_same, pk_cpy_in (by exact Nat.zero_le _) (by show c < 0 + 4; omega)]
    show bz_u _ 175 8 x4 177 (0 + (c - 0)) = _
    rw [show 0 + (c - 0) = c by omega]
    simp (disch := omega) only [bz_u_same, bz_u_ne]
theorem X_planOne {P : Int32 → bz_H → Prop} {x y z : Int32} {o m a : Nat} (hy : y = nI a) (hz : z = nI m) (ho : o < 24) (hp : o < (s 2).toNatClampNeg) (ha : a < 16) (hm : m ≤ 1440) (ht : tw S s) (hP : ∀ S', fr (fun c _ => 175 ≤ c ∧ c ≤ 177) S S' → (∀ p e, f_tp s x a m o = some (p, e) → S'.1 176 0 = nI p ∧ S'.1 176 1 = nI e ∧ S'.1 175 6 = nI m ∧ S'.1 175 7 = nI e ∧ S'.1 175 8 = s (312 + 12 * o + 1) ∧ S'.1 175 10 = f_lateBy s o (nI e)) → P (f_ok (f_tp s x a m o)) (bz_hp E S')) : bz_cI G l (d + 3) kX9_planOne [.inr (some 175), .inl x, .inl y, .inl z, .inr (some (24 + o))] (bz_hp E S) 0 0 P := by
  refine m_X9_planOne _ _ _ _ _ _ ?_
  unfold w_X9_planOne_0
  subst hy; subst hz
  have hg := tw_b ht
  repeat (first | ((with_reducible apply ap_rc); rfl) | ((with_reducible apply ap_nn)) | ((with_reducible apply ap_rR); rfl) | ((with_reducible apply M_ofOrder); rfl; (exact bz_lit _); omega; (first | omega | decide)) | ((with_reducible apply M_ofRider); rfl; (exact bz_lit _); omega; (first | omega | decide)) | ((with_reducible apply ap_rI); exact kd_ord _ (by omega) _ (by decide)) | ((with_reducible apply ap_wI); exact kd_ord _ (by omega) _ (by decide)) | ((with_reducible apply ap_rI); exact kd_rid _ (by omega) _ (by decide)) | ((with_reducible apply ap_wI); exact kd_rid _ (by omega) _ (by decide)) | ((with_reducible apply ap_rc); exact (kd_clO _ (by omega)).1) | ((with_reducible apply ap_rc); exact (kd_clR _ (by omega)).1) | ((with_reducible apply ap_rc); exact (kd_clR _ (by omega)).2.2.1) | ((with_reducible apply ap_rR); exact (kd_ridA _ (by omega)).1) | ((with_reducible apply ap_rN); rfl) | ((with_reducible apply M_in)) | ((with_reducible apply X_isWithin)) | ((with_reducible apply ap_rI); rfl) | ((with_reducible apply ap_wI); rfl) | ((with_reducible apply ap_iA); rfl; (try simp only [bz_lit, pk_mul, nI_add]); rfl; omega) | ((with_reducible apply ap_iW); rfl; (try simp only [bz_lit, pk_mul, nI_add]); rfl; omega))
  refine X_setOut (fun S1 r1 k3 k4 k6 k5 => ?_)
  have ht1 : tw S1 s := tw_f ht r1 (by intro c k h; first | omega | (dsimp only at h ⊢; omega) | (dsimp only at h; omega) | (dsimp only; omega))
  repeat (first | ((with_reducible apply ap_rc); rfl) | ((with_reducible apply ap_nn)) | ((with_reducible apply ap_rR); rfl) | ((with_reducible apply M_ofOrder); rfl; (exact bz_lit _); omega; (first | omega | decide)) | ((with_reducible apply M_ofRider); rfl; (exact bz_lit _); omega; (first | omega | decide)) | ((with_reducible apply ap_rI); exact kd_ord _ (by omega) _ (by decide)) | ((with_reducible apply ap_wI); exact kd_ord _ (by omega) _ (by decide)) | ((with_reducible apply ap_rI); exact kd_rid _ (by omega) _ (by decide)) | ((with_reducible apply ap_wI); exact kd_rid _ (by omega) _ (by decide)) | ((with_reducible apply ap_rc); exact (kd_clO _ (by omega)).1) | ((with_reducible apply ap_rc); exact (kd_clR _ (by omega)).1) | ((with_reducible apply ap_rc); exact (kd_clR _ (by omega)).2.2.1) | ((with_reducible apply ap_rR); exact (kd_ridA _ (by omega)).1) | ((with_reducible apply ap_rN); rfl) | ((with_reducible apply M_in)) | ((with_reducible apply X_isWithin)) | ((with_reducible apply ap_rI); rfl) | ((with_reducible apply ap_wI); rfl) | ((with_reducible apply ap_iA); rfl; (try simp only [bz_lit, pk_mul, nI_add]); rfl; omega) | ((with_reducible apply ap_iW); rfl; (try simp only [bz_lit, pk_mul, nI_add]); rfl; omega))
  refine X_follow (L := fun i => li (4 * 0 + i)) (lb := 0) (n := 2) rfl ho ho hp hp (by decide) (by decide) rfl rfl ha hm ht1 k3 k4 k6 (fun S2 r2 v2 => ?_)
  have ht2 : tw S2 s := tw_f ht1 r2 (by intro c k h; first | omega | (dsimp only at h ⊢; omega) | (dsimp only at h; omega) | (dsimp only; omega))
  have hw1 : (f_wk s x o o m a (fun i => li (4 * 0 + i)) 2).1 = f_dr s x o (f_pk s x o (some (m, a))) := by
    rw [← f_stp_0 s x o o, ← f_stp_1 s x o o]; rfl
  rw [hw1] at v2 ⊢
  have hno : f_tp s x a m o = none → f_fo (f_dr s x o (f_pk s x o (some (m, a)))) = -1 := by
    intro h
    unfold f_tp at h
    cases h1 : f_pk s x o (some (m, a)) with
    | none => rfl
    | some q =>
      rw [h1] at h
      dsimp only at h
      cases h2 : f_dr s x o (some q) with
      | none => rfl
      | some q' =>
        rw [h2] at h
        dsimp only at h
        unfold f_fo
        dsimp only
        split
        · next hq => rw [if_pos hq] at h; cases h
        · rfl
  cases htp : f_tp s x a m o with
  | none =>
    rw [hno htp]
    refine ⟨fun _ => ?_, fun c => absurd rfl c⟩
    repeat (first | ((with_reducible apply ap_rc); rfl) | ((with_reducible apply ap_nn)) | ((with_reducible apply ap_rR); rfl) | ((with_reducible apply M_ofOrder); rfl; (exact bz_lit _); omega; (first | omega | decide)) | ((with_reducible apply M_ofRider); rfl; (exact bz_lit _); omega; (first | omega | decide)) | ((with_reducible apply ap_rI); exact kd_ord _ (by omega) _ (by decide)) | ((with_reducible apply ap_wI); exact kd_ord _ (by omega) _ (by decide)) | ((with_reducible apply ap_rI); exact kd_rid _ (by omega) _ (by decide)) | ((with_reducible apply ap_wI); exact kd_rid _ (by omega) _ (by decide)) | ((with_reducible apply ap_rc); exact (kd_clO _ (by omega)).1) | ((with_reducible apply ap_rc); exact (kd_clR _ (by omega)).1) | ((with_reducible apply ap_rc); exact (kd_clR _ (by omega)).2.2.1) | ((with_reducible apply ap_rR); exact (kd_ridA _ (by omega)).1) | ((with_reducible apply ap_rN); rfl) | ((with_reducible apply M_in)) | ((with_reducible apply X_isWithin)) | ((with_reducible apply ap_rI); rfl) | ((with_reducible apply ap_wI); rfl) | ((with_reducible apply ap_iA); rfl; (try simp only [bz_lit, pk_mul, nI_add]); rfl; omega) | ((with_reducible apply ap_iW); rfl; (try simp only [bz_lit, pk_mul, nI_add]); rfl; omega))
    rw [r2.2 175 5 (by first | omega | (dsimp only; omega)), k5]
    refine ⟨Or.inl rfl, _, rfl, ?_⟩
    have := hP S2 (fr_t (fr_m r1 (by intro c k h; first | omega | (dsimp only at h ⊢; omega) | (dsimp only at h; omega) | (dsimp only; omega))) (fr_m r2 (by intro c k h; first | omega | (dsimp only at h ⊢; omega) | (dsimp only at h; omega) | (dsimp only; omega)))) (fun p e q => by rw [htp] at q; cases q)
    rw [htp] at this
    exact this
  | some q =>
    obtain ⟨p, e⟩ := q
    obtain ⟨a1, b1, f1, f2, f3⟩ : ∃ a1 b1, f_pk s x o (some (m, a)) = some (p, a1) ∧ f_dr s x o (some (p, a1)) = some (e, b1) ∧ e ≤ 1439 := by
      unfold f_tp at htp
      cases h1 : f_pk s x o (some (m, a)) with
      | none => rw [h1] at htp; cases htp
      | some q =>
        rw [h1] at htp
        dsimp only at htp
        cases h2 : f_dr s x o (some q) with
        | none => rw [h2] at htp; cases htp
        | some q' =>
          rw [h2] at htp
          dsimp only at htp
          split at htp
          · next hq =>
            have u1 : q.1 = p := congrArg Prod.fst (Option.some.inj htp)
            have u2 : q'.1 = e := congrArg Prod.snd (Option.some.inj htp)
            subst u1; subst u2
            exact ⟨q.2, q'.2, rfl, h2, hq⟩
          · cases htp
    have w0 : S2.1 177 0 = nI p := by
      have := v2 (by rw [f1, f2]; intro h; cases h) 0 (by decide)
      have e2 : (f_wk s x o o m a (fun i => li (4 * 0 + i)) 2).2 0 = (match f_pk s x o (some (m, a)) with | none => 0 | some q => q.1) := by
        rw [← f_stp_0 s x o o]; rfl
      rw [f1] at e2
      exact this.trans (congrArg nI e2)
    have w1 : S2.1 177 1 = nI e := by
      have := v2 (by rw [f1, f2]; intro h; cases h) 1 (by decide)
      have e2 : (f_wk s x o o m a (fun i => li (4 * 0 + i)) 2).2 1 = (match f_dr s x o (f_pk s x o (some (m, a))) with | none => 0 | some q => q.1) := by
        rw [← f_stp_0 s x o o, ← f_stp_1 s x o o]; rfl
      rw [f1, f2] at e2
      exact this.trans (congrArg nI e2)
    rw [f1, f2, show f_fo (some (e, b1)) = nI e from if_pos f3]
    refine ⟨fun c => absurd c (nI_nn (by omega)), fun _ => ?_⟩
    repeat (first | ((with_reducible apply ap_rc); rfl) | ((with_reducible apply ap_nn)) | ((with_reducible apply ap_rR); rfl) | ((with_reducible apply M_ofOrder); rfl; (exact bz_lit _); omega; (first | omega | decide)) | ((with_reducible apply M_ofRider); rfl; (exact bz_lit _); omega; (first | omega | decide)) | ((with_reducible apply ap_rI); exact kd_ord _ (by omega) _ (by decide)) | ((with_reducible apply ap_wI); exact kd_ord _ (by omega) _ (by decide)) | ((with_reducible apply ap_rI); exact kd_rid _ (by omega) _ (by decide)) | ((with_reducible apply ap_wI); exact kd_rid _ (by omega) _ (by decide)) | ((with_reducible apply ap_rc); exact (kd_clO _ (by omega)).1) | ((with_reducible apply ap_rc); exact (kd_clR _ (by omega)).1) | ((with_reducible apply ap_rc); exact (kd_clR _ (by omega)).2.2.1) | ((with_reducible apply ap_rR); exact (kd_ridA _ (by omega)).1) | ((with_reducible apply ap_rN); rfl) | ((with_reducible apply M_in)) | ((with_reducible apply X_isWithin)) | ((with_reducible apply ap_rI); rfl) | ((with_reducible apply ap_wI); rfl) | ((with_reducible apply ap_iA); rfl; (try simp only [bz_lit, pk_mul, nI_add]); rfl; omega) | ((with_reducible apply ap_iW); rfl; (try simp only [bz_lit, pk_mul, nI_add]); rfl; omega))
    rw [w1]
    refine X_lateAt ho (tw_d ht2) ?_
    repeat (first | ((with_reducible apply ap_rc); rfl) | ((with_reducible apply ap_nn)) | ((with_reducible apply ap_rR); rfl) | ((with_reducible apply M_ofOrder); rfl; (exact bz_lit _); omega; (first | omega | decide)) | ((with_reducible apply M_ofRider); rfl; (exact bz_lit _); omega; (first | omega | decide)) | ((with_reducible apply ap_rI); exact kd_ord _ (by omega) _ (by decide)) | ((with_reducible apply ap_wI); exact kd_ord _ (by omega) _ (by decide)) | ((with_reducible apply ap_rI); exact kd_rid _ (by omega) _ (by decide)) | ((with_reducible apply ap_wI); exact kd_rid _ (by omega) _ (by decide)) | ((with_reducible apply ap_rc); exact (kd_clO _ (by omega)).1) | ((with_reducible apply ap_rc); exact (kd_clR _ (by omega)).1) | ((with_reducible apply ap_rc); exact (kd_clR _ (by omega)).2.2.1) | ((with_reducible apply ap_rR); exact (kd_ridA _ (by omega)).1) | ((with_reducible apply ap_rN); rfl) | ((with_reducible apply M_in)) | ((with_reducible apply X_isWithin)) | ((with_reducible apply ap_rI); rfl) | ((with_reducible apply ap_wI); rfl) | ((with_reducible apply ap_iA); rfl; (try simp only [bz_lit, pk_mul, nI_add]); rfl; omega) | ((with_reducible apply ap_iW); rfl; (try simp only [bz_lit, pk_mul, nI_add]); rfl; omega))
    rw [sy_o (tw_s ht2) ho 1 2 (by decide) rfl]
    refine X_takeTried (fun S3 r3 j5 j9 j7 j10 j8 jt => ?_)
    repeat (first | ((with_reducible apply ap_rc); rfl) | ((with_reducible apply ap_nn)) | ((with_reducible apply ap_rR); rfl) | ((with_reducible apply M_ofOrder); rfl; (exact bz_lit _); omega; (first | omega | decide)) | ((with_reducible apply M_ofRider); rfl; (exact bz_lit _); omega; (first | omega | decide)) | ((with_reducible apply ap_rI); exact kd_ord _ (by omega) _ (by decide)) | ((with_reducible apply ap_wI); exact kd_ord _ (by omega) _ (by decide)) | ((with_reducible apply ap_rI); exact kd_rid _ (by omega) _ (by decide)) | ((with_reducible apply ap_wI); exact kd_rid _ (by omega) _ (by decide)) | ((with_reducible apply ap_rc); exact (kd_clO _ (by omega)).1) | ((with_reducible apply ap_rc); exact (kd_clR _ (by omega)).1) | ((with_reducible apply ap_rc); exact (kd_clR _ (by omega)).2.2.1) | ((with_reducible apply ap_rR); exact (kd_ridA _ (by omega)).1) | ((with_reducible apply ap_rN); rfl) | ((with_reducible apply M_in)) | ((with_reducible apply X_isWithin)) | ((with_reducible apply ap_rI); rfl) | ((with_reducible apply ap_wI); rfl) | ((with_reducible apply ap_iA); rfl; (try simp only [bz_lit, pk_mul, nI_add]); rfl; omega) | ((with_reducible apply ap_iW); rfl; (try simp only [bz_lit, pk_mul, nI_add]); rfl; omega))
    rw [j5]
    refine ⟨Or.inr rfl, _, rfl, ?_⟩
    have := hP S3 (fr_t (fr_m r1 (by intro c k h; first | omega | (dsimp only at h ⊢; omega) | (dsimp only at h; omega) | (dsimp only; omega))) (fr_t (fr_m r2 (by intro c k h; first | omega | (dsimp only at h ⊢; omega) | (dsimp only at h; omega) | (dsimp only; omega))) (fr_m r3 (by intro c k h; first | omega | (dsimp only at h ⊢; omega) | (dsimp only at h; omega) | (dsimp only; omega))))) (fun p' e' q => ?_)
    · rw [htp] at this
      exact this
    · rw [htp] at q
      have u1 : p = p' := congrArg Prod.fst (Option.some.inj q)
      have u2 : e = e' := congrArg Prod.snd (Option.some.inj q)
      subst u1; subst u2
      exact ⟨(jt 0 (by decide)).trans w0, (jt 1 (by decide)).trans w1, by rw [r3.2 175 6 (by first | omega | (dsimp only; omega)), r2.2 175 6 (by first | omega | (dsimp only; omega)), k6], j7, j8, j10⟩
end XTR
