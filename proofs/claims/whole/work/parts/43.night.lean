/-! nights -/
abbrev Nv : Type := (Nat → Nat) × (Nat → Nat) × (Nat → Nat) × (Nat → Int32) × Nat × Int32 × Nat
def updn (f : Nat → Nat) (k v : Nat) : Nat → Nat := fun j => if j = k then v else f j
theorem updn_s (f : Nat → Nat) (k v : Nat) : updn f k v k = v := if_pos rfl
theorem updn_n {f : Nat → Nat} {k v j : Nat} (h : ¬ j = k) : updn f k v j = f j := if_neg h
def f_nb (s : Nat → Int32) (v : Nv) (r o : Nat) : Nat := if v.2.1 r ≤ (s (312 + 12 * o + 2)).toNatClampNeg then (s (312 + 12 * o + 2)).toNatClampNeg else v.2.1 r
def f_np (s : Nat → Int32) (v : Nv) (r o : Nat) : Option (Nat × Nat) := f_tp s (s (600 + 8 * r + 0)) (v.1 r) (f_nb s v r o) o
def f_nk (s : Nat → Int32) (n : Nat) (g : Nat → Nat) (v : Nv) (o r : Nat) : Option Int32 := if s (312 + 12 * o + 2) < s (600 + 8 * r + 5) then none else (f_np s v r o).map (fun q => f_st (f_env s (s (600 + 8 * r + 0)) (v.1 r) o 0 (nI (v.2.2.1 r)) 25 (f_lateBy s o (nI q.2)) (nI r)) g n 0)
def f_nq (s : Nat → Int32) (n : Nat) (g : Nat → Nat) (v : Nv) (o : Nat) : Option (Nat × Int32) := if s (312 + 12 * o + 5) = 2 then none else f_bf (f_nk s n g v o) (s 3).toNatClampNeg
def f_ns (s : Nat → Int32) (n : Nat) (g : Nat → Nat) (v : Nv) (o : Nat) : Nv := match f_nq s n g v o with
  | none => (v.1, v.2.1, v.2.2.1, upd v.2.2.2.1 o (-1), v.2.2.2.2.1, v.2.2.2.2.2.1, v.2.2.2.2.2.2)
  | some q => match f_np s v q.1 o with
    | none => (v.1, v.2.1, v.2.2.1, upd v.2.2.2.1 o (nI q.1), v.2.2.2.2.1, v.2.2.2.2.2.1, v.2.2.2.2.2.2)
    | some p => (updn v.1 q.1 (s (312 + 12 * o + 1)).toNatClampNeg, updn v.2.1 q.1 p.2, updn v.2.2.1 q.1 (v.2.2.1 q.1 + 1), upd v.2.2.2.1 o (nI q.1), v.2.2.2.2.1 + 1, v.2.2.2.2.2.1 + f_lateBy s o (nI p.2), if p.2 ≤ v.2.2.2.2.2.2 then v.2.2.2.2.2.2 else p.2)
def f_ni (s : Nat → Int32) (n : Nat) (g : Nat → Nat) : Nat → Nv
  | 0 => (fun r => (s (600 + 8 * r + 4)).toNatClampNeg, fun r => (s (600 + 8 * r + 5)).toNatClampNeg, fun _ => 0, fun _ => 0, 0, 0, 0)
  | o + 1 => f_ns s n g (f_ni s n g o) o
/-- bounds of a night -/
def nb (s : Nat → Int32) (v : Nv) (o : Nat) : Prop := (∀ r, r < 12 → v.1 r < 16 ∧ v.2.1 r < 1440 ∧ v.2.2.1 r ≤ o) ∧ v.2.2.2.2.1 ≤ o ∧ v.2.2.2.2.2.2 < 1440
theorem nb_s {s : Nat → Int32} (hg : gd_b s) {n : Nat} {g : Nat → Nat} {v : Nv} {o : Nat} (ho : o < 24) (h : nb s v o) : nb s (f_ns s n g v o) (o + 1) := by
  obtain ⟨h1, h2, h3⟩ := h
  unfold f_ns
  cases hq : f_nq s n g v o with
  | none => exact ⟨fun r hr => ⟨(h1 r hr).1, (h1 r hr).2.1, by have := (h1 r hr).2.2; show v.2.2.1 r ≤ o + 1; omega⟩, by show v.2.2.2.2.1 ≤ o + 1; omega, h3⟩
  | some q =>
    dsimp only
    cases hp : f_np s v q.1 o with
    | none => exact ⟨fun r hr => ⟨(h1 r hr).1, (h1 r hr).2.1, by have := (h1 r hr).2.2; show v.2.2.1 r ≤ o + 1; omega⟩, by show v.2.2.2.2.1 ≤ o + 1; omega, h3⟩
    | some p =>
      have hpe := (f_tp_le (p := p.1) (e := p.2) hp).2
      obtain ⟨t, ht, et⟩ : bz_lt (s (312 + 12 * o + 1)) 16 := gb_o hg ho 1 (by decide)
      refine ⟨fun r hr => ?_, by show v.2.2.2.2.1 + 1 ≤ o + 1; omega, ?_⟩
      · obtain ⟨a1, a2, a3⟩ := h1 r hr
        dsimp only
        by_cases hrq : r = q.1
        · subst hrq
          rw [updn_s, updn_s, updn_s, et, nI_clamp (by omega)]
          exact ⟨ht, by omega, by omega⟩
        · rw [updn_n hrq, updn_n hrq, updn_n hrq]
          exact ⟨a1, a2, by omega⟩
      · dsimp only
        split <;> omega
theorem nb_i {s : Nat → Int32} (hg : gd_b s) (n : Nat) (g : Nat → Nat) : ∀ o, o ≤ 24 → nb s (f_ni s n g o) o
  | 0, _ => by
    refine ⟨fun r hr => ?_, Nat.le_refl _, by show 0 < 1440; omega⟩
    obtain ⟨a, ha, ea⟩ : bz_lt (s (600 + 8 * r + 4)) 16 := gb_r hg hr 4 (by decide)
    obtain ⟨b, hb, eb⟩ : bz_lt (s (600 + 8 * r + 5)) 1440 := gb_r hg hr 5 (by decide)
    show (s (600 + 8 * r + 4)).toNatClampNeg < 16 ∧ (s (600 + 8 * r + 5)).toNatClampNeg < 1440 ∧ 0 ≤ 0
    rw [ea, eb, nI_clamp (by omega), nI_clamp (by omega)]
    exact ⟨ha, hb, Nat.le_refl _⟩
  | o + 1, h => by
    rw [f_ni]
    exact nb_s hg (by omega) (nb_i hg n g o (by omega))
theorem f_nb_l {s : Nat → Int32} (hg : gd_b s) {v : Nv} {o r o' : Nat} (ho : o < 24) (hr : r < 12) (h : nb s v o') : f_nb s v r o < 1440 := by
  obtain ⟨p, hp, ep⟩ : bz_lt (s (312 + 12 * o + 2)) 1440 := gb_o hg ho 2 (by decide)
  have := (h.1 r hr).2.1
  unfold f_nb
  rw [ep, nI_clamp (by omega)]
  split <;> omega
/-- the class's night -/
def nx (S : bz_S) (m : Nat) (v : Nv) : Prop := ∀ r, r < m → S.1 182 r = nI (v.1 r) ∧ S.1 183 r = nI (v.2.1 r) ∧ S.1 184 r = nI (v.2.2.1 r)
/-- the reference's night -/
def nr (S : bz_S) (m : Nat) (v : Nv) : Prop := ∀ r, r < m → S.1 197 r = nI (v.1 r) ∧ S.1 198 r = nI (v.2.1 r) ∧ S.1 199 r = nI (v.2.2.1 r)
section NIG
variable {G : bz_G} {l : Launch} {d : Nat} {E : Nat × (Nat → Int32)} {S : bz_S} {s : Nat → Int32}
theorem nx_f {X : Nat → Nat → Prop} {S S' : bz_S} {m : Nat} {v : Nv} (h : nx S m v) (f : fr X S S') (hX : ∀ c k, X c k → ¬ (182 ≤ c ∧ c ≤ 184)) : nx S' m v := by
  intro r hr
  rw [f.2 182 r (fun x => hX _ _ x (by omega)), f.2 183 r (fun x => hX _ _ x (by omega)), f.2 184 r (fun x => hX _ _ x (by omega))]
  exact h r hr
theorem nr_f {X : Nat → Nat → Prop} {S S' : bz_S} {m : Nat} {v : Nv} (h : nr S m v) (f : fr X S S') (hX : ∀ c k, X c k → ¬ (197 ≤ c ∧ c ≤ 199)) : nr S' m v := by
  intro r hr
  rw [f.2 197 r (fun x => hX _ _ x (by omega)), f.2 198 r (fun x => hX _ _ x (by omega)), f.2 199 r (fun x => hX _ _ x (by omega))]
  exact h r hr
theorem X_planFor {P : Int32 → bz_H → Prop} {y : Int32} {r o m : Nat} {v : Nv} (hy : y = nI r) (hr : r < 12) (hrm : r < m) (ho : o < 24) (hp : o < (s 2).toNatClampNeg) (ht : tw S s) (hv : nx S m v) (hb : nb s v o) (hP : ∀ S', fr (fun c _ => 175 ≤ c ∧ c ≤ 177) S S' → (∀ p e, f_np s v r o = some (p, e) → S'.1 175 7 = nI e ∧ S'.1 175 8 = s (312 + 12 * o + 1) ∧ S'.1 175 10 = f_lateBy s o (nI e)) → P (f_ok (f_np s v r o)) (bz_hp E S')) : bz_cI G l (d + 4) kX1_planFor [.inr (some 181), .inl y, .inr (some (24 + o))] (bz_hp E S) 0 0 P := by
  refine m_X1_planFor _ _ _ _ ?_
  unfold w_X1_planFor_0
  subst hy
  have hg := tw_b ht
  obtain ⟨p, hpp, ep⟩ : bz_lt (s (312 + 12 * o + 2)) 1440 := gb_o hg ho 2 (by decide)
  obtain ⟨v1, v2, v3⟩ := hv r hrm
  obtain ⟨b1, b2, b3⟩ := hb.1 r hr
  have hbl := f_nb_l hg ho hr hb
  have en : nI (f_nb s v r o) = nI (if v.2.1 r ≤ p then p else v.2.1 r) := by
    unfold f_nb
    rw [ep, nI_clamp (by omega)]
  repeat (first | ((with_reducible apply ap_rc); rfl) | ((with_reducible apply ap_nn)) | ((with_reducible apply ap_rR); rfl) | ((with_reducible apply M_ofOrder); rfl; (exact bz_lit _); omega; (first | omega | decide)) | ((with_reducible apply M_ofRider); rfl; (exact bz_lit _); omega; (first | omega | decide)) | ((with_reducible apply ap_rI); exact kd_ord _ (by omega) _ (by decide)) | ((with_reducible apply ap_wI); exact kd_ord _ (by omega) _ (by decide)) | ((with_reducible apply ap_rI); exact kd_rid _ (by omega) _ (by decide)) | ((with_reducible apply ap_wI); exact kd_rid _ (by omega) _ (by decide)) | ((with_reducible apply ap_rc); exact (kd_clO _ (by omega)).1) | ((with_reducible apply ap_rc); exact (kd_clR _ (by omega)).1) | ((with_reducible apply ap_rc); exact (kd_clR _ (by omega)).2.2.1) | ((with_reducible apply ap_rR); exact (kd_ridA _ (by omega)).1) | ((with_reducible apply ap_rN); rfl) | ((with_reducible apply M_in)) | ((with_reducible apply X_isWithin)) | ((with_reducible apply ap_rI); rfl) | ((with_reducible apply ap_wI); rfl) | ((with_reducible apply ap_iA); rfl; (try simp only [bz_lit, pk_mul, nI_add]); rfl; omega) | ((with_reducible apply ap_iW); rfl; (try simp only [bz_lit, pk_mul, nI_add]); rfl; omega))
  refine ap_qR rfl hr ?_
  repeat (first | ((with_reducible apply ap_rc); rfl) | ((with_reducible apply ap_nn)) | ((with_reducible apply ap_rR); rfl) | ((with_reducible apply M_ofOrder); rfl; (exact bz_lit _); omega; (first | omega | decide)) | ((with_reducible apply M_ofRider); rfl; (exact bz_lit _); omega; (first | omega | decide)) | ((with_reducible apply ap_rI); exact kd_ord _ (by omega) _ (by decide)) | ((with_reducible apply ap_wI); exact kd_ord _ (by omega) _ (by decide)) | ((with_reducible apply ap_rI); exact kd_rid _ (by omega) _ (by decide)) | ((with_reducible apply ap_wI); exact kd_rid _ (by omega) _ (by decide)) | ((with_reducible apply ap_rc); exact (kd_clO _ (by omega)).1) | ((with_reducible apply ap_rc); exact (kd_clR _ (by omega)).1) | ((with_reducible apply ap_rc); exact (kd_clR _ (by omega)).2.2.1) | ((with_reducible apply ap_rR); exact (kd_ridA _ (by omega)).1) | ((with_reducible apply ap_rN); rfl) | ((with_reducible apply M_in)) | ((with_reducible apply X_isWithin)) | ((with_reducible apply ap_rI); rfl) | ((with_reducible apply ap_wI); rfl) | ((with_reducible apply ap_iA); rfl; (try simp only [bz_lit, pk_mul, nI_add]); rfl; omega) | ((with_reducible apply ap_iW); rfl; (try simp only [bz_lit, pk_mul, nI_add]); rfl; omega))
  rw [v1, v2, sy_o (tw_s ht) ho 2 3 (by decide) rfl, ep, mx_n (by omega) (by omega), ← en, sy_r (tw_s ht) hr 0 1 (by decide) rfl]
  exact X_planOne rfl rfl ho hp b1 (by omega) ht (fun S' r1 q1 => ⟨f_ok01 _, _, rfl, hP S' r1 (fun p e h => by
    obtain ⟨-, -, -, z1, z2, z3⟩ := q1 p e h
    exact ⟨z1, z2, z3⟩)⟩)
theorem X_bestTaker {P : Int32 → bz_H → Prop} {o i n m : Nat} {f : Nat → Int32} {g : Nat → Nat} {v : Nv} (ho : o < 24) (hp : o < (s 2).toNatClampNeg) (ht : tw S s) (hm : m = (s 3).toNatClampNeg) (hv : nx S m v) (hb : nb s v o) (hT : S.2.2[i]? = some (n, f)) (hfg : ∀ k, k < n → f k = nI (g k)) (hwf : wfm g n) (hP : ∀ S', fr (fun c _ => 175 ≤ c ∧ c ≤ 180) S S' → P (f_bi (f_bf (f_nk s n g v o) m)) (bz_hp E S')) : bz_cI G l (d + 5) kX1_bestTaker [.inr (some 181), .inr (some (24 + o)), .inr (some (205 + 2 * i))] (bz_hp E S) 0 0 P := by
  refine m_X1_bestTaker _ _ _ _ (fun κ bc bs hl => ?_)
  unfold w_X1_bestTaker_0
  have hg := tw_b ht
  obtain ⟨m3, hm3, em3⟩ : bz_lt (s 3) 13 := hg 3 (by decide) (by decide) (by decide)
  have hmm : m = m3 := by rw [hm, em3, nI_clamp (by omega)]
  subst hmm
  have main := bz_for (n := m) (Q := fun k => ∀ (S1 : bz_S) (u6 : Option bz_V), fr (fun c _ => 175 ≤ c ∧ c ≤ 180) S S1 → bz_J G κ kX1_bestTaker (d + 4 + 1) (fun v h' => ∃ x, v = some (.inl x) ∧ P x h') bc bs 8 [some (.inr (some 181)), some (.inr (some (24 + o))), some (.inr (some (205 + 2 * i))), some (.inl (f_bi (f_bf (f_nk s n g v o) k))), some (.inl (f_bm (f_bf (f_nk s n g v o) k))), some (.inl (nI k)), u6] [] (bz_hp E S1)) (fun k hk ih S1 u6 r1 => ?_) ?_
  · exact main S none (fr_r _ S)
  · have ht1 : tw S1 s := tw_f ht r1 (by intro c k h; first | omega | (dsimp only at h ⊢; omega) | (dsimp only at h; omega) | (dsimp only; omega))
    have hv1 : nx S1 m v := nx_f hv r1 (by intro c k h; first | omega | (dsimp only at h ⊢; omega) | (dsimp only at h; omega) | (dsimp only; omega))
    have hk12 : k < 12 := by omega
    obtain ⟨b1, b2, b3⟩ := hb.1 k hk12
    have e10 : S1.1 6 10 = nI m := (sy_c (tw_s ht1) 3 0 10 (by decide) rfl).trans em3
    rw [nI_succ] at ih
    refine g_X1_bestTaker_8 hl _ _ _ _ _ _ _ _ ?_
    unfold w_X1_bestTaker_8
    repeat (first | ((with_reducible apply ap_rc); rfl) | ((with_reducible apply ap_nn)) | ((with_reducible apply ap_rR); rfl) | ((with_reducible apply M_ofOrder); rfl; (exact bz_lit _); omega; (first | omega | decide)) | ((with_reducible apply M_ofRider); rfl; (exact bz_lit _); omega; (first | omega | decide)) | ((with_reducible apply ap_rI); exact kd_ord _ (by omega) _ (by decide)) | ((with_reducible apply ap_wI); exact kd_ord _ (by omega) _ (by decide)) | ((with_reducible apply ap_rI); exact kd_rid _ (by omega) _ (by decide)) | ((with_reducible apply ap_wI); exact kd_rid _ (by omega) _ (by decide)) | ((with_reducible apply ap_rc); exact (kd_clO _ (by omega)).1) | ((with_reducible apply ap_rc); exact (kd_clR _ (by omega)).1) | ((with_reducible apply ap_rc); exact (kd_clR _ (by omega)).2.2.1) | ((with_reducible apply ap_rR); exact (kd_ridA _ (by omega)).1) | ((with_reducible apply ap_rN); rfl) | ((with_reducible apply M_in)) | ((with_reducible apply X_isWithin)) | ((with_reducible apply ap_rI); rfl) | ((with_reducible apply ap_wI); rfl) | ((with_reducible apply ap_iA); rfl; (try simp only [bz_lit, pk_mul, nI_add]); rfl; omega) | ((with_reducible apply ap_iW); rfl; (try simp only [bz_lit, pk_mul, nI_add]); rfl; omega))
    rw [e10]
    refine ⟨fun c => absurd ((nI_leI (by omega) (by omega)).mp c) (by omega), fun _ => ?_⟩
    repeat (first | ((with_reducible apply ap_rc); rfl) | ((with_reducible apply ap_nn)) | ((with_reducible apply ap_rR); rfl) | ((with_reducible apply M_ofOrder); rfl; (exact bz_lit _); omega; (first | omega | decide)) | ((with_reducible apply M_ofRider); rfl; (exact bz_lit _); omega; (first | omega | decide)) | ((with_reducible apply ap_rI); exact kd_ord _ (by omega) _ (by decide)) | ((with_reducible apply ap_wI); exact kd_ord _ (by omega) _ (by decide)) | ((with_reducible apply ap_rI); exact kd_rid _ (by omega) _ (by decide)) | ((with_reducible apply ap_wI); exact kd_rid _ (by omega) _ (by decide)) | ((with_reducible apply ap_rc); exact (kd_clO _ (by omega)).1) | ((with_reducible apply ap_rc); exact (kd_clR _ (by omega)).1) | ((with_reducible apply ap_rc); exact (kd_clR _ (by omega)).2.2.1) | ((with_reducible apply ap_rR); exact (kd_ridA _ (by omega)).1) | ((with_reducible apply ap_rN); rfl) | ((with_reducible apply M_in)) | ((with_reducible apply X_isWithin)) | ((with_reducible apply ap_rI); rfl) | ((with_reducible apply ap_wI); rfl) | ((with_reducible apply ap_iA); rfl; (try simp only [bz_lit, pk_mul, nI_add]); rfl; omega) | ((with_reducible apply ap_iW); rfl; (try simp only [bz_lit, pk_mul, nI_add]); rfl; omega))
    refine ap_qR rfl hk12 ?_
    repeat (first | ((with_reducible apply ap_rc); rfl) | ((with_reducible apply ap_nn)) | ((with_reducible apply ap_rR); rfl) | ((with_reducible apply M_ofOrder); rfl; (exact bz_lit _); omega; (first | omega | decide)) | ((with_reducible apply M_ofRider); rfl; (exact bz_lit _); omega; (first | omega | decide)) | ((with_reducible apply ap_rI); exact kd_ord _ (by omega) _ (by decide)) | ((with_reducible apply ap_wI); exact kd_ord _ (by omega) _ (by decide)) | ((with_reducible apply ap_rI); exact kd_rid _ (by omega) _ (by decide)) | ((with_reducible apply ap_wI); exact kd_rid _ (by omega) _ (by decide)) | ((with_reducible apply ap_rc); exact (kd_clO _ (by omega)).1) | ((with_reducible apply ap_rc); exact (kd_clR _ (by omega)).1) | ((with_reducible apply ap_rc); exact (kd_clR _ (by omega)).2.2.1) | ((with_reducible apply ap_rR); exact (kd_ridA _ (by omega)).1) | ((with_reducible apply ap_rN); rfl) | ((with_reducible apply M_in)) | ((with_reducible apply X_isWithin)) | ((with_reducible apply ap_rI); rfl) | ((with_reducible apply ap_wI); rfl) | ((with_reducible apply ap_iA); rfl; (try simp only [bz_lit, pk_mul, nI_add]); rfl; omega) | ((with_reducible apply ap_iW); rfl; (try simp only [bz_lit, pk_mul, nI_add]); rfl; omega))
    rw [sy_o (tw_s ht1) ho 2 3 (by decide) rfl, sy_r (tw_s ht1) hk12 5 3 (by decide) rfl]
    refine ⟨fun c => ?_, fun c => ?_⟩
    · rw [f_bf_n (show f_nk s n g v o k = none from if_pos c)] at ih
      exact ih S1 _ r1
    · have hok : f_nk s n g v o k = (f_np s v k o).map (fun q => f_st (f_env s (s (600 + 8 * k + 0)) (v.1 k) o 0 (nI (v.2.2.1 k)) 25 (f_lateBy s o (nI q.2)) (nI k)) g n 0) := if_neg c
      repeat (first | ((with_reducible apply ap_rc); rfl) | ((with_reducible apply ap_nn)) | ((with_reducible apply ap_rR); rfl) | ((with_reducible apply M_ofOrder); rfl; (exact bz_lit _); omega; (first | omega | decide)) | ((with_reducible apply M_ofRider); rfl; (exact bz_lit _); omega; (first | omega | decide)) | ((with_reducible apply ap_rI); exact kd_ord _ (by omega) _ (by decide)) | ((with_reducible apply ap_wI); exact kd_ord _ (by omega) _ (by decide)) | ((with_reducible apply ap_rI); exact kd_rid _ (by omega) _ (by decide)) | ((with_reducible apply ap_wI); exact kd_rid _ (by omega) _ (by decide)) | ((with_reducible apply ap_rc); exact (kd_clO _ (by omega)).1) | ((with_reducible apply ap_rc); exact (kd_clR _ (by omega)).1) | ((with_reducible apply ap_rc); exact (kd_clR _ (by omega)).2.2.1) | ((with_reducible apply ap_rR); exact (kd_ridA _ (by omega)).1) | ((with_reducible apply ap_rN); rfl) | ((with_reducible apply M_in)) | ((with_reducible apply X_isWithin)) | ((with_reducible apply ap_rI); rfl) | ((with_reducible apply ap_wI); rfl) | ((with_reducible apply ap_iA); rfl; (try simp only [bz_lit, pk_mul, nI_add]); rfl; omega) | ((with_reducible apply ap_iW); rfl; (try simp only [bz_lit, pk_mul, nI_add]); rfl; omega))
      refine X_planFor rfl hk12 hk ho hp ht1 hv1 hb (fun S2 r2 v2 => ?_)
      have ht2 : tw S2 s := tw_f ht1 r2 (by intro c k h; first | omega | (dsimp only at h ⊢; omega) | (dsimp only at h; omega) | (dsimp only; omega))
      have hv2 : nx S2 m v := nx_f hv1 r2 (by intro c k h; first | omega | (dsimp only at h ⊢; omega) | (dsimp only at h; omega) | (dsimp only; omega))
      have r12 : fr (fun c _ => 175 ≤ c ∧ c ≤ 180) S S2 := fr_t r1 (fr_m r2 (by intro c k h; first | omega | (dsimp only at h ⊢; omega) | (dsimp only at h; omega) | (dsimp only; omega)))
      cases h : f_np s v k o with
      | none =>
        rw [h] at hok
        rw [f_bf_n hok] at ih
        exact ⟨fun c2 => absurd rfl c2, fun _ => ih S2 _ r12⟩
      | some q =>
        obtain ⟨-, -, v10⟩ := v2 q.1 q.2 h
        rw [h] at hok
        refine ⟨fun _ => ?_, fun c2 => absurd c2 (f_ok_1 _)⟩
        repeat (first | ((with_reducible apply ap_rc); rfl) | ((with_reducible apply ap_nn)) | ((with_reducible apply ap_rR); rfl) | ((with_reducible apply M_ofOrder); rfl; (exact bz_lit _); omega; (first | omega | decide)) | ((with_reducible apply M_ofRider); rfl; (exact bz_lit _); omega; (first | omega | decide)) | ((with_reducible apply ap_rI); exact kd_ord _ (by omega) _ (by decide)) | ((with_reducible apply ap_wI); exact kd_ord _ (by omega) _ (by decide)) | ((with_reducible apply ap_rI); exact kd_rid _ (by omega) _ (by decide)) | ((with_reducible apply ap_wI); exact kd_rid _ (by omega) _ (by decide)) | ((with_reducible apply ap_rc); exact (kd_clO _ (by omega)).1) | ((with_reducible apply ap_rc); exact (kd_clR _ (by omega)).1) | ((with_reducible apply ap_rc); exact (kd_clR _ (by omega)).2.2.1) | ((with_reducible apply ap_rR); exact (kd_ridA _ (by omega)).1) | ((with_reducible apply ap_rN); rfl) | ((with_reducible apply M_in)) | ((with_reducible apply X_isWithin)) | ((with_reducible apply ap_rI); rfl) | ((with_reducible apply ap_wI); rfl) | ((with_reducible apply ap_iA); rfl; (try simp only [bz_lit, pk_mul, nI_add]); rfl; omega) | ((with_reducible apply ap_iW); rfl; (try simp only [bz_lit, pk_mul, nI_add]); rfl; omega))
        refine ap_qR rfl hk12 ?_
        repeat (first | ((with_reducible apply ap_rc); rfl) | ((with_reducible apply ap_nn)) | ((with_reducible apply ap_rR); rfl) | ((with_reducible apply M_ofOrder); rfl; (exact bz_lit _); omega; (first | omega | decide)) | ((with_reducible apply M_ofRider); rfl; (exact bz_lit _); omega; (first | omega | decide)) | ((with_reducible apply ap_rI); exact kd_ord _ (by omega) _ (by decide)) | ((with_reducible apply ap_wI); exact kd_ord _ (by omega) _ (by decide)) | ((with_reducible apply ap_rI); exact kd_rid _ (by omega) _ (by decide)) | ((with_reducible apply ap_wI); exact kd_rid _ (by omega) _ (by decide)) | ((with_reducible apply ap_rc); exact (kd_clO _ (by omega)).1) | ((with_reducible apply ap_rc); exact (kd_clR _ (by omega)).1) | ((with_reducible apply ap_rc); exact (kd_clR _ (by omega)).2.2.1) | ((with_reducible apply ap_rR); exact (kd_ridA _ (by omega)).1) | ((with_reducible apply ap_rN); rfl) | ((with_reducible apply M_in)) | ((with_reducible apply X_isWithin)) | ((with_reducible apply ap_rI); rfl) | ((with_reducible apply ap_wI); rfl) | ((with_reducible apply ap_iA); rfl; (try simp only [bz_lit, pk_mul, nI_add]); rfl; omega) | ((with_reducible apply ap_iW); rfl; (try simp only [bz_lit, pk_mul, nI_add]); rfl; omega))
        rw [sy_r (tw_s ht2) hk12 0 1 (by decide) rfl, (hv2 k hk).1]
        refine X_putWays rfl ho hp b1 ht2 (fun S3 r3 w0 w5 => ?_)
        have hv3 : nx S3 m v := nx_f hv2 r3 (by intro c k h; first | omega | (dsimp only at h ⊢; omega) | (dsimp only at h; omega) | (dsimp only; omega))
        repeat (first | ((with_reducible apply ap_rc); rfl) | ((with_reducible apply ap_nn)) | ((with_reducible apply ap_rR); rfl) | ((with_reducible apply M_ofOrder); rfl; (exact bz_lit _); omega; (first | omega | decide)) | ((with_reducible apply M_ofRider); rfl; (exact bz_lit _); omega; (first | omega | decide)) | ((with_reducible apply ap_rI); exact kd_ord _ (by omega) _ (by decide)) | ((with_reducible apply ap_wI); exact kd_ord _ (by omega) _ (by decide)) | ((with_reducible apply ap_rI); exact kd_rid _ (by omega) _ (by decide)) | ((with_reducible apply ap_wI); exact kd_rid _ (by omega) _ (by decide)) | ((with_reducible apply ap_rc); exact (kd_clO _ (by omega)).1) | ((with_reducible apply ap_rc); exact (kd_clR _ (by omega)).1) | ((with_reducible apply ap_rc); exact (kd_clR _ (by omega)).2.2.1) | ((with_reducible apply ap_rR); exact (kd_ridA _ (by omega)).1) | ((with_reducible apply ap_rN); rfl) | ((with_reducible apply M_in)) | ((with_reducible apply X_isWithin)) | ((with_reducible apply ap_rI); rfl) | ((with_reducible apply ap_wI); rfl) | ((with_reducible apply ap_iA); rfl; (try simp only [bz_lit, pk_mul, nI_add]); rfl; omega) | ((with_reducible apply ap_iW); rfl; (try simp only [bz_lit, pk_mul, nI_add]); rfl; omega))
        rw [(hv3 k hk).2.2]
        refine X_putRider (fun S4 r4 w6 w2 w3 => ?_)
        repeat (first | ((with_reducible apply ap_rc); rfl) | ((with_reducible apply ap_nn)) | ((with_reducible apply ap_rR); rfl) | ((with_reducible apply M_ofOrder); rfl; (exact bz_lit _); omega; (first | omega | decide)) | ((with_reducible apply M_ofRider); rfl; (exact bz_lit _); omega; (first | omega | decide)) | ((with_reducible apply ap_rI); exact kd_ord _ (by omega) _ (by decide)) | ((with_reducible apply ap_wI); exact kd_ord _ (by omega) _ (by decide)) | ((with_reducible apply ap_rI); exact kd_rid _ (by omega) _ (by decide)) | ((with_reducible apply ap_wI); exact kd_rid _ (by omega) _ (by decide)) | ((with_reducible apply ap_rc); exact (kd_clO _ (by omega)).1) | ((with_reducible apply ap_rc); exact (kd_clR _ (by omega)).1) | ((with_reducible apply ap_rc); exact (kd_clR _ (by omega)).2.2.1) | ((with_reducible apply ap_rR); exact (kd_ridA _ (by omega)).1) | ((with_reducible apply ap_rN); rfl) | ((with_reducible apply M_in)) | ((with_reducible apply X_isWithin)) | ((with_reducible apply ap_rI); rfl) | ((with_reducible apply ap_wI); rfl) | ((with_reducible apply ap_iA); rfl; (try simp only [bz_lit, pk_mul, nI_add]); rfl; omega) | ((with_reducible apply ap_iW); rfl; (try simp only [bz_lit, pk_mul, nI_add]); rfl; omega))
        rw [r4.2 175 10 (by dsimp only; omega), r3.2 175 10 (by dsimp only; omega), v10]
        refine X_putTimes (fun S5 r5 w1 w4 => ?_)
        repeat (first | ((with_reducible apply ap_rc); rfl) | ((with_reducible apply ap_nn)) | ((with_reducible apply ap_rR); rfl) | ((with_reducible apply M_ofOrder); rfl; (exact bz_lit _); omega; (first | omega | decide)) | ((with_reducible apply M_ofRider); rfl; (exact bz_lit _); omega; (first | omega | decide)) | ((with_reducible apply ap_rI); exact kd_ord _ (by omega) _ (by decide)) | ((with_reducible apply ap_wI); exact kd_ord _ (by omega) _ (by decide)) | ((with_reducible apply ap_rI); exact kd_rid _ (by omega) _ (by decide)) | ((with_reducible apply ap_wI); exact kd_rid _ (by omega) _ (by decide)) | ((with_reducible apply ap_rc); exact (kd_clO _ (by omega)).1) | ((with_reducible apply ap_rc); exact (kd_clR _ (by omega)).1) | ((with_reducible apply ap_rc); exact (kd_clR _ (by omega)).2.2.1) | ((with_reducible apply ap_rR); exact (kd_ridA _ (by omega)).1) | ((with_reducible apply ap_rN); rfl) | ((with_reducible apply M_in)) | ((with_reducible apply X_isWithin)) | ((with_reducible apply ap_rI); rfl) | ((with_reducible apply ap_wI); rfl) | ((with_reducible apply ap_iA); rfl; (try simp only [bz_lit, pk_mul, nI_add]); rfl; omega) | ((with_reducible apply ap_iW); rfl; (try simp only [bz_lit, pk_mul, nI_add]); rfl; omega))
        refine X_worthOf (v := f_env s (s (600 + 8 * k + 0)) (v.1 k) o 0 (nI (v.2.2.1 k)) 25 (f_lateBy s o (nI q.2)) (nI k)) (i := i) (n := n) (f := f) (g := g) (by rw [r5.1, r4.1, r3.1, r12.1]; exact hT) hfg hwf (fun j hj => ?_) (fun S6 r6 => ?_)
        · rcases (by omega : j = 0 ∨ j = 1 ∨ j = 2 ∨ j = 3 ∨ j = 4 ∨ j = 5 ∨ j = 6) with z | z | z | z | z | z | z <;> subst z
          · rw [r5.2 179 0 (by dsimp only; omega), r4.2 179 0 (by dsimp only; omega)]
            exact w0
          · exact w1
          · rw [r5.2 179 2 (by dsimp only; omega)]
            exact w2
          · rw [r5.2 179 3 (by dsimp only; omega)]
            exact w3
          · exact w4
          · rw [r5.2 179 5 (by dsimp only; omega), r4.2 179 5 (by dsimp only; omega)]
            exact w5
          · rw [r5.2 179 6 (by dsimp only; omega)]
            exact w6
        · have rr : fr (fun c _ => 175 ≤ c ∧ c ≤ 180) S S6 := fr_t r12 (fr_t (fr_m r3 (by intro c k h; first | omega | (dsimp only at h ⊢; omega) | (dsimp only at h; omega) | (dsimp only; omega))) (fr_t (fr_m r4 (by intro c k h; first | omega | (dsimp only at h ⊢; omega) | (dsimp only at h; omega) | (dsimp only; omega))) (fr_t (fr_m r5 (by intro c k h; first | omega | (dsimp only at h ⊢; omega) | (dsimp only at h; omega) | (dsimp only; omega))) (fr_m r6 (by intro c k h; first | omega | (dsimp only at h ⊢; omega) | (dsimp only at h; omega) | (dsimp only; omega))))))
          have hok' : f_nk s n g v o k = some (f_st (f_env s (s (600 + 8 * k + 0)) (v.1 k) o 0 (nI (v.2.2.1 k)) 25 (f_lateBy s o (nI q.2)) (nI k)) g n 0) := hok
          generalize hvv : f_st (f_env s (s (600 + 8 * k + 0)) (v.1 k) o 0 (nI (v.2.2.1 k)) 25 (f_lateBy s o (nI q.2)) (nI k)) g n 0 = vv at *
          cases hbk : f_bf (f_nk s n g v o) k with
          | none =>
            rw [f_bf_0 hok' hbk] at ih
            exact ⟨fun _ => ih S6 _ rr, fun c3 => absurd rfl c3⟩
          | some b =>
            rw [f_bf_s hok' hbk] at ih
            have hbl := (f_bf_lt hbk).1
            refine ⟨fun c3 => absurd c3 (nI_nn (by omega)), fun _ => ⟨fun c3 => ?_, fun c3 => ?_⟩⟩
            · rw [if_pos (show vv ≤ b.2 from c3)] at ih
              exact ih S6 _ rr
            · rw [if_neg (show ¬ vv ≤ b.2 from c3)] at ih
              exact ih S6 _ rr
  · intro S1 u6 r1
    have ht1 : tw S1 s := tw_f ht r1 (by intro c k h; first | omega | (dsimp only at h ⊢; omega) | (dsimp only at h; omega) | (dsimp only; omega))
    have e10 : S1.1 6 10 = nI m := (sy_c (tw_s ht1) 3 0 10 (by decide) rfl).trans em3
    refine g_X1_bestTaker_8 hl _ _ _ _ _ _ _ _ ?_
    unfold w_X1_bestTaker_8
    repeat (first | ((with_reducible apply ap_rc); rfl) | ((with_reducible apply ap_nn)) | ((with_reducible apply ap_rR); rfl) | ((with_reducible apply M_ofOrder); rfl; (exact bz_lit _); omega; (first | omega | decide)) | ((with_reducible apply M_ofRider); rfl; (exact bz_lit _); omega; (first | omega | decide)) | ((with_reducible apply ap_rI); exact kd_ord _ (by omega) _ (by decide)) | ((with_reducible apply ap_wI); exact kd_ord _ (by omega) _ (by decide)) | ((with_reducible apply ap_rI); exact kd_rid _ (by omega) _ (by decide)) | ((with_reducible apply ap_wI); exact kd_rid _ (by omega) _ (by decide)) | ((with_reducible apply ap_rc); exact (kd_clO _ (by omega)).1) | ((with_reducible apply ap_rc); exact (kd_clR _ (by omega)).1) | ((with_reducible apply ap_rc); exact (kd_clR _ (by omega)).2.2.1) | ((with_reducible apply ap_rR); exact (kd_ridA _ (by omega)).1) | ((with_reducible apply ap_rN); rfl) | ((with_reducible apply M_in)) | ((with_reducible apply X_isWithin)) | ((with_reducible apply ap_rI); rfl) | ((with_reducible apply ap_wI); rfl) | ((with_reducible apply ap_iA); rfl; (try simp only [bz_lit, pk_mul, nI_add]); rfl; omega) | ((with_reducible apply ap_iW); rfl; (try simp only [bz_lit, pk_mul, nI_add]); rfl; omega))
    rw [e10]
    exact ⟨fun _ => ⟨_, rfl, hP S1 r1⟩, fun c => absurd (nI_le (by omega) (by omega)) c⟩
theorem X_startAgain {P : bz_H → Prop} {n m : Nat} {g : Nat → Nat} (ht : tw S s) (hm : m = (s 3).toNatClampNeg) (hP : ∀ S', fr (fun c _ => 181 ≤ c ∧ c ≤ 184) S S' → nx S' m (f_ni s n g 0) → S'.1 181 7 = 0 → S'.1 181 8 = 0 → S'.1 181 9 = 0 → P (bz_hp E S')) : bz_cV G l (d + 1) kX1_startAgain [.inr (some 181)] (bz_hp E S) 0 0 P := by
  refine m_X1_startAgain _ _ (fun κ bc bs hl => ?_)
  unfold w_X1_startAgain_0
  have hg := tw_b ht
  obtain ⟨m3, hm3, em3⟩ : bz_lt (s 3) 13 := hg 3 (by decide) (by decide) (by decide)
  have hmm : m = m3 := by rw [hm, em3, nI_clamp (by omega)]
  subst hmm
  have main := bz_for (n := m) (Q := fun k => ∀ (S1 : bz_S), fr (fun c _ => 181 ≤ c ∧ c ≤ 184) S S1 → nx S1 k (f_ni s n g 0) → bz_J G κ kX1_startAgain (d + 1) (fun v h' => v = none ∧ P h') bc bs 2 [some (.inr (some 181)), some (.inl (nI k))] [] (bz_hp E S1)) (fun k hk ih S1 r1 v1 => ?_) ?_
  · exact main S (fr_r _ S) (fun r hr => absurd hr (by omega))
  · have ht1 : tw S1 s := tw_f ht r1 (by intro c k h; first | omega | (dsimp only at h ⊢; omega) | (dsimp only at h; omega) | (dsimp only; omega))
    have hk12 : k < 12 := by omega
    have e10 : S1.1 6 10 = nI m := (sy_c (tw_s ht1) 3 0 10 (by decide) rfl).trans em3
    obtain ⟨a, ha, ea⟩ : bz_lt (s (600 + 8 * k + 4)) 16 := gb_r hg hk12 4 (by decide)
    obtain ⟨b, hb, eb⟩ : bz_lt (s (600 + 8 * k + 5)) 1440 := gb_r hg hk12 5 (by decide)
    rw [nI_succ] at ih
    refine g_X1_startAgain_2 hl _ _ _ ?_
    unfold w_X1_startAgain_2
    repeat (first | ((with_reducible apply ap_rc); rfl) | ((with_reducible apply ap_nn)) | ((with_reducible apply ap_rR); rfl) | ((with_reducible apply M_ofOrder); rfl; (exact bz_lit _); omega; (first | omega | decide)) | ((with_reducible apply M_ofRider); rfl; (exact bz_lit _); omega; (first | omega | decide)) | ((with_reducible apply ap_rI); exact kd_ord _ (by omega) _ (by decide)) | ((with_reducible apply ap_wI); exact kd_ord _ (by omega) _ (by decide)) | ((with_reducible apply ap_rI); exact kd_rid _ (by omega) _ (by decide)) | ((with_reducible apply ap_wI); exact kd_rid _ (by omega) _ (by decide)) | ((with_reducible apply ap_rc); exact (kd_clO _ (by omega)).1) | ((with_reducible apply ap_rc); exact (kd_clR _ (by omega)).1) | ((with_reducible apply ap_rc); exact (kd_clR _ (by omega)).2.2.1) | ((with_reducible apply ap_rR); exact (kd_ridA _ (by omega)).1) | ((with_reducible apply ap_rN); rfl) | ((with_reducible apply M_in)) | ((with_reducible apply X_isWithin)) | ((with_reducible apply ap_rI); rfl) | ((with_reducible apply ap_wI); rfl) | ((with_reducible apply ap_iA); rfl; (try simp only [bz_lit, pk_mul, nI_add]); rfl; omega) | ((with_reducible apply ap_iW); rfl; (try simp only [bz_lit, pk_mul, nI_add]); rfl; omega))
    rw [e10]
    refine ⟨fun c => absurd ((nI_leI (by omega) (by omega)).mp c) (by omega), fun _ => ?_⟩
    repeat (first | ((with_reducible apply ap_rc); rfl) | ((with_reducible apply ap_nn)) | ((with_reducible apply ap_rR); rfl) | ((with_reducible apply M_ofOrder); rfl; (exact bz_lit _); omega; (first | omega | decide)) | ((with_reducible apply M_ofRider); rfl; (exact bz_lit _); omega; (first | omega | decide)) | ((with_reducible apply ap_rI); exact kd_ord _ (by omega) _ (by decide)) | ((with_reducible apply ap_wI); exact kd_ord _ (by omega) _ (by decide)) | ((with_reducible apply ap_rI); exact kd_rid _ (by omega) _ (by decide)) | ((with_reducible apply ap_wI); exact kd_rid _ (by omega) _ (by decide)) | ((with_reducible apply ap_rc); exact (kd_clO _ (by omega)).1) | ((with_reducible apply ap_rc); exact (kd_clR _ (by omega)).1) | ((with_reducible apply ap_rc); exact (kd_clR _ (by omega)).2.2.1) | ((with_reducible apply ap_rR); exact (kd_ridA _ (by omega)).1) | ((with_reducible apply ap_rN); rfl) | ((with_reducible apply M_in)) | ((with_reducible apply X_isWithin)) | ((with_reducible apply ap_rI); rfl) | ((with_reducible apply ap_wI); rfl) | ((with_reducible apply ap_iA); rfl; (try simp only [bz_lit, pk_mul, nI_add]); rfl; omega) | ((with_reducible apply ap_iW); rfl; (try simp only [bz_lit, pk_mul, nI_add]); rfl; omega))
    refine ap_qR rfl hk12 ?_
    repeat (first | ((with_reducible apply ap_rc); rfl) | ((with_reducible apply ap_nn)) | ((with_reducible apply ap_rR); rfl) | ((with_reducible apply M_ofOrder); rfl; (exact bz_lit _); omega; (first | omega | decide)) | ((with_reducible apply M_ofRider); rfl; (exact bz_lit _); omega; (first | omega | decide)) | ((with_reducible apply ap_rI); exact kd_ord _ (by omega) _ (by decide)) | ((with_reducible apply ap_wI); exact kd_ord _ (by omega) _ (by decide)) | ((with_reducible apply ap_rI); exact kd_rid _ (by omega) _ (by decide)) | ((with_reducible apply ap_wI); exact kd_rid _ (by omega) _ (by decide)) | ((with_reducible apply ap_rc); exact (kd_clO _ (by omega)).1) | ((with_reducible apply ap_rc); exact (kd_clR _ (by omega)).1) | ((with_reducible apply ap_rc); exact (kd_clR _ (by omega)).2.2.1) | ((with_reducible apply ap_rR); exact (kd_ridA _ (by omega)).1) | ((with_reducible apply ap_rN); rfl) | ((with_reducible apply M_in)) | ((with_reducible apply X_isWithin)) | ((with_reducible apply ap_rI); rfl) | ((with_reducible apply ap_wI); rfl) | ((with_reducible apply ap_iA); rfl; (try simp only [bz_lit, pk_mul, nI_add]); rfl; omega) | ((with_reducible apply ap_iW); rfl; (try simp only [bz_lit, pk_mul, nI_add]); rfl; omega))
    refine ap_qR rfl hk12 ?_
    repeat (first | ((with_reducible apply ap_rc); rfl) | ((with_reducible apply ap_nn)) | ((with_reducible apply ap_rR); rfl) | ((with_reducible apply M_ofOrder); rfl; (exact bz_lit _); omega; (first | omega | decide)) | ((with_reducible apply M_ofRider); rfl; (exact bz_lit _); omega; (first | omega | decide)) | ((with_reducible apply ap_rI); exact kd_ord _ (by omega) _ (by decide)) | ((with_reducible apply ap_wI); exact kd_ord _ (by omega) _ (by decide)) | ((with_reducible apply ap_rI); exact kd_rid _ (by omega) _ (by decide)) | ((with_reducible apply ap_wI); exact kd_rid _ (by omega) _ (by decide)) | ((with_reducible apply ap_rc); exact (kd_clO _ (by omega)).1) | ((with_reducible apply ap_rc); exact (kd_clR _ (by omega)).1) | ((with_reducible apply ap_rc); exact (kd_clR _ (by omega)).2.2.1) | ((with_reducible apply ap_rR); exact (kd_ridA _ (by omega)).1) | ((with_reducible apply ap_rN); rfl) | ((with_reducible apply M_in)) | ((with_reducible apply X_isWithin)) | ((with_reducible apply ap_rI); rfl) | ((with_reducible apply ap_wI); rfl) | ((with_reducible apply ap_iA); rfl; (try simp only [bz_lit, pk_mul, nI_add]); rfl; omega) | ((with_reducible apply ap_iW); rfl; (try simp only [bz_lit, pk_mul, nI_add]); rfl; omega))
    dsimp only
    simp (disch := omega) only [bz_u_ne]
    rw [sy_r (tw_s ht1) hk12 4 2 (by decide) rfl, sy_r (tw_s ht1) hk12 5 3 (by decide) rfl]
    refine ih _ (fr_t r1 (fr_v (fr_v (fr_v (fr_0 _ S1) (by first | omega | (dsimp only; omega))) (by first | omega | (dsimp only; omega))) (by first | omega | (dsimp only; omega)))) (fun r hr => ?_)
    dsimp only
    by_cases hrk : r = k
    · subst hrk
      simp (disch := omega) only [bz_u_same, bz_u_ne]
      show _ ∧ _ ∧ (0 : Int32) = nI 0
      refine ⟨?_, ?_, rfl⟩
      · show s (600 + 8 * r + 4) = nI (s (600 + 8 * r + 4)).toNatClampNeg
        rw [ea, nI_clamp (by omega)]
      · show s (600 + 8 * r + 5) = nI (s (600 + 8 * r + 5)).toNatClampNeg
        rw [eb, nI_clamp (by omega)]
    · simp (disch := omega) only [bz_u_ne]
      exact v1 r (by omega)
  · intro S1 r1 v1
    have ht1 : tw S1 s := tw_f ht r1 (by intro c k h; first | omega | (dsimp only at h ⊢; omega) | (dsimp only at h; omega) | (dsimp only; omega))
    have e10 : S1.1 6 10 = nI m := (sy_c (tw_s ht1) 3 0 10 (by decide) rfl).trans em3
    refine g_X1_startAgain_2 hl _ _ _ ?_
    unfold w_X1_startAgain_2
    repeat (first | ((with_reducible apply ap_rc); rfl) | ((with_reducible apply ap_nn)) | ((with_reducible apply ap_rR); rfl) | ((with_reducible apply M_ofOrder); rfl; (exact bz_lit _); omega; (first | omega | decide)) | ((with_reducible apply M_ofRider); rfl; (exact bz_lit _); omega; (first | omega | decide)) | ((with_reducible apply ap_rI); exact kd_ord _ (by omega) _ (by decide)) | ((with_reducible apply ap_wI); exact kd_ord _ (by omega) _ (by decide)) | ((with_reducible apply ap_rI); exact kd_rid _ (by omega) _ (by decide)) | ((with_reducible apply ap_wI); exact kd_rid _ (by omega) _ (by decide)) | ((with_reducible apply ap_rc); exact (kd_clO _ (by omega)).1) | ((with_reducible apply ap_rc); exact (kd_clR _ (by omega)).1) | ((with_reducible apply ap_rc); exact (kd_clR _ (by omega)).2.2.1) | ((with_reducible apply ap_rR); exact (kd_ridA _ (by omega)).1) | ((with_reducible apply ap_rN); rfl) | ((with_reducible apply M_in)) | ((with_reducible apply X_isWithin)) | ((with_reducible apply ap_rI); rfl) | ((with_reducible apply ap_wI); rfl) | ((with_reducible apply ap_iA); rfl; (try simp only [bz_lit, pk_mul, nI_add]); rfl; omega) | ((with_reducible apply ap_iW); rfl; (try simp only [bz_lit, pk_mul, nI_add]); rfl; omega))
    rw [e10]
    refine ⟨fun _ => ?_, fun c => absurd (nI_le (by omega) (by omega)) c⟩
    repeat (first | ((with_reducible apply ap_rc); rfl) | ((with_reducible apply ap_nn)) | ((with_reducible apply ap_rR); rfl) | ((with_reducible apply M_ofOrder); rfl; (exact bz_lit _); omega; (first | omega | decide)) | ((with_reducible apply M_ofRider); rfl; (exact bz_lit _); omega; (first | omega | decide)) | ((with_reducible apply ap_rI); exact kd_ord _ (by omega) _ (by decide)) | ((with_reducible apply ap_wI); exact kd_ord _ (by omega) _ (by decide)) | ((with_reducible apply ap_rI); exact kd_rid _ (by omega) _ (by decide)) | ((with_reducible apply ap_wI); exact kd_rid _ (by omega) _ (by decide)) | ((with_reducible apply ap_rc); exact (kd_clO _ (by omega)).1) | ((with_reducible apply ap_rc); exact (kd_clR _ (by omega)).1) | ((with_reducible apply ap_rc); exact (kd_clR _ (by omega)).2.2.1) | ((with_reducible apply ap_rR); exact (kd_ridA _ (by omega)).1) | ((with_reducible apply ap_rN); rfl) | ((with_reducible apply M_in)) | ((with_reducible apply X_isWithin)) | ((with_reducible apply ap_rI); rfl) | ((with_reducible apply ap_wI); rfl) | ((with_reducible apply ap_iA); rfl; (try simp only [bz_lit, pk_mul, nI_add]); rfl; omega) | ((with_reducible apply ap_iW); rfl; (try simp only [bz_lit, pk_mul, nI_add]); rfl; omega))
    have r2 : fr (fun c _ => c = 181) S1 (bz_u (bz_u (bz_u S1.1 181 7 0) 181 8 0) 181 9 0, S1.2) := fr_v (fr_v (fr_v (fr_0 _ S1) (by first | omega | (dsimp only; omega))) (by first | omega | (dsimp only; omega))) (by first | omega | (dsimp only; omega))
    refine ⟨rfl, hP _ (fr_t r1 (fr_m r2 (by intro c k h; first | omega | (dsimp only at h ⊢; omega) | (dsimp only at h; omega) | (dsimp only; omega)))) (nx_f v1 r2 (by intro c k h; first | omega | (dsimp only at h ⊢; omega) | (dsimp only at h; omega) | (dsimp only; omega))) ?_ ?_ ?_⟩ <;> simp (disch := omega) only [bz_u_same, bz_u_ne]
theorem X_handTo {P : bz_H → Prop} {y : Int32} {r m : Nat} {a e : Nat} {lt hd l0 : Int32} {e0 : Nat} {v : Nv} (hy : y = nI r) (hr : r < 12) (hrm : r < m) (hv : nx S m v) (h7 : S.1 175 7 = nI e) (h8 : S.1 175 8 = nI a) (h10 : S.1 175 10 = lt) (g7 : S.1 181 7 = hd) (g8 : S.1 181 8 = l0) (g9 : S.1 181 9 = nI e0) (he : e < 1440) (he0 : e0 < 1440) (hP : ∀ S', fr (fun c _ => 181 ≤ c ∧ c ≤ 184) S S' → nx S' m (updn v.1 r a, updn v.2.1 r e, updn v.2.2.1 r (v.2.2.1 r + 1), v.2.2.2) → S'.1 181 7 = hd + 1 → S'.1 181 8 = l0 + lt → S'.1 181 9 = nI (if e ≤ e0 then e0 else e) → P (bz_hp E S')) : bz_cV G l (d + 1) kX1_handTo [.inr (some 181), .inl y] (bz_hp E S) 0 0 P := by
  refine m_X1_handTo _ _ _ ?_
  unfold w_X1_handTo_0
  subst hy
  obtain ⟨v1, v2, v3⟩ := hv r hrm
  have hmx : (if nI e0 < nI e then nI e else nI e0) = nI (if e ≤ e0 then e0 else e) := by
    by_cases q : e ≤ e0
    · rw [if_pos q, if_neg (nI_nlt q (by omega))]
    · rw [if_neg q, if_pos (nI_lt (by omega) (by omega))]
  repeat (first | ((with_reducible apply ap_rc); rfl) | ((with_reducible apply ap_nn)) | ((with_reducible apply ap_rR); rfl) | ((with_reducible apply M_ofOrder); rfl; (exact bz_lit _); omega; (first | omega | decide)) | ((with_reducible apply M_ofRider); rfl; (exact bz_lit _); omega; (first | omega | decide)) | ((with_reducible apply ap_rI); exact kd_ord _ (by omega) _ (by decide)) | ((with_reducible apply ap_wI); exact kd_ord _ (by omega) _ (by decide)) | ((with_reducible apply ap_rI); exact kd_rid _ (by omega) _ (by decide)) | ((with_reducible apply ap_wI); exact kd_rid _ (by omega) _ (by decide)) | ((with_reducible apply ap_rc); exact (kd_clO _ (by omega)).1) | ((with_reducible apply ap_rc); exact (kd_clR _ (by omega)).1) | ((with_reducible apply ap_rc); exact (kd_clR _ (by omega)).2.2.1) | ((with_reducible apply ap_rR); exact (kd_ridA _ (by omega)).1) | ((with_reducible apply ap_rN); rfl) | ((with_reducible apply M_in)) | ((with_reducible apply X_isWithin)) | ((with_reducible apply ap_rI); rfl) | ((with_reducible apply ap_wI); rfl) | ((with_reducible apply ap_iA); rfl; (try simp only [bz_lit, pk_mul, nI_add]); rfl; omega) | ((with_reducible apply ap_iW); rfl; (try simp only [bz_lit, pk_mul, nI_add]); rfl; omega))
  dsimp only
  simp (disch := omega) only [bz_u_ne, bz_u_same]
  rw [h7, h8, h10, g7, g8, g9, v3, hmx]
  refine ⟨trivial, hP _ (fr_v (fr_v (fr_v (fr_v (fr_v (fr_v (fr_0 _ S) (by first | omega | (dsimp only; omega))) (by first | omega | (dsimp only; omega))) (by first | omega | (dsimp only; omega))) (by first | omega | (dsimp only; omega))) (by first | omega | (dsimp only; omega))) (by first | omega | (dsimp only; omega))) (fun q hq => ?_) ?_ ?_ ?_⟩
  · dsimp only
    by_cases hqr : q = r
    · subst hqr
      simp (disch := omega) only [bz_u_same, bz_u_ne]
      rw [updn_s, updn_s, updn_s, nI_succ]
      exact ⟨by first | rfl | trivial, by first | rfl | trivial, by first | rfl | trivial⟩
    · simp (disch := omega) only [bz_u_ne]
      rw [updn_n hqr, updn_n hqr, updn_n hqr]
      exact hv q hq
  · simp (disch := omega) only [bz_u_same, bz_u_ne]
  · simp (disch := omega) only [bz_u_same, bz_u_ne]
  · simp (disch := omega) only [bz_u_same, bz_u_ne]
theorem X_passBy {P : bz_H → Prop} {i n m N : Nat} {f : Nat → Int32} {g : Nat → Nat} (ht : tw S s) (hm : m = (s 3).toNatClampNeg) (hN : N = (s 2).toNatClampNeg) (hT : S.2.2[i]? = some (n, f)) (hfg : ∀ k, k < n → f k = nI (g k)) (hwf : wfm g n) (hP : ∀ S', fr (fun c _ => 175 ≤ c ∧ c ≤ 185) S S' → nx S' m (f_ni s n g N) → S'.1 181 7 = nI (f_ni s n g N).2.2.2.2.1 → S'.1 181 8 = (f_ni s n g N).2.2.2.2.2.1 → S'.1 181 9 = nI (f_ni s n g N).2.2.2.2.2.2 → (∀ j, j < N → S'.1 185 j = (f_ni s n g N).2.2.2.1 j) → P (bz_hp E S')) : bz_cV G l (d + 6) kX1_passBy [.inr (some 181), .inr (some (205 + 2 * i))] (bz_hp E S) 0 0 P := by
  refine m_X1_passBy _ _ _ (fun κ bc bs hl => ?_)
  unfold w_X1_passBy_0
  have hg := tw_b ht
  obtain ⟨m3, hm3, em3⟩ : bz_lt (s 3) 13 := hg 3 (by decide) (by decide) (by decide)
  obtain ⟨m2, hm2, em2⟩ : bz_lt (s 2) 25 := hg 2 (by decide) (by decide) (by decide)
  have hmm : m = m3 := by rw [hm, em3, nI_clamp (by omega)]
  have hNN : N = m2 := by rw [hN, em2, nI_clamp (by omega)]
  subst hmm; subst hNN
  repeat (first | ((with_reducible apply ap_rc); rfl) | ((with_reducible apply ap_nn)) | ((with_reducible apply ap_rR); rfl) | ((with_reducible apply M_ofOrder); rfl; (exact bz_lit _); omega; (first | omega | decide)) | ((with_reducible apply M_ofRider); rfl; (exact bz_lit _); omega; (first | omega | decide)) | ((with_reducible apply ap_rI); exact kd_ord _ (by omega) _ (by decide)) | ((with_reducible apply ap_wI); exact kd_ord _ (by omega) _ (by decide)) | ((with_reducible apply ap_rI); exact kd_rid _ (by omega) _ (by decide)) | ((with_reducible apply ap_wI); exact kd_rid _ (by omega) _ (by decide)) | ((with_reducible apply ap_rc); exact (kd_clO _ (by omega)).1) | ((with_reducible apply ap_rc); exact (kd_clR _ (by omega)).1) | ((with_reducible apply ap_rc); exact (kd_clR _ (by omega)).2.2.1) | ((with_reducible apply ap_rR); exact (kd_ridA _ (by omega)).1) | ((with_reducible apply ap_rN); rfl) | ((with_reducible apply M_in)) | ((with_reducible apply X_isWithin)) | ((with_reducible apply ap_rI); rfl) | ((with_reducible apply ap_wI); rfl) | ((with_reducible apply ap_iA); rfl; (try simp only [bz_lit, pk_mul, nI_add]); rfl; omega) | ((with_reducible apply ap_iW); rfl; (try simp only [bz_lit, pk_mul, nI_add]); rfl; omega))
  refine X_startAgain (n := n) (g := g) ht hm (fun S0 r0 v0 z7 z8 z9 => ?_)
  have main := bz_for (n := N) (Q := fun k => ∀ (S1 : bz_S) (u3 u4 : Option bz_V), fr (fun c _ => 175 ≤ c ∧ c ≤ 185) S S1 → nx S1 m (f_ni s n g k) → S1.1 181 7 = nI (f_ni s n g k).2.2.2.2.1 → S1.1 181 8 = (f_ni s n g k).2.2.2.2.2.1 → S1.1 181 9 = nI (f_ni s n g k).2.2.2.2.2.2 → (∀ j, j < k → S1.1 185 j = (f_ni s n g k).2.2.2.1 j) → bz_J G κ kX1_passBy (d + 5 + 1) (fun v h' => v = none ∧ P h') bc bs 6 [some (.inr (some 181)), some (.inr (some (205 + 2 * i))), some (.inl (nI k)), u3, u4] [] (bz_hp E S1)) (fun k hk ih S1 u3 u4 r1 v1 a7 a8 a9 aj => ?_) ?_
  · exact main S0 none none (fr_m r0 (by intro c k h; first | omega | (dsimp only at h ⊢; omega) | (dsimp only at h; omega) | (dsimp only; omega))) v0 z7 z8 z9 (fun j hj => absurd hj (by omega))
  · have ht1 : tw S1 s := tw_f ht r1 (by intro c k h; first | omega | (dsimp only at h ⊢; omega) | (dsimp only at h; omega) | (dsimp only; omega))
    have hk24 : k < 24 := by omega
    have hkp : k < (s 2).toNatClampNeg := by rw [← hN]; exact hk
    have e9 : S1.1 6 9 = nI N := (sy_c (tw_s ht1) 2 0 9 (by decide) rfl).trans em2
    have hb := nb_i hg n g k (by omega)
    obtain ⟨tk, htk, etk⟩ : bz_lt (s (312 + 12 * k + 1)) 16 := gb_o hg hk24 1 (by decide)
    rw [nI_succ] at ih
    rw [show f_ni s n g (k + 1) = f_ns s n g (f_ni s n g k) k from rfl] at ih
    generalize f_ni s n g k = v at *
    unfold f_ns at ih
    refine g_X1_passBy_6 hl _ _ _ _ _ _ ?_
    unfold w_X1_passBy_6
    repeat (first | ((with_reducible apply ap_rc); rfl) | ((with_reducible apply ap_nn)) | ((with_reducible apply ap_rR); rfl) | ((with_reducible apply M_ofOrder); rfl; (exact bz_lit _); omega; (first | omega | decide)) | ((with_reducible apply M_ofRider); rfl; (exact bz_lit _); omega; (first | omega | decide)) | ((with_reducible apply ap_rI); exact kd_ord _ (by omega) _ (by decide)) | ((with_reducible apply ap_wI); exact kd_ord _ (by omega) _ (by decide)) | ((with_reducible apply ap_rI); exact kd_rid _ (by omega) _ (by decide)) | ((with_reducible apply ap_wI); exact kd_rid _ (by omega) _ (by decide)) | ((with_reducible apply ap_rc); exact (kd_clO _ (by omega)).1) | ((with_reducible apply ap_rc); exact (kd_clR _ (by omega)).1) | ((with_reducible apply ap_rc); exact (kd_clR _ (by omega)).2.2.1) | ((with_reducible apply ap_rR); exact (kd_ridA _ (by omega)).1) | ((with_reducible apply ap_rN); rfl) | ((with_reducible apply M_in)) | ((with_reducible apply X_isWithin)) | ((with_reducible apply ap_rI); rfl) | ((with_reducible apply ap_wI); rfl) | ((with_reducible apply ap_iA); rfl; (try simp only [bz_lit, pk_mul, nI_add]); rfl; omega) | ((with_reducible apply ap_iW); rfl; (try simp only [bz_lit, pk_mul, nI_add]); rfl; omega))
    rw [e9]
    refine ⟨fun c => absurd ((nI_leI (by omega) (by omega)).mp c) (by omega), fun _ => ?_⟩
    repeat (first | ((with_reducible apply ap_rc); rfl) | ((with_reducible apply ap_nn)) | ((with_reducible apply ap_rR); rfl) | ((with_reducible apply M_ofOrder); rfl; (exact bz_lit _); omega; (first | omega | decide)) | ((with_reducible apply M_ofRider); rfl; (exact bz_lit _); omega; (first | omega | decide)) | ((with_reducible apply ap_rI); exact kd_ord _ (by omega) _ (by decide)) | ((with_reducible apply ap_wI); exact kd_ord _ (by omega) _ (by decide)) | ((with_reducible apply ap_rI); exact kd_rid _ (by omega) _ (by decide)) | ((with_reducible apply ap_wI); exact kd_rid _ (by omega) _ (by decide)) | ((with_reducible apply ap_rc); exact (kd_clO _ (by omega)).1) | ((with_reducible apply ap_rc); exact (kd_clR _ (by omega)).1) | ((with_reducible apply ap_rc); exact (kd_clR _ (by omega)).2.2.1) | ((with_reducible apply ap_rR); exact (kd_ridA _ (by omega)).1) | ((with_reducible apply ap_rN); rfl) | ((with_reducible apply M_in)) | ((with_reducible apply X_isWithin)) | ((with_reducible apply ap_rI); rfl) | ((with_reducible apply ap_wI); rfl) | ((with_reducible apply ap_iA); rfl; (try simp only [bz_lit, pk_mul, nI_add]); rfl; omega) | ((with_reducible apply ap_iW); rfl; (try simp only [bz_lit, pk_mul, nI_add]); rfl; omega))
    refine ap_qO rfl hk24 ?_
    repeat (first | ((with_reducible apply ap_rc); rfl) | ((with_reducible apply ap_nn)) | ((with_reducible apply ap_rR); rfl) | ((with_reducible apply M_ofOrder); rfl; (exact bz_lit _); omega; (first | omega | decide)) | ((with_reducible apply M_ofRider); rfl; (exact bz_lit _); omega; (first | omega | decide)) | ((with_reducible apply ap_rI); exact kd_ord _ (by omega) _ (by decide)) | ((with_reducible apply ap_wI); exact kd_ord _ (by omega) _ (by decide)) | ((with_reducible apply ap_rI); exact kd_rid _ (by omega) _ (by decide)) | ((with_reducible apply ap_wI); exact kd_rid _ (by omega) _ (by decide)) | ((with_reducible apply ap_rc); exact (kd_clO _ (by omega)).1) | ((with_reducible apply ap_rc); exact (kd_clR _ (by omega)).1) | ((with_reducible apply ap_rc); exact (kd_clR _ (by omega)).2.2.1) | ((with_reducible apply ap_rR); exact (kd_ridA _ (by omega)).1) | ((with_reducible apply ap_rN); rfl) | ((with_reducible apply M_in)) | ((with_reducible apply X_isWithin)) | ((with_reducible apply ap_rI); rfl) | ((with_reducible apply ap_wI); rfl) | ((with_reducible apply ap_iA); rfl; (try simp only [bz_lit, pk_mul, nI_add]); rfl; omega) | ((with_reducible apply ap_iW); rfl; (try simp only [bz_lit, pk_mul, nI_add]); rfl; omega))
    rw [sy_o (tw_s ht1) hk24 5 7 (by decide) rfl]
    have put : ∀ (S2 : bz_S) (x : Int32), fr (fun c _ => 175 ≤ c ∧ c ≤ 180) S1 S2 → fr (fun c _ => 175 ≤ c ∧ c ≤ 185) S (bz_u S2.1 185 k x, S2.2) ∧ nx (bz_u S2.1 185 k x, S2.2) m v ∧ (bz_u S2.1 185 k x) 181 7 = nI v.2.2.2.2.1 ∧ (bz_u S2.1 185 k x) 181 8 = v.2.2.2.2.2.1 ∧ (bz_u S2.1 185 k x) 181 9 = nI v.2.2.2.2.2.2 ∧ (∀ j, j < k + 1 → (bz_u S2.1 185 k x) 185 j = upd v.2.2.2.1 k x j) := by
      intro S2 x r2
      have r3 : fr (fun c _ => c = 185) S2 (bz_u S2.1 185 k x, S2.2) := fr_u (S := S2) (by first | omega | (dsimp only; omega))
      have r23 : fr (fun c _ => (175 ≤ c ∧ c ≤ 180) ∨ c = 185) S1 (bz_u S2.1 185 k x, S2.2) := fr_t (fr_m r2 (by intro c k h; first | omega | (dsimp only at h ⊢; omega) | (dsimp only at h; omega) | (dsimp only; omega))) (fr_m r3 (by intro c k h; first | omega | (dsimp only at h ⊢; omega) | (dsimp only at h; omega) | (dsimp only; omega)))
      refine ⟨fr_t r1 (fr_m r23 (by intro c k h; first | omega | (dsimp only at h ⊢; omega) | (dsimp only at h; omega) | (dsimp only; omega))), nx_f v1 r23 (by intro c k h; first | omega | (dsimp only at h ⊢; omega) | (dsimp only at h; omega) | (dsimp only; omega)), (r23.2 181 7 (by first | omega | (dsimp only; omega))).trans a7, (r23.2 181 8 (by first | omega | (dsimp only; omega))).trans a8, (r23.2 181 9 (by first | omega | (dsimp only; omega))).trans a9, fun j hj => ?_⟩
      by_cases hjk : j = k
      · subst hjk; rw [bz_u_same, pk_us]
      · rw [bz_u_ne _ _ (Or.inr hjk), pk_un hjk, r2.2 185 j (by first | omega | (dsimp only; omega))]
        exact aj j (by omega)
    refine ⟨fun c => ?_, fun c => ?_⟩
    · have hnq : f_nq s n g v k = f_bf (f_nk s n g v k) m := by
        unfold f_nq
        rw [if_neg c, ← hm]
      rw [hnq] at ih
      repeat (first | ((with_reducible apply ap_rc); rfl) | ((with_reducible apply ap_nn)) | ((with_reducible apply ap_rR); rfl) | ((with_reducible apply M_ofOrder); rfl; (exact bz_lit _); omega; (first | omega | decide)) | ((with_reducible apply M_ofRider); rfl; (exact bz_lit _); omega; (first | omega | decide)) | ((with_reducible apply ap_rI); exact kd_ord _ (by omega) _ (by decide)) | ((with_reducible apply ap_wI); exact kd_ord _ (by omega) _ (by decide)) | ((with_reducible apply ap_rI); exact kd_rid _ (by omega) _ (by decide)) | ((with_reducible apply ap_wI); exact kd_rid _ (by omega) _ (by decide)) | ((with_reducible apply ap_rc); exact (kd_clO _ (by omega)).1) | ((with_reducible apply ap_rc); exact (kd_clR _ (by omega)).1) | ((with_reducible apply ap_rc); exact (kd_clR _ (by omega)).2.2.1) | ((with_reducible apply ap_rR); exact (kd_ridA _ (by omega)).1) | ((with_reducible apply ap_rN); rfl) | ((with_reducible apply M_in)) | ((with_reducible apply X_isWithin)) | ((with_reducible apply ap_rI); rfl) | ((with_reducible apply ap_wI); rfl) | ((with_reducible apply ap_iA); rfl; (try simp only [bz_lit, pk_mul, nI_add]); rfl; omega) | ((with_reducible apply ap_iW); rfl; (try simp only [bz_lit, pk_mul, nI_add]); rfl; omega))
      refine X_bestTaker hk24 hkp ht1 hm v1 hb (by rw [r1.1]; exact hT) hfg hwf (fun S2 r2 => ?_)
      repeat (first | ((with_reducible apply ap_rc); rfl) | ((with_reducible apply ap_nn)) | ((with_reducible apply ap_rR); rfl) | ((with_reducible apply M_ofOrder); rfl; (exact bz_lit _); omega; (first | omega | decide)) | ((with_reducible apply M_ofRider); rfl; (exact bz_lit _); omega; (first | omega | decide)) | ((with_reducible apply ap_rI); exact kd_ord _ (by omega) _ (by decide)) | ((with_reducible apply ap_wI); exact kd_ord _ (by omega) _ (by decide)) | ((with_reducible apply ap_rI); exact kd_rid _ (by omega) _ (by decide)) | ((with_reducible apply ap_wI); exact kd_rid _ (by omega) _ (by decide)) | ((with_reducible apply ap_rc); exact (kd_clO _ (by omega)).1) | ((with_reducible apply ap_rc); exact (kd_clR _ (by omega)).1) | ((with_reducible apply ap_rc); exact (kd_clR _ (by omega)).2.2.1) | ((with_reducible apply ap_rR); exact (kd_ridA _ (by omega)).1) | ((with_reducible apply ap_rN); rfl) | ((with_reducible apply M_in)) | ((with_reducible apply X_isWithin)) | ((with_reducible apply ap_rI); rfl) | ((with_reducible apply ap_wI); rfl) | ((with_reducible apply ap_iA); rfl; (try simp only [bz_lit, pk_mul, nI_add]); rfl; omega) | ((with_reducible apply ap_iW); rfl; (try simp only [bz_lit, pk_mul, nI_add]); rfl; omega))
      obtain ⟨p1, p2, p3, p4, p5, p6⟩ := put S2 (f_bi (f_bf (f_nk s n g v k) m)) r2
      cases hbf : f_bf (f_nk s n g v k) m with
      | none =>
        rw [hbf] at ih p1 p2 p3 p4 p5 p6
        exact ⟨fun _ => ih _ _ _ p1 p2 p3 p4 p5 p6, fun c1 => absurd rfl c1⟩
      | some q =>
        rw [hbf] at ih p1 p2 p3 p4 p5 p6
        obtain ⟨hq, w, hw⟩ := f_bf_lt hbf
        have hq12 : q.1 < 12 := by omega
        refine ⟨fun c1 => absurd c1 (nI_nn (by omega)), fun _ => ?_⟩
        have ht3 := tw_f ht p1 (by intro c k h; first | omega | (dsimp only at h ⊢; omega) | (dsimp only at h; omega) | (dsimp only; omega))
        repeat (first | ((with_reducible apply ap_rc); rfl) | ((with_reducible apply ap_nn)) | ((with_reducible apply ap_rR); rfl) | ((with_reducible apply M_ofOrder); rfl; (exact bz_lit _); omega; (first | omega | decide)) | ((with_reducible apply M_ofRider); rfl; (exact bz_lit _); omega; (first | omega | decide)) | ((with_reducible apply ap_rI); exact kd_ord _ (by omega) _ (by decide)) | ((with_reducible apply ap_wI); exact kd_ord _ (by omega) _ (by decide)) | ((with_reducible apply ap_rI); exact kd_rid _ (by omega) _ (by decide)) | ((with_reducible apply ap_wI); exact kd_rid _ (by omega) _ (by decide)) | ((with_reducible apply ap_rc); exact (kd_clO _ (by omega)).1) | ((with_reducible apply ap_rc); exact (kd_clR _ (by omega)).1) | ((with_reducible apply ap_rc); exact (kd_clR _ (by omega)).2.2.1) | ((with_reducible apply ap_rR); exact (kd_ridA _ (by omega)).1) | ((with_reducible apply ap_rN); rfl) | ((with_reducible apply M_in)) | ((with_reducible apply X_isWithin)) | ((with_reducible apply ap_rI); rfl) | ((with_reducible apply ap_wI); rfl) | ((with_reducible apply ap_iA); rfl; (try simp only [bz_lit, pk_mul, nI_add]); rfl; omega) | ((with_reducible apply ap_iW); rfl; (try simp only [bz_lit, pk_mul, nI_add]); rfl; omega))
        refine X_planFor (v := v) rfl hq12 hq hk24 hkp ht3 p2 hb (fun S3 r3 v3 => ?_)
        have q7 : S3.1 181 7 = nI v.2.2.2.2.1 := (r3.2 181 7 (by first | omega | (dsimp only; omega))).trans p3
        have q8 : S3.1 181 8 = v.2.2.2.2.2.1 := (r3.2 181 8 (by first | omega | (dsimp only; omega))).trans p4
        have q9 : S3.1 181 9 = nI v.2.2.2.2.2.2 := (r3.2 181 9 (by first | omega | (dsimp only; omega))).trans p5
        have qj : ∀ j, j < k + 1 → S3.1 185 j = upd v.2.2.2.1 k (f_bi (some q)) j := fun j hj => (r3.2 185 j (by first | omega | (dsimp only; omega))).trans (p6 j hj)
        have qx : nx S3 m v := nx_f p2 r3 (by intro c k h; first | omega | (dsimp only at h ⊢; omega) | (dsimp only at h; omega) | (dsimp only; omega))
        have qr : fr (fun c _ => 175 ≤ c ∧ c ≤ 185) S S3 := fr_t p1 (fr_m r3 (by intro c k h; first | omega | (dsimp only at h ⊢; omega) | (dsimp only at h; omega) | (dsimp only; omega)))
        dsimp only at ih
        cases hnp : f_np s v q.1 k with
        | none =>
          rw [hnp] at ih
          exact ⟨fun _ => ih _ _ _ qr qx q7 q8 q9 qj, fun c2 => absurd rfl c2⟩
        | some p =>
          rw [hnp] at ih
          obtain ⟨t7, t8, t10⟩ := v3 p.1 p.2 hnp
          have hpe := (f_tp_le (p := p.1) (e := p.2) hnp).2
          refine ⟨fun c2 => absurd c2 (f_ok_1 _), fun _ => ?_⟩
          repeat (first | ((with_reducible apply ap_rc); rfl) | ((with_reducible apply ap_nn)) | ((with_reducible apply ap_rR); rfl) | ((with_reducible apply M_ofOrder); rfl; (exact bz_lit _); omega; (first | omega | decide)) | ((with_reducible apply M_ofRider); rfl; (exact bz_lit _); omega; (first | omega | decide)) | ((with_reducible apply ap_rI); exact kd_ord _ (by omega) _ (by decide)) | ((with_reducible apply ap_wI); exact kd_ord _ (by omega) _ (by decide)) | ((with_reducible apply ap_rI); exact kd_rid _ (by omega) _ (by decide)) | ((with_reducible apply ap_wI); exact kd_rid _ (by omega) _ (by decide)) | ((with_reducible apply ap_rc); exact (kd_clO _ (by omega)).1) | ((with_reducible apply ap_rc); exact (kd_clR _ (by omega)).1) | ((with_reducible apply ap_rc); exact (kd_clR _ (by omega)).2.2.1) | ((with_reducible apply ap_rR); exact (kd_ridA _ (by omega)).1) | ((with_reducible apply ap_rN); rfl) | ((with_reducible apply M_in)) | ((with_reducible apply X_isWithin)) | ((with_reducible apply ap_rI); rfl) | ((with_reducible apply ap_wI); rfl) | ((with_reducible apply ap_iA); rfl; (try simp only [bz_lit, pk_mul, nI_add]); rfl; omega) | ((with_reducible apply ap_iW); rfl; (try simp only [bz_lit, pk_mul, nI_add]); rfl; omega))
          refine X_handTo rfl hq12 hq qx t7 (t8.trans etk) t10 q7 q8 q9 (by omega) hb.2.2 (fun S4 r4 w4 b7 b8 b9 => ?_)
          dsimp only at ih
          rw [etk, nI_clamp (by omega), nI_succ v.2.2.2.2.1] at ih
          exact ih _ _ _ (fr_t qr (fr_m r4 (by intro c k h; first | omega | (dsimp only at h ⊢; omega) | (dsimp only at h; omega) | (dsimp only; omega)))) w4 b7 b8 b9 (fun j hj => (r4.2 185 j (by first | omega | (dsimp only; omega))).trans (qj j hj))
    · have hnq : f_nq s n g v k = none := if_pos c
      rw [hnq] at ih
      repeat (first | ((with_reducible apply ap_rc); rfl) | ((with_reducible apply ap_nn)) | ((with_reducible apply ap_rR); rfl) | ((with_reducible apply M_ofOrder); rfl; (exact bz_lit _); omega; (first | omega | decide)) | ((with_reducible apply M_ofRider); rfl; (exact bz_lit _); omega; (first | omega | decide)) | ((with_reducible apply ap_rI); exact kd_ord _ (by omega) _ (by decide)) | ((with_reducible apply ap_wI); exact kd_ord _ (by omega) _ (by decide)) | ((with_reducible apply ap_rI); exact kd_rid _ (by omega) _ (by decide)) | ((with_reducible apply ap_wI); exact kd_rid _ (by omega) _ (by decide)) | ((with_reducible apply ap_rc); exact (kd_clO _ (by omega)).1) | ((with_reducible apply ap_rc); exact (kd_clR _ (by omega)).1) | ((with_reducible apply ap_rc); exact (kd_clR _ (by omega)).2.2.1) | ((with_reducible apply ap_rR); exact (kd_ridA _ (by omega)).1) | ((with_reducible apply ap_rN); rfl) | ((with_reducible apply M_in)) | ((with_reducible apply X_isWithin)) | ((with_reducible apply ap_rI); rfl) | ((with_reducible apply ap_wI); rfl) | ((with_reducible apply ap_iA); rfl; (try simp only [bz_lit, pk_mul, nI_add]); rfl; omega) | ((with_reducible apply ap_iW); rfl; (try simp only [bz_lit, pk_mul, nI_add]); rfl; omega))
      obtain ⟨p1, p2, p3, p4, p5, p6⟩ := put S1 (-1) (fr_r _ S1)
      exact ⟨fun _ => ih _ _ _ p1 p2 p3 p4 p5 p6, fun c1 => absurd rfl c1⟩
  · intro S1 u3 u4 r1 v1 a7 a8 a9 aj
    have ht1 : tw S1 s := tw_f ht r1 (by intro c k h; first | omega | (dsimp only at h ⊢; omega) | (dsimp only at h; omega) | (dsimp only; omega))
    have e9 : S1.1 6 9 = nI N := (sy_c (tw_s ht1) 2 0 9 (by decide) rfl).trans em2
    refine g_X1_passBy_6 hl _ _ _ _ _ _ ?_
    unfold w_X1_passBy_6
    repeat (first | ((with_reducible apply ap_rc); rfl) | ((with_reducible apply ap_nn)) | ((with_reducible apply ap_rR); rfl) | ((with_reducible apply M_ofOrder); rfl; (exact bz_lit _); omega; (first | omega | decide)) | ((with_reducible apply M_ofRider); rfl; (exact bz_lit _); omega; (first | omega | decide)) | ((with_reducible apply ap_rI); exact kd_ord _ (by omega) _ (by decide)) | ((with_reducible apply ap_wI); exact kd_ord _ (by omega) _ (by decide)) | ((with_reducible apply ap_rI); exact kd_rid _ (by omega) _ (by decide)) | ((with_reducible apply ap_wI); exact kd_rid _ (by omega) _ (by decide)) | ((with_reducible apply ap_rc); exact (kd_clO _ (by omega)).1) | ((with_reducible apply ap_rc); exact (kd_clR _ (by omega)).1) | ((with_reducible apply ap_rc); exact (kd_clR _ (by omega)).2.2.1) | ((with_reducible apply ap_rR); exact (kd_ridA _ (by omega)).1) | ((with_reducible apply ap_rN); rfl) | ((with_reducible apply M_in)) | ((with_reducible apply X_isWithin)) | ((with_reducible apply ap_rI); rfl) | ((with_reducible apply ap_wI); rfl) | ((with_reducible apply ap_iA); rfl; (try simp only [bz_lit, pk_mul, nI_add]); rfl; omega) | ((with_reducible apply ap_iW); rfl; (try simp only [bz_lit, pk_mul, nI_add]); rfl; omega))
    rw [e9]
    exact ⟨fun _ => ⟨rfl, hP S1 r1 v1 a7 a8 a9 aj⟩, fun c => absurd (nI_le (by omega) (by omega)) c⟩
end NIG
