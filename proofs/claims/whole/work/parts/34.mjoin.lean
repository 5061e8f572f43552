/-! two orders joined: the reference -/
def f_w (s : Nat → Int32) (x : Int32) (o1 o2 m a lb : Nat) : Option (Nat × Nat) × (Nat → Nat) := f_wk s x o1 o2 m a (fun i => li (4 * lb + i)) 4
def f_lj (s : Nat → Int32) (x : Int32) (o1 o2 m a lb : Nat) : Int32 := f_lateBy s o1 (nI ((f_w s x o1 o2 m a lb).2 1)) + f_lateBy s o2 (nI ((f_w s x o1 o2 m a lb).2 3))
def f_bj (s : Nat → Int32) (x : Int32) (o1 o2 m a : Nat) : Nat → Option (Nat × Int32 × Nat)
  | 0 => none
  | k + 1 => match f_fin (f_w s x o1 o2 m a k).1 with
    | none => f_bj s x o1 o2 m a k
    | some e => match f_bj s x o1 o2 m a k with
      | none => some (k, f_lj s x o1 o2 m a k, e)
      | some (lb, t, e0) => if f_lj s x o1 o2 m a k < t ∨ (f_lj s x o1 o2 m a k = t ∧ e < e0) then some (k, f_lj s x o1 o2 m a k, e) else some (lb, t, e0)
def f_eb (s : Nat → Int32) (o1 o2 lb : Nat) : Int32 := if li (4 * lb + 3) = 1 then s (312 + 12 * o1 + 1) else s (312 + 12 * o2 + 1)
theorem f_bj_i {s : Nat → Int32} {x : Int32} {o1 o2 m a : Nat} : ∀ {k lb : Nat} {t : Int32} {e : Nat}, f_bj s x o1 o2 m a k = some (lb, t, e) → lb < k ∧ t = f_lj s x o1 o2 m a lb ∧ f_fin (f_w s x o1 o2 m a lb).1 = some e
  | 0, lb, t, e, h => by cases h
  | k + 1, lb, t, e, h => by
    rw [f_bj] at h
    cases h1 : f_fin (f_w s x o1 o2 m a k).1 with
    | none =>
      rw [h1] at h
      obtain ⟨q1, q2, q3⟩ := f_bj_i h
      exact ⟨by omega, q2, q3⟩
    | some e1 =>
      rw [h1] at h
      dsimp only at h
      cases h2 : f_bj s x o1 o2 m a k with
      | none =>
        rw [h2] at h
        cases h
        exact ⟨by omega, rfl, h1⟩
      | some q =>
        obtain ⟨lb', t', e'⟩ := q
        rw [h2] at h
        dsimp only at h
        split at h
        · cases h
          exact ⟨by omega, rfl, h1⟩
        · cases h
          obtain ⟨q1, q2, q3⟩ := f_bj_i h2
          exact ⟨by omega, q2, q3⟩
theorem f_fin_e {q : Option (Nat × Nat)} {e : Nat} (h : f_fin q = some e) : e ≤ 1439 ∧ ∃ b, q = some (e, b) := by
  unfold f_fin at h
  cases q with
  | none => cases h
  | some q =>
    dsimp only at h
    split at h
    · next hq => cases h; exact ⟨hq, q.2, rfl⟩
    · cases h
def ms (c : Nat) : Nat := ([0, 2, 1, 3] : List Nat).getD c 0
def stf (x0 x1 : Int32) : Int32 := if x0 = 0 then (if x1 = 0 then 0 else if x1 = 1 then 2 else if x1 = 2 then 1 else 3) else if x0 = 1 then (if x1 = 0 then 1 else if x1 = 1 then 3 else if x1 = 2 then 0 else 2) else if x0 = 2 then x1 else if x0 = 3 then (if x1 = 0 then 0 else if x1 = 1 then 1 else if x1 = 2 then 3 else 2) else if x0 = 4 then (if x1 = 0 then 1 else if x1 = 1 then 0 else x1) else (1 ^^^ x1)
theorem stf_e : ∀ lb, lb < 6 → ∀ k, k < 4 → stf (nI lb) (nI k) = nI (ms (li (4 * lb + k))) := by decide +kernel
theorem li_p : ∀ lb, lb < 6 → ∀ c, c < 4 → ∃ i, i < 4 ∧ li (4 * lb + i) = c := by decide +kernel
theorem li_3 : ∀ lb, lb < 6 → li (4 * lb + 3) = 1 ∨ li (4 * lb + 3) = 3 := by decide +kernel
theorem f_ri_b {s : Nat → Int32} {x : Int32} {b : Nat} {st : Option (Nat × Nat)} {e b' : Nat} (h : f_ri s x b st = some (e, b')) : b' = b := by
  cases st with
  | none => cases h
  | some q =>
    have h3 : (f_wy s 16 q.2 b).map (fun w => (q.1 + f_leg x w, b)) = some (e, b') := h
    cases hw : f_wy s 16 q.2 b with
    | none => rw [hw] at h3; cases h3
    | some w => rw [hw] at h3; exact (congrArg Prod.snd (Option.some.inj h3)).symm
/-- where the line ends -/
theorem f_w_b {s : Nat → Int32} (hg : gd_b s) {x : Int32} {o1 o2 m a lb e b : Nat} (h1 : o1 < 24) (h2 : o2 < 24) (hl : lb < 6) (h : (f_w s x o1 o2 m a lb).1 = some (e, b)) : nI b = f_eb s o1 o2 lb := by
  have h4 : f_stp s x o1 o2 (li (4 * lb + 3)) (f_wk s x o1 o2 m a (fun i => li (4 * lb + i)) 3).1 = some (e, b) := h
  obtain ⟨t1, ht1, et1⟩ : bz_lt (s (312 + 12 * o1 + 1)) 16 := gb_o hg h1 1 (by decide)
  obtain ⟨t2, ht2, et2⟩ : bz_lt (s (312 + 12 * o2 + 1)) 16 := gb_o hg h2 1 (by decide)
  unfold f_eb
  rcases li_3 lb hl with q | q
  · rw [q] at h4 ⊢
    rw [f_stp_1] at h4
    have h5 : f_dr s x o1 (f_wk s x o1 o2 m a (fun i => li (4 * lb + i)) 3).1 = some (e, b) := h4
    unfold f_dr at h5
    rw [if_pos rfl, f_ri_b h5, et1, nI_clamp (by omega)]
  · rw [q] at h4 ⊢
    rw [f_stp_3] at h4
    have h5 : f_dr s x o2 (f_wk s x o1 o2 m a (fun i => li (4 * lb + i)) 3).1 = some (e, b) := h4
    unfold f_dr at h5
    rw [if_neg (by decide), f_ri_b h5, et2, nI_clamp (by omega)]
theorem f_ok_1 {α : Type} (e : α) : ¬ f_ok (some e) = 0 := (by decide : ¬ (1 : Int32) = 0)
section MJO
variable {G : bz_G} {l : Launch} {d : Nat} {E : Nat × (Nat → Int32)} {S : bz_S} {s : Nat → Int32}
theorem M_stepOf {P : Int32 → bz_H → Prop} {h : bz_H} {lb k : Nat} (hlb : lb < 6) (hk : k < 4) (hP : P (nI (ms (li (4 * lb + k)))) h) : bz_cI G l (d + 1) kX12_stepOf [.inl (nI lb), .inl (nI k)] h 0 0 P := by
  refine m_X12_stepOf _ _ _ ?_
  unfold w_X12_stepOf_0
  rw [← stf_e lb hlb k hk] at hP
  unfold stf at hP
  refine ⟨fun c => ?_, fun c => ⟨fun c1 => ?_, fun c1 => ⟨fun c2 => ?_, fun c2 => ⟨fun c3 => ?_, fun c3 => ⟨fun c4 => ?_, fun c4 => ?_⟩⟩⟩⟩⟩
  · rw [if_pos c] at hP; exact ⟨_, rfl, hP⟩
  · rw [if_neg c, if_pos c1] at hP; exact ⟨_, rfl, hP⟩
  · rw [if_neg c, if_neg c1, if_pos c2] at hP; exact ⟨_, rfl, hP⟩
  · rw [if_neg c, if_neg c1, if_neg c2, if_pos c3] at hP; exact ⟨_, rfl, hP⟩
  · rw [if_neg c, if_neg c1, if_neg c2, if_neg c3, if_pos c4] at hP; exact ⟨_, rfl, hP⟩
  · rw [if_neg c, if_neg c1, if_neg c2, if_neg c3, if_neg c4] at hP; exact ⟨_, rfl, hP⟩
theorem M_goesWay {P : Int32 → bz_H → Prop} {x : Int32} {y : Int32} {r o1 o2 m a lb : Nat} (hy : y = nI lb) (hr : r < 12) (h1 : o1 < 24) (h2 : o2 < 24) (hlb : lb < 6) (hs : S.1 187 = s) (hg : gd_b s) (hx : x = s (600 + 8 * r + 0)) (ha : a = (s (600 + 8 * r + 1)).toNatClampNeg) (hm : m = f_bg s r) (hf : fd S) (hP : ∀ S', fr tX S S' → fd S' → (∀ e b, (f_w s x o1 o2 m a lb).1 = some (e, b) → e ≤ 1439 → S'.1 186 7 = nI e ∧ S'.1 186 6 = nI b ∧ ∀ c, c < 4 → S'.1 (191 + c % 2) (c / 2) = nI ((f_w s x o1 o2 m a lb).2 c)) → P (f_ok (f_fin (f_w s x o1 o2 m a lb).1)) (bz_hp E S')) : bz_cI G l (d + 6) kX12_goesWay [.inr (some 186), .inl (nI r), .inl (nI o1), .inl (nI o2), .inl y] (bz_hp E S) 0 0 P := by
  refine m_X12_goesWay _ _ _ _ _ _ (fun κ bc bs hl => ?_)
  unfold w_X12_goesWay_0
  subst hy; subst hs
  obtain ⟨a', ha', ea⟩ : bz_lt (S.1 187 (600 + 8 * r + 1)) 16 := gb_r hg hr 1 (by decide)
  have haa : a = a' := by rw [ha, ea, nI_clamp (by omega)]
  subst haa
  have hmb : m ≤ 1440 := by rw [hm]; exact f_bg_b hg hr
  repeat (first | ((with_reducible apply ap_rc); rfl) | ((with_reducible apply ap_nn)) | ((with_reducible apply ap_rR); rfl) | ((with_reducible apply M_ofOrder); rfl; (exact bz_lit _); omega; (first | omega | decide)) | ((with_reducible apply M_ofRider); rfl; (exact bz_lit _); omega; (first | omega | decide)) | ((with_reducible apply ap_rI); exact kd_ord _ (by omega) _ (by decide)) | ((with_reducible apply ap_wI); exact kd_ord _ (by omega) _ (by decide)) | ((with_reducible apply ap_rI); exact kd_rid _ (by omega) _ (by decide)) | ((with_reducible apply ap_wI); exact kd_rid _ (by omega) _ (by decide)) | ((with_reducible apply ap_rc); exact (kd_clO _ (by omega)).1) | ((with_reducible apply ap_rc); exact (kd_clR _ (by omega)).1) | ((with_reducible apply ap_rc); exact (kd_clR _ (by omega)).2.2.1) | ((with_reducible apply ap_rR); exact (kd_ridA _ (by omega)).1) | ((with_reducible apply ap_rN); rfl) | ((with_reducible apply M_in)) | ((with_reducible apply X_isWithin)) | ((with_reducible apply ap_rI); rfl) | ((with_reducible apply ap_wI); rfl) | ((with_reducible apply ap_iA); rfl; (try simp only [bz_lit, pk_mul, nI_add]); rfl; omega) | ((with_reducible apply ap_iW); rfl; (try simp only [bz_lit, pk_mul, nI_add]); rfl; omega))
  refine M_beginsAt hr rfl hg ?_
  repeat (first | ((with_reducible apply ap_rc); rfl) | ((with_reducible apply ap_nn)) | ((with_reducible apply ap_rR); rfl) | ((with_reducible apply M_ofOrder); rfl; (exact bz_lit _); omega; (first | omega | decide)) | ((with_reducible apply M_ofRider); rfl; (exact bz_lit _); omega; (first | omega | decide)) | ((with_reducible apply ap_rI); exact kd_ord _ (by omega) _ (by decide)) | ((with_reducible apply ap_wI); exact kd_ord _ (by omega) _ (by decide)) | ((with_reducible apply ap_rI); exact kd_rid _ (by omega) _ (by decide)) | ((with_reducible apply ap_wI); exact kd_rid _ (by omega) _ (by decide)) | ((with_reducible apply ap_rc); exact (kd_clO _ (by omega)).1) | ((with_reducible apply ap_rc); exact (kd_clR _ (by omega)).1) | ((with_reducible apply ap_rc); exact (kd_clR _ (by omega)).2.2.1) | ((with_reducible apply ap_rR); exact (kd_ridA _ (by omega)).1) | ((with_reducible apply ap_rN); rfl) | ((with_reducible apply M_in)) | ((with_reducible apply X_isWithin)) | ((with_reducible apply ap_rI); rfl) | ((with_reducible apply ap_wI); rfl) | ((with_reducible apply ap_iA); rfl; (try simp only [bz_lit, pk_mul, nI_add]); rfl; omega) | ((with_reducible apply ap_iW); rfl; (try simp only [bz_lit, pk_mul, nI_add]); rfl; omega))
  rw [ea]
  refine M_begin rfl (show _ = nI m by rw [hm]) ha' hf (fun S1 r1 f1 t1 => ?_)
  rw [← hx]
  generalize hs0 : S.1 187 = s0 at *
  obtain ⟨L, hL⟩ : ∃ L : Nat → Nat, L = fun i => li (4 * lb + i) := ⟨_, rfl⟩
  have hfw : f_w s0 x o1 o2 m a lb = f_wk s0 x o1 o2 m a L 4 := by rw [hL]; rfl
  rw [hfw] at hP
  have main := bz_for (n := 4) (Q := fun k => ∀ (S2 : bz_S) (u7 u8 : Option bz_V), fr tX S S2 → fd S2 → tr S2 (f_wk s0 x o1 o2 m a L k).1 → (¬ (f_wk s0 x o1 o2 m a L k).1 = none → ∀ i, i < k → S2.1 (191 + L i % 2) (L i / 2) = nI ((f_wk s0 x o1 o2 m a L k).2 (L i))) → bz_J G κ kX12_goesWay (d + 5 + 1) (fun v h' => ∃ x, v = some (.inl x) ∧ P x h') bc bs 26 [some (.inr (some 186)), some (.inl (nI r)), some (.inl (nI o1)), some (.inl (nI o2)), some (.inl (nI lb)), some (.inl x), some (.inl (nI k)), u7, u8] [] (bz_hp E S2)) (fun k hk ih S2 u7 u8 r2 f2 t2 v2 => ?_) ?_
  · exact main S1 none none (fr_m r1 (by intro c k h; first | omega | (dsimp only at h ⊢; omega) | (dsimp only at h; omega) | (dsimp only; omega))) f1 t1 (fun _ i hi => absurd hi (by omega))
  · have e2 : S2.1 187 = s0 := (fr_c r2 (fun k => by omega)).trans hs0
    have hLk : L k = li (4 * lb + k) := by rw [hL]
    have hl4 := (li_e (4 * lb + k) (by omega)).2
    rw [← hLk] at hl4
    have sw := sb_wk hg (x := x) (m := m) (L := L) h1 h2 ha' k
    have key : ∀ (S3 : bz_S) (u7 u8 : Option bz_V), fr (fun c j => c = 190 ∨ (c = 191 + L k % 2 ∧ j = L k / 2) ∨ (c = 186 ∧ 5 ≤ j ∧ j ≤ 8)) S2 S3 → fd S3 → tr S3 (f_stp s0 x o1 o2 (L k) (f_wk s0 x o1 o2 m a L k).1) → (∀ m' a', f_stp s0 x o1 o2 (L k) (f_wk s0 x o1 o2 m a L k).1 = some (m', a') → S3.1 (191 + L k % 2) (L k / 2) = nI m') → bz_J G κ kX12_goesWay (d + 5 + 1) (fun v h' => ∃ x, v = some (.inl x) ∧ P x h') bc bs 26 [some (.inr (some 186)), some (.inl (nI r)), some (.inl (nI o1)), some (.inl (nI o2)), some (.inl (nI lb)), some (.inl x), some (.inl (nI k + 1)), u7, u8] [] (bz_hp E S3) := by
      intro S3 u7 u8 r3 f3 t3 v3
      rw [← nI_succ]
      refine ih S3 _ _ (fr_t r2 (fr_m r3 (by intro c k h; first | omega | (dsimp only at h ⊢; omega) | (dsimp only at h; omega) | (dsimp only; omega)))) f3 t3 (fun hne i hi => ?_)
      have hne2 : ¬ (f_wk s0 x o1 o2 m a L k).1 = none := fun q => hne (f_wk_n q 1)
      rw [f_wk] at hne ⊢
      dsimp only at hne ⊢
      by_cases hc : L i = L k
      · rw [hc, if_pos rfl]
        cases h : f_stp s0 x o1 o2 (L k) (f_wk s0 x o1 o2 m a L k).1 with
        | none => exact absurd h hne
        | some q => exact v3 q.1 q.2 h
      · rw [if_neg hc]
        have hi' : i < k := by
          rcases Nat.lt_or_ge i k with q | q
          · exact q
          · exact absurd (by rw [show i = k by omega]) hc
        have hl4i : L i < 4 := by
          have := (li_e (4 * lb + i) (by omega)).2
          rw [show L i = li (4 * lb + i) by rw [hL]]
          exact this
        rw [r3.2 _ _ (by dsimp only; omega)]
        exact v2 hne2 i hi'
    refine g_X12_goesWay_26 hl _ _ _ _ _ _ _ _ _ _ ?_
    unfold w_X12_goesWay_26
    refine ⟨fun c => absurd ((nI_leI (a := 4) (by omega) (by omega)).mp c) (by omega), fun _ => ?_⟩
    refine M_stepOf hlb hk ?_
    rw [← hLk]
    rcases (by omega : L k = 0 ∨ L k = 1 ∨ L k = 2 ∨ L k = 3) with hc | hc | hc | hc
    · rw [hc] at key ⊢
      rw [f_stp_0] at key
      refine ⟨fun c => absurd c (by decide), fun _ => ?_⟩
      rw [if_pos (by decide)]
      repeat (first | ((with_reducible apply ap_rc); rfl) | ((with_reducible apply ap_nn)) | ((with_reducible apply ap_rR); rfl) | ((with_reducible apply M_ofOrder); rfl; (exact bz_lit _); omega; (first | omega | decide)) | ((with_reducible apply M_ofRider); rfl; (exact bz_lit _); omega; (first | omega | decide)) | ((with_reducible apply ap_rI); exact kd_ord _ (by omega) _ (by decide)) | ((with_reducible apply ap_wI); exact kd_ord _ (by omega) _ (by decide)) | ((with_reducible apply ap_rI); exact kd_rid _ (by omega) _ (by decide)) | ((with_reducible apply ap_wI); exact kd_rid _ (by omega) _ (by decide)) | ((with_reducible apply ap_rc); exact (kd_clO _ (by omega)).1) | ((with_reducible apply ap_rc); exact (kd_clR _ (by omega)).1) | ((with_reducible apply ap_rc); exact (kd_clR _ (by omega)).2.2.1) | ((with_reducible apply ap_rR); exact (kd_ridA _ (by omega)).1) | ((with_reducible apply ap_rN); rfl) | ((with_reducible apply M_in)) | ((with_reducible apply X_isWithin)) | ((with_reducible apply ap_rI); rfl) | ((with_reducible apply ap_wI); rfl) | ((with_reducible apply ap_iA); rfl; (try simp only [bz_lit, pk_mul, nI_add]); rfl; omega) | ((with_reducible apply ap_iW); rfl; (try simp only [bz_lit, pk_mul, nI_add]); rfl; omega))
      exact M_pickUp (w := 0) (K := 1440 + 2400 * k) h1 (by decide) rfl e2 hg f2 t2 (fun m' a' q => ⟨by have := (sw m' a' q).1; omega, (sw m' a' q).2⟩) (by omega) (fun S3 r3 f3 t3 v3 => key S3 _ _ (fr_m r3 (by intro c k h; first | omega | (dsimp only at h ⊢; omega) | (dsimp only at h; omega) | (dsimp only; omega))) f3 t3 v3)
    · rw [hc] at key ⊢
      rw [f_stp_1] at key
      refine ⟨fun _ => ?_, fun c => absurd (by decide) c⟩
      rw [if_pos (by decide)]
      repeat (first | ((with_reducible apply ap_rc); rfl) | ((with_reducible apply ap_nn)) | ((with_reducible apply ap_rR); rfl) | ((with_reducible apply M_ofOrder); rfl; (exact bz_lit _); omega; (first | omega | decide)) | ((with_reducible apply M_ofRider); rfl; (exact bz_lit _); omega; (first | omega | decide)) | ((with_reducible apply ap_rI); exact kd_ord _ (by omega) _ (by decide)) | ((with_reducible apply ap_wI); exact kd_ord _ (by omega) _ (by decide)) | ((with_reducible apply ap_rI); exact kd_rid _ (by omega) _ (by decide)) | ((with_reducible apply ap_wI); exact kd_rid _ (by omega) _ (by decide)) | ((with_reducible apply ap_rc); exact (kd_clO _ (by omega)).1) | ((with_reducible apply ap_rc); exact (kd_clR _ (by omega)).1) | ((with_reducible apply ap_rc); exact (kd_clR _ (by omega)).2.2.1) | ((with_reducible apply ap_rR); exact (kd_ridA _ (by omega)).1) | ((with_reducible apply ap_rN); rfl) | ((with_reducible apply M_in)) | ((with_reducible apply X_isWithin)) | ((with_reducible apply ap_rI); rfl) | ((with_reducible apply ap_wI); rfl) | ((with_reducible apply ap_iA); rfl; (try simp only [bz_lit, pk_mul, nI_add]); rfl; omega) | ((with_reducible apply ap_iW); rfl; (try simp only [bz_lit, pk_mul, nI_add]); rfl; omega))
      exact M_bring (w := 0) h1 (by decide) (by decide) e2 hg f2 t2 (fun S3 r3 f3 t3 v3 => key S3 _ _ (fr_m r3 (by intro c k h; first | omega | (dsimp only at h ⊢; omega) | (dsimp only at h; omega) | (dsimp only; omega))) f3 t3 v3)
    · rw [hc] at key ⊢
      rw [f_stp_2] at key
      refine ⟨fun c => absurd c (by decide), fun _ => ?_⟩
      rw [if_neg (by decide)]
      repeat (first | ((with_reducible apply ap_rc); rfl) | ((with_reducible apply ap_nn)) | ((with_reducible apply ap_rR); rfl) | ((with_reducible apply M_ofOrder); rfl; (exact bz_lit _); omega; (first | omega | decide)) | ((with_reducible apply M_ofRider); rfl; (exact bz_lit _); omega; (first | omega | decide)) | ((with_reducible apply ap_rI); exact kd_ord _ (by omega) _ (by decide)) | ((with_reducible apply ap_wI); exact kd_ord _ (by omega) _ (by decide)) | ((with_reducible apply ap_rI); exact kd_rid _ (by omega) _ (by decide)) | ((with_reducible apply ap_wI); exact kd_rid _ (by omega) _ (by decide)) | ((with_reducible apply ap_rc); exact (kd_clO _ (by omega)).1) | ((with_reducible apply ap_rc); exact (kd_clR _ (by omega)).1) | ((with_reducible apply ap_rc); exact (kd_clR _ (by omega)).2.2.1) | ((with_reducible apply ap_rR); exact (kd_ridA _ (by omega)).1) | ((with_reducible apply ap_rN); rfl) | ((with_reducible apply M_in)) | ((with_reducible apply X_isWithin)) | ((with_reducible apply ap_rI); rfl) | ((with_reducible apply ap_wI); rfl) | ((with_reducible apply ap_iA); rfl; (try simp only [bz_lit, pk_mul, nI_add]); rfl; omega) | ((with_reducible apply ap_iW); rfl; (try simp only [bz_lit, pk_mul, nI_add]); rfl; omega))
      exact M_pickUp (w := 1) (K := 1440 + 2400 * k) h2 (by decide) rfl e2 hg f2 t2 (fun m' a' q => ⟨by have := (sw m' a' q).1; omega, (sw m' a' q).2⟩) (by omega) (fun S3 r3 f3 t3 v3 => key S3 _ _ (fr_m r3 (by intro c k h; first | omega | (dsimp only at h ⊢; omega) | (dsimp only at h; omega) | (dsimp only; omega))) f3 t3 v3)
    · rw [hc] at key ⊢
      rw [f_stp_3] at key
      refine ⟨fun _ => ?_, fun c => absurd (by decide) c⟩
      rw [if_neg (by decide)]
      repeat (first | ((with_reducible apply ap_rc); rfl) | ((with_reducible apply ap_nn)) | ((with_reducible apply ap_rR); rfl) | ((with_reducible apply M_ofOrder); rfl; (exact bz_lit _); omega; (first | omega | decide)) | ((with_reducible apply M_ofRider); rfl; (exact bz_lit _); omega; (first | omega | decide)) | ((with_reducible apply ap_rI); exact kd_ord _ (by omega) _ (by decide)) | ((with_reducible apply ap_wI); exact kd_ord _ (by omega) _ (by decide)) | ((with_reducible apply ap_rI); exact kd_rid _ (by omega) _ (by decide)) | ((with_reducible apply ap_wI); exact kd_rid _ (by omega) _ (by decide)) | ((with_reducible apply ap_rc); exact (kd_clO _ (by omega)).1) | ((with_reducible apply ap_rc); exact (kd_clR _ (by omega)).1) | ((with_reducible apply ap_rc); exact (kd_clR _ (by omega)).2.2.1) | ((with_reducible apply ap_rR); exact (kd_ridA _ (by omega)).1) | ((with_reducible apply ap_rN); rfl) | ((with_reducible apply M_in)) | ((with_reducible apply X_isWithin)) | ((with_reducible apply ap_rI); rfl) | ((with_reducible apply ap_wI); rfl) | ((with_reducible apply ap_iA); rfl; (try simp only [bz_lit, pk_mul, nI_add]); rfl; omega) | ((with_reducible apply ap_iW); rfl; (try simp only [bz_lit, pk_mul, nI_add]); rfl; omega))
      exact M_bring (w := 1) h2 (by decide) (by decide) e2 hg f2 t2 (fun S3 r3 f3 t3 v3 => key S3 _ _ (fr_m r3 (by intro c k h; first | omega | (dsimp only at h ⊢; omega) | (dsimp only at h; omega) | (dsimp only; omega))) f3 t3 v3)
  · intro S2 u7 u8 r2 f2 t2 v2
    have sw := sb_wk hg (x := x) (m := m) (L := L) h1 h2 ha' 4
    refine g_X12_goesWay_26 hl _ _ _ _ _ _ _ _ _ _ ?_
    unfold w_X12_goesWay_26
    refine ⟨fun _ => ?_, fun c => absurd (by decide) c⟩
    repeat (first | ((with_reducible apply ap_rc); rfl) | ((with_reducible apply ap_nn)) | ((with_reducible apply ap_rR); rfl) | ((with_reducible apply M_ofOrder); rfl; (exact bz_lit _); omega; (first | omega | decide)) | ((with_reducible apply M_ofRider); rfl; (exact bz_lit _); omega; (first | omega | decide)) | ((with_reducible apply ap_rI); exact kd_ord _ (by omega) _ (by decide)) | ((with_reducible apply ap_wI); exact kd_ord _ (by omega) _ (by decide)) | ((with_reducible apply ap_rI); exact kd_rid _ (by omega) _ (by decide)) | ((with_reducible apply ap_wI); exact kd_rid _ (by omega) _ (by decide)) | ((with_reducible apply ap_rc); exact (kd_clO _ (by omega)).1) | ((with_reducible apply ap_rc); exact (kd_clR _ (by omega)).1) | ((with_reducible apply ap_rc); exact (kd_clR _ (by omega)).2.2.1) | ((with_reducible apply ap_rR); exact (kd_ridA _ (by omega)).1) | ((with_reducible apply ap_rN); rfl) | ((with_reducible apply M_in)) | ((with_reducible apply X_isWithin)) | ((with_reducible apply ap_rI); rfl) | ((with_reducible apply ap_wI); rfl) | ((with_reducible apply ap_iA); rfl; (try simp only [bz_lit, pk_mul, nI_add]); rfl; omega) | ((with_reducible apply ap_iW); rfl; (try simp only [bz_lit, pk_mul, nI_add]); rfl; omega))
    have hP2 := hP S2 r2 f2
    cases h : (f_wk s0 x o1 o2 m a L 4).1 with
    | none =>
      rw [h] at t2 hP2
      have t4 : S2.1 186 8 = 0 := t2
      rw [t4]
      exact ⟨fun _ => ⟨_, rfl, hP2 (fun _ _ e => by cases e)⟩, fun c => absurd rfl c⟩
    | some q =>
      obtain ⟨e, b⟩ := q
      have se := (sw e b h).1
      rw [h] at t2 hP2 v2
      obtain ⟨q1, q2, q3, q4⟩ : S2.1 186 8 = 1 ∧ S2.1 186 7 = nI e ∧ S2.1 186 6 = nI b ∧ b < 16 := t2
      rw [q1]
      refine ⟨fun c => absurd c (by decide), fun _ => ?_⟩
      repeat (first | ((with_reducible apply ap_rc); rfl) | ((with_reducible apply ap_nn)) | ((with_reducible apply ap_rR); rfl) | ((with_reducible apply M_ofOrder); rfl; (exact bz_lit _); omega; (first | omega | decide)) | ((with_reducible apply M_ofRider); rfl; (exact bz_lit _); omega; (first | omega | decide)) | ((with_reducible apply ap_rI); exact kd_ord _ (by omega) _ (by decide)) | ((with_reducible apply ap_wI); exact kd_ord _ (by omega) _ (by decide)) | ((with_reducible apply ap_rI); exact kd_rid _ (by omega) _ (by decide)) | ((with_reducible apply ap_wI); exact kd_rid _ (by omega) _ (by decide)) | ((with_reducible apply ap_rc); exact (kd_clO _ (by omega)).1) | ((with_reducible apply ap_rc); exact (kd_clR _ (by omega)).1) | ((with_reducible apply ap_rc); exact (kd_clR _ (by omega)).2.2.1) | ((with_reducible apply ap_rR); exact (kd_ridA _ (by omega)).1) | ((with_reducible apply ap_rN); rfl) | ((with_reducible apply M_in)) | ((with_reducible apply X_isWithin)) | ((with_reducible apply ap_rI); rfl) | ((with_reducible apply ap_wI); rfl) | ((with_reducible apply ap_iA); rfl; (try simp only [bz_lit, pk_mul, nI_add]); rfl; omega) | ((with_reducible apply ap_iW); rfl; (try simp only [bz_lit, pk_mul, nI_add]); rfl; omega))
      rw [q2]
      have hP3 := hP2 (fun e' b' q he' => by
        cases q
        refine ⟨q2, q3, fun c hc => ?_⟩
        obtain ⟨i, hi, ei⟩ := li_p lb hlb c hc
        have := v2 (fun q => by cases q) i hi
        rw [show L i = c by rw [hL]; exact ei] at this
        exact this)
      by_cases he : e ≤ 1439
      · rw [if_neg (show ¬ (1439 : Int32) < nI e from nI_nlt (b := e) (a := 1439) he (by decide))]
        unfold f_fin at hP3
        dsimp only at hP3
        rw [if_pos he] at hP3
        exact ⟨_, rfl, hP3⟩
      · rw [if_pos (show (1439 : Int32) < nI e from nI_lt (a := 1439) (by omega) (by omega))]
        unfold f_fin at hP3
        dsimp only at hP3
        rw [if_neg he] at hP3
        exact ⟨_, rfl, hP3⟩
theorem M_joins {P : Int32 → bz_H → Prop} {x : Int32} {r o1 o2 m a : Nat} (hr : r < 12) (h1 : o1 < 24) (h2 : o2 < 24) (hs : S.1 187 = s) (hg : gd_b s) (hx : x = s (600 + 8 * r + 0)) (ha : a = (s (600 + 8 * r + 1)).toNatClampNeg) (hm : m = f_bg s r) (hf : fd S) (hP : ∀ S', fr (fun c k => tX c k ∨ (c = 186 ∧ 11 ≤ k ∧ k ≤ 12)) S S' → fd S' → (∀ lb t e, f_bj s x o1 o2 m a 6 = some (lb, t, e) → S'.1 186 11 = nI lb ∧ S'.1 186 12 = t ∧ S'.1 186 7 = nI e ∧ S'.1 186 6 = f_eb s o1 o2 lb ∧ ∀ c, c < 4 → S'.1 (191 + c % 2) (c / 2) = nI ((f_w s x o1 o2 m a lb).2 c)) → P (f_ok (f_bj s x o1 o2 m a 6)) (bz_hp E S')) : bz_cI G l (d + 7) kX12_joins [.inr (some 186), .inl (nI r), .inl (nI o1), .inl (nI o2)] (bz_hp E S) 0 0 P := by
  refine m_X12_joins _ _ _ _ _ (fun κ bc bs hl => ?_)
  unfold w_X12_joins_0
  subst hs
  generalize hs0 : S.1 187 = s0 at *
  have main := bz_for (n := 6) (Q := fun k => ∀ (S2 : bz_S) (x4 : Int32) (u6 : Option bz_V), fr (fun c k => tX c k ∨ (c = 186 ∧ 11 ≤ k ∧ k ≤ 12)) S S2 → fd S2 → (match f_bj s0 x o1 o2 m a k with | none => S2.1 186 11 = -1 | some (lb, t, e) => S2.1 186 11 = nI lb ∧ S2.1 186 12 = t ∧ x4 = nI e) → bz_J G κ kX12_joins (d + 6 + 1) (fun v h' => ∃ x, v = some (.inl x) ∧ P x h') bc bs 11 [some (.inr (some 186)), some (.inl (nI r)), some (.inl (nI o1)), some (.inl (nI o2)), some (.inl x4), some (.inl (nI k)), u6] [] (bz_hp E S2)) (fun k hk ih S2 x4 u6 r2 f2 v2 => ?_) ?_
  · repeat (first | ((with_reducible apply ap_rc); rfl) | ((with_reducible apply ap_nn)) | ((with_reducible apply ap_rR); rfl) | ((with_reducible apply M_ofOrder); rfl; (exact bz_lit _); omega; (first | omega | decide)) | ((with_reducible apply M_ofRider); rfl; (exact bz_lit _); omega; (first | omega | decide)) | ((with_reducible apply ap_rI); exact kd_ord _ (by omega) _ (by decide)) | ((with_reducible apply ap_wI); exact kd_ord _ (by omega) _ (by decide)) | ((with_reducible apply ap_rI); exact kd_rid _ (by omega) _ (by decide)) | ((with_reducible apply ap_wI); exact kd_rid _ (by omega) _ (by decide)) | ((with_reducible apply ap_rc); exact (kd_clO _ (by omega)).1) | ((with_reducible apply ap_rc); exact (kd_clR _ (by omega)).1) | ((with_reducible apply ap_rc); exact (kd_clR _ (by omega)).2.2.1) | ((with_reducible apply ap_rR); exact (kd_ridA _ (by omega)).1) | ((with_reducible apply ap_rN); rfl) | ((with_reducible apply M_in)) | ((with_reducible apply X_isWithin)) | ((with_reducible apply ap_rI); rfl) | ((with_reducible apply ap_wI); rfl) | ((with_reducible apply ap_iA); rfl; (try simp only [bz_lit, pk_mul, nI_add]); rfl; omega) | ((with_reducible apply ap_iW); rfl; (try simp only [bz_lit, pk_mul, nI_add]); rfl; omega))
    exact main _ 0 none (fr_u (S := S) (by first | omega | (dsimp only; omega))) (fd_u hf (by omega) (by omega) (by omega)) (by
      show bz_u S.1 186 11 (-1) 186 11 = -1
      rw [bz_u_same])
  · have e2 : S2.1 187 = s0 := (fr_c r2 (fun k => by omega)).trans hs0
    refine g_X12_joins_11 hl _ _ _ _ _ _ _ _ ?_
    unfold w_X12_joins_11
    refine ⟨fun c => absurd ((nI_leI (a := 6) (by omega) (by omega)).mp c) (by omega), fun _ => ?_⟩
    repeat (first | ((with_reducible apply ap_rc); rfl) | ((with_reducible apply ap_nn)) | ((with_reducible apply ap_rR); rfl) | ((with_reducible apply M_ofOrder); rfl; (exact bz_lit _); omega; (first | omega | decide)) | ((with_reducible apply M_ofRider); rfl; (exact bz_lit _); omega; (first | omega | decide)) | ((with_reducible apply ap_rI); exact kd_ord _ (by omega) _ (by decide)) | ((with_reducible apply ap_wI); exact kd_ord _ (by omega) _ (by decide)) | ((with_reducible apply ap_rI); exact kd_rid _ (by omega) _ (by decide)) | ((with_reducible apply ap_wI); exact kd_rid _ (by omega) _ (by decide)) | ((with_reducible apply ap_rc); exact (kd_clO _ (by omega)).1) | ((with_reducible apply ap_rc); exact (kd_clR _ (by omega)).1) | ((with_reducible apply ap_rc); exact (kd_clR _ (by omega)).2.2.1) | ((with_reducible apply ap_rR); exact (kd_ridA _ (by omega)).1) | ((with_reducible apply ap_rN); rfl) | ((with_reducible apply M_in)) | ((with_reducible apply X_isWithin)) | ((with_reducible apply ap_rI); rfl) | ((with_reducible apply ap_wI); rfl) | ((with_reducible apply ap_iA); rfl; (try simp only [bz_lit, pk_mul, nI_add]); rfl; omega) | ((with_reducible apply ap_iW); rfl; (try simp only [bz_lit, pk_mul, nI_add]); rfl; omega))
    refine M_goesWay (s := s0) rfl hr h1 h2 hk e2 hg hx ha hm f2 (fun S3 r3 f3 v3 => ?_)
    have r23 : fr (fun c k => tX c k ∨ (c = 186 ∧ 11 ≤ k ∧ k ≤ 12)) S S3 := fr_t r2 (fr_m r3 (fun c k h => Or.inl h))
    have b11 : S3.1 186 11 = S2.1 186 11 := r3.2 _ _ (by omega)
    have b12 : S3.1 186 12 = S2.1 186 12 := r3.2 _ _ (by omega)
    cases hfn : f_fin (f_w s0 x o1 o2 m a k).1 with
    | none =>
      refine ⟨fun _ => ?_, fun c => absurd rfl c⟩
      rw [← nI_succ]
      refine ih S3 x4 _ r23 f3 ?_
      rw [f_bj, hfn]
      dsimp only
      cases hb : f_bj s0 x o1 o2 m a k with
      | none => rw [hb] at v2; exact b11.trans v2
      | some q => rw [hb] at v2; exact ⟨b11.trans v2.1, b12.trans v2.2.1, v2.2.2⟩
    | some e =>
      obtain ⟨he, b, hb0⟩ := f_fin_e hfn
      obtain ⟨w7, w6, wc⟩ := v3 e b hb0 he
      refine ⟨fun c => absurd c (f_ok_1 _), fun _ => ?_⟩
      repeat (first | ((with_reducible apply ap_rc); rfl) | ((with_reducible apply ap_nn)) | ((with_reducible apply ap_rR); rfl) | ((with_reducible apply M_ofOrder); rfl; (exact bz_lit _); omega; (first | omega | decide)) | ((with_reducible apply M_ofRider); rfl; (exact bz_lit _); omega; (first | omega | decide)) | ((with_reducible apply ap_rI); exact kd_ord _ (by omega) _ (by decide)) | ((with_reducible apply ap_wI); exact kd_ord _ (by omega) _ (by decide)) | ((with_reducible apply ap_rI); exact kd_rid _ (by omega) _ (by decide)) | ((with_reducible apply ap_wI); exact kd_rid _ (by omega) _ (by decide)) | ((with_reducible apply ap_rc); exact (kd_clO _ (by omega)).1) | ((with_reducible apply ap_rc); exact (kd_clR _ (by omega)).1) | ((with_reducible apply ap_rc); exact (kd_clR _ (by omega)).2.2.1) | ((with_reducible apply ap_rR); exact (kd_ridA _ (by omega)).1) | ((with_reducible apply ap_rN); rfl) | ((with_reducible apply M_in)) | ((with_reducible apply X_isWithin)) | ((with_reducible apply ap_rI); rfl) | ((with_reducible apply ap_wI); rfl) | ((with_reducible apply ap_iA); rfl; (try simp only [bz_lit, pk_mul, nI_add]); rfl; omega) | ((with_reducible apply ap_iW); rfl; (try simp only [bz_lit, pk_mul, nI_add]); rfl; omega))
      rw [show S3.1 192 0 = _ from wc 1 (by decide)]
      have e3 : S3.1 187 = s0 := (fr_c r23 (fun k => by omega)).trans hs0
      refine M_lateBy h1 ?_
      repeat (first | ((with_reducible apply ap_rc); rfl) | ((with_reducible apply ap_nn)) | ((with_reducible apply ap_rR); rfl) | ((with_reducible apply M_ofOrder); rfl; (exact bz_lit _); omega; (first | omega | decide)) | ((with_reducible apply M_ofRider); rfl; (exact bz_lit _); omega; (first | omega | decide)) | ((with_reducible apply ap_rI); exact kd_ord _ (by omega) _ (by decide)) | ((with_reducible apply ap_wI); exact kd_ord _ (by omega) _ (by decide)) | ((with_reducible apply ap_rI); exact kd_rid _ (by omega) _ (by decide)) | ((with_reducible apply ap_wI); exact kd_rid _ (by omega) _ (by decide)) | ((with_reducible apply ap_rc); exact (kd_clO _ (by omega)).1) | ((with_reducible apply ap_rc); exact (kd_clR _ (by omega)).1) | ((with_reducible apply ap_rc); exact (kd_clR _ (by omega)).2.2.1) | ((with_reducible apply ap_rR); exact (kd_ridA _ (by omega)).1) | ((with_reducible apply ap_rN); rfl) | ((with_reducible apply M_in)) | ((with_reducible apply X_isWithin)) | ((with_reducible apply ap_rI); rfl) | ((with_reducible apply ap_wI); rfl) | ((with_reducible apply ap_iA); rfl; (try simp only [bz_lit, pk_mul, nI_add]); rfl; omega) | ((with_reducible apply ap_iW); rfl; (try simp only [bz_lit, pk_mul, nI_add]); rfl; omega))
      rw [show S3.1 192 1 = _ from wc 3 (by decide)]
      refine M_lateBy h2 ?_
      rw [e3, show f_lateBy s0 o1 (nI ((f_w s0 x o1 o2 m a k).2 1)) + f_lateBy s0 o2 (nI ((f_w s0 x o1 o2 m a k).2 3)) = f_lj s0 x o1 o2 m a k from rfl]
      have take : ∀ u6, f_bj s0 x o1 o2 m a (k + 1) = some (k, f_lj s0 x o1 o2 m a k, e) → bz_J G κ kX12_joins (d + 6 + 1) (fun v h' => ∃ x, v = some (.inl x) ∧ P x h') bc bs 11 [some (.inr (some 186)), some (.inl (nI r)), some (.inl (nI o1)), some (.inl (nI o2)), some (.inl (nI e)), some (.inl (nI k + 1)), u6] [] (bz_hp E (bz_u (bz_u S3.1 186 11 (nI k)) 186 12 (f_lj s0 x o1 o2 m a k), S3.2)) := by
        intro u6 hb1
        rw [← nI_succ]
        refine ih _ _ _ (fr_t r23 (fr_t (fr_u (S := S3) (by first | omega | (dsimp only; omega))) (fr_u (S := (bz_u S3.1 186 11 (nI k), S3.2)) (by first | omega | (dsimp only; omega))))) (fd_u (fd_u f3 (by omega) (by omega) (by omega)) (by omega) (by omega) (by omega)) ?_
        rw [hb1]
        refine ⟨?_, ?_, rfl⟩ <;> simp (disch := omega) only [bz_u_same, bz_u_ne]
      have leave : ∀ u6, f_bj s0 x o1 o2 m a (k + 1) = f_bj s0 x o1 o2 m a k → bz_J G κ kX12_joins (d + 6 + 1) (fun v h' => ∃ x, v = some (.inl x) ∧ P x h') bc bs 11 [some (.inr (some 186)), some (.inl (nI r)), some (.inl (nI o1)), some (.inl (nI o2)), some (.inl x4), some (.inl (nI k + 1)), u6] [] (bz_hp E S3) := by
        intro u6 hb1
        rw [← nI_succ]
        refine ih S3 x4 _ r23 f3 ?_
        rw [hb1]
        cases hb : f_bj s0 x o1 o2 m a k with
        | none => rw [hb] at v2; exact b11.trans v2
        | some q => rw [hb] at v2; exact ⟨b11.trans v2.1, b12.trans v2.2.1, v2.2.2⟩
      rw [f_bj, hfn] at take leave
      dsimp only at take leave
      repeat (first | ((with_reducible apply ap_rc); rfl) | ((with_reducible apply ap_nn)) | ((with_reducible apply ap_rR); rfl) | ((with_reducible apply M_ofOrder); rfl; (exact bz_lit _); omega; (first | omega | decide)) | ((with_reducible apply M_ofRider); rfl; (exact bz_lit _); omega; (first | omega | decide)) | ((with_reducible apply ap_rI); exact kd_ord _ (by omega) _ (by decide)) | ((with_reducible apply ap_wI); exact kd_ord _ (by omega) _ (by decide)) | ((with_reducible apply ap_rI); exact kd_rid _ (by omega) _ (by decide)) | ((with_reducible apply ap_wI); exact kd_rid _ (by omega) _ (by decide)) | ((with_reducible apply ap_rc); exact (kd_clO _ (by omega)).1) | ((with_reducible apply ap_rc); exact (kd_clR _ (by omega)).1) | ((with_reducible apply ap_rc); exact (kd_clR _ (by omega)).2.2.1) | ((with_reducible apply ap_rR); exact (kd_ridA _ (by omega)).1) | ((with_reducible apply ap_rN); rfl) | ((with_reducible apply M_in)) | ((with_reducible apply X_isWithin)) | ((with_reducible apply ap_rI); rfl) | ((with_reducible apply ap_wI); rfl) | ((with_reducible apply ap_iA); rfl; (try simp only [bz_lit, pk_mul, nI_add]); rfl; omega) | ((with_reducible apply ap_iW); rfl; (try simp only [bz_lit, pk_mul, nI_add]); rfl; omega))
      rw [b11]
      cases hb : f_bj s0 x o1 o2 m a k with
      | none =>
        rw [hb] at v2 take
        rw [show S2.1 186 11 = -1 from v2]
        refine ⟨fun _ => ?_, fun c => absurd (by decide) c⟩
        repeat (first | ((with_reducible apply ap_rc); rfl) | ((with_reducible apply ap_nn)) | ((with_reducible apply ap_rR); rfl) | ((with_reducible apply M_ofOrder); rfl; (exact bz_lit _); omega; (first | omega | decide)) | ((with_reducible apply M_ofRider); rfl; (exact bz_lit _); omega; (first | omega | decide)) | ((with_reducible apply ap_rI); exact kd_ord _ (by omega) _ (by decide)) | ((with_reducible apply ap_wI); exact kd_ord _ (by omega) _ (by decide)) | ((with_reducible apply ap_rI); exact kd_rid _ (by omega) _ (by decide)) | ((with_reducible apply ap_wI); exact kd_rid _ (by omega) _ (by decide)) | ((with_reducible apply ap_rc); exact (kd_clO _ (by omega)).1) | ((with_reducible apply ap_rc); exact (kd_clR _ (by omega)).1) | ((with_reducible apply ap_rc); exact (kd_clR _ (by omega)).2.2.1) | ((with_reducible apply ap_rR); exact (kd_ridA _ (by omega)).1) | ((with_reducible apply ap_rN); rfl) | ((with_reducible apply M_in)) | ((with_reducible apply X_isWithin)) | ((with_reducible apply ap_rI); rfl) | ((with_reducible apply ap_wI); rfl) | ((with_reducible apply ap_iA); rfl; (try simp only [bz_lit, pk_mul, nI_add]); rfl; omega) | ((with_reducible apply ap_iW); rfl; (try simp only [bz_lit, pk_mul, nI_add]); rfl; omega))
        simp (disch := omega) only [bz_u_same, bz_u_ne]
        rw [w7]
        exact take _ rfl
      | some q =>
        obtain ⟨lb, t, e0⟩ := q
        rw [hb] at v2 take leave
        obtain ⟨u1, u2, u3⟩ := v2
        obtain ⟨p1, p2, p3⟩ := f_bj_i hb
        have he0 := (f_fin_e p3).1
        dsimp only at take leave
        rw [u1]
        refine ⟨fun c => absurd c (nI_pos (by omega)), fun _ => ?_⟩
        repeat (first | ((with_reducible apply ap_rc); rfl) | ((with_reducible apply ap_nn)) | ((with_reducible apply ap_rR); rfl) | ((with_reducible apply M_ofOrder); rfl; (exact bz_lit _); omega; (first | omega | decide)) | ((with_reducible apply M_ofRider); rfl; (exact bz_lit _); omega; (first | omega | decide)) | ((with_reducible apply ap_rI); exact kd_ord _ (by omega) _ (by decide)) | ((with_reducible apply ap_wI); exact kd_ord _ (by omega) _ (by decide)) | ((with_reducible apply ap_rI); exact kd_rid _ (by omega) _ (by decide)) | ((with_reducible apply ap_wI); exact kd_rid _ (by omega) _ (by decide)) | ((with_reducible apply ap_rc); exact (kd_clO _ (by omega)).1) | ((with_reducible apply ap_rc); exact (kd_clR _ (by omega)).1) | ((with_reducible apply ap_rc); exact (kd_clR _ (by omega)).2.2.1) | ((with_reducible apply ap_rR); exact (kd_ridA _ (by omega)).1) | ((with_reducible apply ap_rN); rfl) | ((with_reducible apply M_in)) | ((with_reducible apply X_isWithin)) | ((with_reducible apply ap_rI); rfl) | ((with_reducible apply ap_wI); rfl) | ((with_reducible apply ap_iA); rfl; (try simp only [bz_lit, pk_mul, nI_add]); rfl; omega) | ((with_reducible apply ap_iW); rfl; (try simp only [bz_lit, pk_mul, nI_add]); rfl; omega))
        rw [b12, u2]
        refine ⟨fun c => ?_, fun c => ?_⟩
        · repeat (first | ((with_reducible apply ap_rc); rfl) | ((with_reducible apply ap_nn)) | ((with_reducible apply ap_rR); rfl) | ((with_reducible apply M_ofOrder); rfl; (exact bz_lit _); omega; (first | omega | decide)) | ((with_reducible apply M_ofRider); rfl; (exact bz_lit _); omega; (first | omega | decide)) | ((with_reducible apply ap_rI); exact kd_ord _ (by omega) _ (by decide)) | ((with_reducible apply ap_wI); exact kd_ord _ (by omega) _ (by decide)) | ((with_reducible apply ap_rI); exact kd_rid _ (by omega) _ (by decide)) | ((with_reducible apply ap_wI); exact kd_rid _ (by omega) _ (by decide)) | ((with_reducible apply ap_rc); exact (kd_clO _ (by omega)).1) | ((with_reducible apply ap_rc); exact (kd_clR _ (by omega)).1) | ((with_reducible apply ap_rc); exact (kd_clR _ (by omega)).2.2.1) | ((with_reducible apply ap_rR); exact (kd_ridA _ (by omega)).1) | ((with_reducible apply ap_rN); rfl) | ((with_reducible apply M_in)) | ((with_reducible apply X_isWithin)) | ((with_reducible apply ap_rI); rfl) | ((with_reducible apply ap_wI); rfl) | ((with_reducible apply ap_iA); rfl; (try simp only [bz_lit, pk_mul, nI_add]); rfl; omega) | ((with_reducible apply ap_iW); rfl; (try simp only [bz_lit, pk_mul, nI_add]); rfl; omega))
          simp (disch := omega) only [bz_u_same, bz_u_ne]
          rw [w7]
          exact take _ (if_pos (Or.inl c))
        · repeat (first | ((with_reducible apply ap_rc); rfl) | ((with_reducible apply ap_nn)) | ((with_reducible apply ap_rR); rfl) | ((with_reducible apply M_ofOrder); rfl; (exact bz_lit _); omega; (first | omega | decide)) | ((with_reducible apply M_ofRider); rfl; (exact bz_lit _); omega; (first | omega | decide)) | ((with_reducible apply ap_rI); exact kd_ord _ (by omega) _ (by decide)) | ((with_reducible apply ap_wI); exact kd_ord _ (by omega) _ (by decide)) | ((with_reducible apply ap_rI); exact kd_rid _ (by omega) _ (by decide)) | ((with_reducible apply ap_wI); exact kd_rid _ (by omega) _ (by decide)) | ((with_reducible apply ap_rc); exact (kd_clO _ (by omega)).1) | ((with_reducible apply ap_rc); exact (kd_clR _ (by omega)).1) | ((with_reducible apply ap_rc); exact (kd_clR _ (by omega)).2.2.1) | ((with_reducible apply ap_rR); exact (kd_ridA _ (by omega)).1) | ((with_reducible apply ap_rN); rfl) | ((with_reducible apply M_in)) | ((with_reducible apply X_isWithin)) | ((with_reducible apply ap_rI); rfl) | ((with_reducible apply ap_wI); rfl) | ((with_reducible apply ap_iA); rfl; (try simp only [bz_lit, pk_mul, nI_add]); rfl; omega) | ((with_reducible apply ap_iW); rfl; (try simp only [bz_lit, pk_mul, nI_add]); rfl; omega))
          rw [b12, u2]
          refine ⟨fun c1 => leave _ (if_neg (fun q => q.elim c (fun q => c1 q.1))), fun c1 => ?_⟩
          repeat (first | ((with_reducible apply ap_rc); rfl) | ((with_reducible apply ap_nn)) | ((with_reducible apply ap_rR); rfl) | ((with_reducible apply M_ofOrder); rfl; (exact bz_lit _); omega; (first | omega | decide)) | ((with_reducible apply M_ofRider); rfl; (exact bz_lit _); omega; (first | omega | decide)) | ((with_reducible apply ap_rI); exact kd_ord _ (by omega) _ (by decide)) | ((with_reducible apply ap_wI); exact kd_ord _ (by omega) _ (by decide)) | ((with_reducible apply ap_rI); exact kd_rid _ (by omega) _ (by decide)) | ((with_reducible apply ap_wI); exact kd_rid _ (by omega) _ (by decide)) | ((with_reducible apply ap_rc); exact (kd_clO _ (by omega)).1) | ((with_reducible apply ap_rc); exact (kd_clR _ (by omega)).1) | ((with_reducible apply ap_rc); exact (kd_clR _ (by omega)).2.2.1) | ((with_reducible apply ap_rR); exact (kd_ridA _ (by omega)).1) | ((with_reducible apply ap_rN); rfl) | ((with_reducible apply M_in)) | ((with_reducible apply X_isWithin)) | ((with_reducible apply ap_rI); rfl) | ((with_reducible apply ap_wI); rfl) | ((with_reducible apply ap_iA); rfl; (try simp only [bz_lit, pk_mul, nI_add]); rfl; omega) | ((with_reducible apply ap_iW); rfl; (try simp only [bz_lit, pk_mul, nI_add]); rfl; omega))
          rw [w7, u3]
          refine ⟨fun c2 => ?_, fun c2 => ?_⟩
          · have := (nI_leI (by omega) (by omega)).mp c2
            rw [← u3]
            exact leave _ (if_neg (fun q => q.elim c (fun q => by omega)))
          · have : e < e0 := by
              rcases Nat.lt_or_ge e e0 with q | q
              · exact q
              · exact absurd (nI_le q (by omega)) c2
            repeat (first | ((with_reducible apply ap_rc); rfl) | ((with_reducible apply ap_nn)) | ((with_reducible apply ap_rR); rfl) | ((with_reducible apply M_ofOrder); rfl; (exact bz_lit _); omega; (first | omega | decide)) | ((with_reducible apply M_ofRider); rfl; (exact bz_lit _); omega; (first | omega | decide)) | ((with_reducible apply ap_rI); exact kd_ord _ (by omega) _ (by decide)) | ((with_reducible apply ap_wI); exact kd_ord _ (by omega) _ (by decide)) | ((with_reducible apply ap_rI); exact kd_rid _ (by omega) _ (by decide)) | ((with_reducible apply ap_wI); exact kd_rid _ (by omega) _ (by decide)) | ((with_reducible apply ap_rc); exact (kd_clO _ (by omega)).1) | ((with_reducible apply ap_rc); exact (kd_clR _ (by omega)).1) | ((with_reducible apply ap_rc); exact (kd_clR _ (by omega)).2.2.1) | ((with_reducible apply ap_rR); exact (kd_ridA _ (by omega)).1) | ((with_reducible apply ap_rN); rfl) | ((with_reducible apply M_in)) | ((with_reducible apply X_isWithin)) | ((with_reducible apply ap_rI); rfl) | ((with_reducible apply ap_wI); rfl) | ((with_reducible apply ap_iA); rfl; (try simp only [bz_lit, pk_mul, nI_add]); rfl; omega) | ((with_reducible apply ap_iW); rfl; (try simp only [bz_lit, pk_mul, nI_add]); rfl; omega))
            simp (disch := omega) only [bz_u_same, bz_u_ne]
            rw [w7]
            exact take _ (if_pos (Or.inr ⟨c1, this⟩))
  · intro S2 x4 u6 r2 f2 v2
    have e2 : S2.1 187 = s0 := (fr_c r2 (fun k => by omega)).trans hs0
    refine g_X12_joins_11 hl _ _ _ _ _ _ _ _ ?_
    unfold w_X12_joins_11
    refine ⟨fun _ => ?_, fun c => absurd (by decide) c⟩
    repeat (first | ((with_reducible apply ap_rc); rfl) | ((with_reducible apply ap_nn)) | ((with_reducible apply ap_rR); rfl) | ((with_reducible apply M_ofOrder); rfl; (exact bz_lit _); omega; (first | omega | decide)) | ((with_reducible apply M_ofRider); rfl; (exact bz_lit _); omega; (first | omega | decide)) | ((with_reducible apply ap_rI); exact kd_ord _ (by omega) _ (by decide)) | ((with_reducible apply ap_wI); exact kd_ord _ (by omega) _ (by decide)) | ((with_reducible apply ap_rI); exact kd_rid _ (by omega) _ (by decide)) | ((with_reducible apply ap_wI); exact kd_rid _ (by omega) _ (by decide)) | ((with_reducible apply ap_rc); exact (kd_clO _ (by omega)).1) | ((with_reducible apply ap_rc); exact (kd_clR _ (by omega)).1) | ((with_reducible apply ap_rc); exact (kd_clR _ (by omega)).2.2.1) | ((with_reducible apply ap_rR); exact (kd_ridA _ (by omega)).1) | ((with_reducible apply ap_rN); rfl) | ((with_reducible apply M_in)) | ((with_reducible apply X_isWithin)) | ((with_reducible apply ap_rI); rfl) | ((with_reducible apply ap_wI); rfl) | ((with_reducible apply ap_iA); rfl; (try simp only [bz_lit, pk_mul, nI_add]); rfl; omega) | ((with_reducible apply ap_iW); rfl; (try simp only [bz_lit, pk_mul, nI_add]); rfl; omega))
    cases hb : f_bj s0 x o1 o2 m a 6 with
    | none =>
      rw [hb] at v2
      rw [show S2.1 186 11 = -1 from v2]
      refine ⟨fun _ => ⟨_, rfl, ?_⟩, fun c => absurd (by decide) c⟩
      have := hP S2 r2 f2 (fun _ _ _ e => by rw [hb] at e; cases e)
      rw [hb] at this
      exact this
    | some q =>
      obtain ⟨lb, t, e0⟩ := q
      rw [hb] at v2
      obtain ⟨u1, u2, u3⟩ := v2
      obtain ⟨p1, p2, p3⟩ := f_bj_i hb
      obtain ⟨he, b, hb0⟩ := f_fin_e p3
      rw [u1]
      refine ⟨fun c => absurd c (nI_pos (by omega)), fun _ => ?_⟩
      repeat (first | ((with_reducible apply ap_rc); rfl) | ((with_reducible apply ap_nn)) | ((with_reducible apply ap_rR); rfl) | ((with_reducible apply M_ofOrder); rfl; (exact bz_lit _); omega; (first | omega | decide)) | ((with_reducible apply M_ofRider); rfl; (exact bz_lit _); omega; (first | omega | decide)) | ((with_reducible apply ap_rI); exact kd_ord _ (by omega) _ (by decide)) | ((with_reducible apply ap_wI); exact kd_ord _ (by omega) _ (by decide)) | ((with_reducible apply ap_rI); exact kd_rid _ (by omega) _ (by decide)) | ((with_reducible apply ap_wI); exact kd_rid _ (by omega) _ (by decide)) | ((with_reducible apply ap_rc); exact (kd_clO _ (by omega)).1) | ((with_reducible apply ap_rc); exact (kd_clR _ (by omega)).1) | ((with_reducible apply ap_rc); exact (kd_clR _ (by omega)).2.2.1) | ((with_reducible apply ap_rR); exact (kd_ridA _ (by omega)).1) | ((with_reducible apply ap_rN); rfl) | ((with_reducible apply M_in)) | ((with_reducible apply X_isWithin)) | ((with_reducible apply ap_rI); rfl) | ((with_reducible apply ap_wI); rfl) | ((with_reducible apply ap_iA); rfl; (try simp only [bz_lit, pk_mul, nI_add]); rfl; omega) | ((with_reducible apply ap_iW); rfl; (try simp only [bz_lit, pk_mul, nI_add]); rfl; omega))
      rw [u1]
      refine M_goesWay (s := s0) rfl hr h1 h2 p1 e2 hg hx ha hm f2 (fun S3 r3 f3 v3 => ?_)
      obtain ⟨w7, w6, wc⟩ := v3 e0 b hb0 he
      rw [p3]
      refine ⟨_, rfl, ?_⟩
      have := hP S3 (fr_t r2 (fr_m r3 (fun c k h => Or.inl h))) f3 (fun lb' t' e' q => by
        rw [hb] at q
        cases q
        refine ⟨(r3.2 186 11 (by omega)).trans u1, (r3.2 186 12 (by omega)).trans u2, w7, ?_, wc⟩
        rw [w6]
        exact f_w_b hg h1 h2 p1 hb0)
      rw [hb] at this
      exact this
end MJO
