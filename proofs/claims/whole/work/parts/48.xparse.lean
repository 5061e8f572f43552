/-! the class reads a text -/
def t_v (b : Nat → Nat) (N p : Nat) : Nat := if (t_tk b N p).1 = 4 then (t_tk b N p).2 else (t_tk b N p).1
theorem t_tk_4 (b : Nat → Nat) (N p : Nat) : (t_tk b N p).1 = 4 → 40 ≤ (t_tk b N p).2 ∧ (t_tk b N p).2 < 64 := by
  unfold t_tk
  generalize t_pl b N p = q
  split
  · dsimp only; omega
  · split
    · split
      · dsimp only; omega
      · dsimp only; omega
    · split
      · dsimp only; omega
      · split
        · dsimp only; omega
        · dsimp only; omega
theorem t_v_b (b : Nat → Nat) (N p : Nat) : t_v b N p < 64 := by
  have h1 := t_tk_4 b N p
  have h2 := (t_tk_k b N p).2.2
  unfold t_v
  split
  · exact (h1 (by assumption)).2
  · omega
theorem t_v_s {b : Nat → Nat} {N p c : Nat} (hc : 40 ≤ c) : t_v b N p = c ↔ t_tk b N p = (4, c) := by
  have h2 := (t_tk_k b N p).2.2
  unfold t_v
  constructor
  · intro h
    split at h
    · next q => exact Prod.ext q h
    · omega
  · intro h
    rw [h]
    rfl
theorem t_v_n {b : Nat → Nat} {N p c : Nat} (hc : c < 4) : t_v b N p = c ↔ (t_tk b N p).1 = c := by
  have h1 := t_tk_4 b N p
  unfold t_v
  constructor
  · intro h
    split at h
    · next q => have := h1 q; omega
    · exact h
  · intro h
    rw [if_neg (by omega)]
    exact h
def sx (S : bz_S) (st : List Nat) : Prop := S.1 162 3 = nI st.length ∧ ∀ i, i < st.length → S.1 164 i = nI (st.getD i 0)
abbrev XT (c k : Nat) : Prop := (c = 162 ∧ 3 ≤ k) ∨ c = 164
def ax (S : bz_S) (b : Nat → Nat) (N p : Nat) (st : List Nat) : Prop := tbX S b N ∧ px S b N p ∧ sx S st
theorem px_t {S : bz_S} {b : Nat → Nat} {N p : Nat} (h : px S b N p) : S.1 162 4 = nI (t_v b N p) := h.1
theorem px_f {X : Nat → Nat → Prop} {S S' : bz_S} {b : Nat → Nat} {N p : Nat} (h : px S b N p) (f : fr X S S') (hX : ∀ c k, X c k → ¬ (c = 162 ∧ 4 ≤ k)) : px S' b N p := by
  unfold px at *
  rw [f.2 162 4 (fun x => hX _ _ x ⟨rfl, by decide⟩), f.2 162 5 (fun x => hX _ _ x ⟨rfl, by decide⟩), f.2 162 6 (fun x => hX _ _ x ⟨rfl, by decide⟩), f.2 162 7 (fun x => hX _ _ x ⟨rfl, by decide⟩)]
  exact h
theorem sx_f {X : Nat → Nat → Prop} {S S' : bz_S} {st : List Nat} (h : sx S st) (f : fr X S S') (hX : ∀ c k, X c k → ¬ ((c = 162 ∧ k = 3) ∨ c = 164)) : sx S' st := by
  refine ⟨(f.2 162 3 (fun x => hX _ _ x (Or.inl ⟨rfl, rfl⟩))).trans h.1, fun i hi => (f.2 164 i (fun x => hX _ _ x (Or.inr rfl))).trans (h.2 i hi)⟩
theorem gd_app (st : List Nat) (c i : Nat) : (st ++ [c]).getD i 0 = if i = st.length then c else st.getD i 0 := by
  by_cases h : i = st.length
  · subst h
    rw [if_pos rfl, List.getD_eq_getElem?_getD, List.getElem?_append_right (Nat.le_refl _), Nat.sub_self]
    rfl
  · rw [if_neg h, List.getD_eq_getElem?_getD, List.getD_eq_getElem?_getD]
    by_cases h2 : i < st.length
    · rw [List.getElem?_append_left h2]
    · rw [List.getElem?_append_right (by omega), List.getElem?_eq_none (by simp only [List.length_cons, List.length_nil]; omega), List.getElem?_eq_none (by omega)]
def spX (b : Nat → Nat) (N f nt H R : Nat) (y : bz_M) : Prop := ∀ (G : bz_G) (l : Launch) (E : Nat × (Nat → Int32)) (d : Nat) (S : bz_S) (k p : Nat) (st : List Nat) (P : Int32 → bz_H → Prop), ax S b N p st → st.length ≤ p → p ≤ N → 8 * (N - p) + R ≤ f → k ≤ 6 → 4 * (6 - k) + H ≤ d → (∀ S', fr XT S S' → tbX S' b N → px S' b N (t_p b N f nt k p st).2.1 → ((t_p b N f nt k p st).1 = true → sx S' (t_p b N f nt k p st).2.2) → P (if (t_p b N f nt k p st).1 = true then 1 else 0) (bz_hp E S')) → bz_cI G l d y [.inr (some 162), .inl (nI k)] (bz_hp E S) 0 0 P
def lpX (b : Nat → Nat) (N f nt H R : Nat) (y : bz_M) : Prop := ∀ (G : bz_G) (l : Launch) (E : Nat × (Nat → Int32)) (d : Nat) (κ : bz_K) (bc bs : Nat) (S : bz_S) (k p : Nat) (st : List Nat) (i : Nat) (u4 : Option bz_V) (P : Int32 → bz_H → Prop), κ.2.1 = l → ax S b N p st → st.length ≤ p → p ≤ N → i ≤ p → 8 * (N - p) + R ≤ f → k ≤ 6 → 4 * (6 - k) + H ≤ d → (∀ S', fr XT S S' → tbX S' b N → px S' b N (t_p b N f nt k p st).2.1 → ((t_p b N f nt k p st).1 = true → sx S' (t_p b N f nt k p st).2.2) → P (if (t_p b N f nt k p st).1 = true then 1 else 0) (bz_hp E S')) → bz_J G κ y (d + 1) (fun v h' => ∃ x, v = some (.inl x) ∧ P x h') bc bs 8 [some (.inr (some 162)), some (.inl (nI k)), some (.inl 1), some (.inl (nI i)), u4] [] (bz_hp E S)
section XPA
variable {G : bz_G} {l : Launch} {d : Nat} {E : Nat × (Nat → Int32)} {S : bz_S} {b : Nat → Nat} {N : Nat}
theorem X_putStep {P : Int32 → bz_H → Prop} {x : Int32} {c : Nat} {st : List Nat} (hx : x = nI c) (hs : sx S st) (hl : st.length < 80) (hP : ∀ S', fr (fun c k => (c = 162 ∧ k = 3) ∨ c = 164) S S' → sx S' (st ++ [c]) → P 1 (bz_hp E S')) : bz_cI G l (d + 1) kX6_putStep [.inr (some 162), .inl x] (bz_hp E S) 0 0 P := by
  refine m_X6_putStep _ _ _ ?_
  unfold w_X6_putStep_0
  subst hx
  repeat (first | ((with_reducible apply ap_rc); rfl) | ((with_reducible apply ap_nn)) | ((with_reducible apply ap_rR); rfl) | ((with_reducible apply M_ofOrder); rfl; (exact bz_lit _); omega; (first | omega | decide)) | ((with_reducible apply M_ofRider); rfl; (exact bz_lit _); omega; (first | omega | decide)) | ((with_reducible apply ap_rI); exact kd_ord _ (by omega) _ (by decide)) | ((with_reducible apply ap_wI); exact kd_ord _ (by omega) _ (by decide)) | ((with_reducible apply ap_rI); exact kd_rid _ (by omega) _ (by decide)) | ((with_reducible apply ap_wI); exact kd_rid _ (by omega) _ (by decide)) | ((with_reducible apply ap_rc); exact (kd_clO _ (by omega)).1) | ((with_reducible apply ap_rc); exact (kd_clR _ (by omega)).1) | ((with_reducible apply ap_rc); exact (kd_clR _ (by omega)).2.2.1) | ((with_reducible apply ap_rR); exact (kd_ridA _ (by omega)).1) | ((with_reducible apply ap_rN); rfl) | ((with_reducible apply M_in)) | ((with_reducible apply X_isWithin)) | ((with_reducible apply ap_rI); rfl) | ((with_reducible apply ap_wI); rfl) | ((with_reducible apply ap_iA); rfl; (try simp only [bz_lit, pk_mul, nI_add]); rfl; omega) | ((with_reducible apply ap_iW); rfl; (try simp only [bz_lit, pk_mul, nI_add]); rfl; omega))
  rw [hs.1]
  refine ⟨fun _ => ?_, fun c => absurd (show nI st.length < (80 : Int32) from nI_lt (b := 80) hl (by decide)) c⟩
  repeat (first | ((with_reducible apply ap_rc); rfl) | ((with_reducible apply ap_nn)) | ((with_reducible apply ap_rR); rfl) | ((with_reducible apply M_ofOrder); rfl; (exact bz_lit _); omega; (first | omega | decide)) | ((with_reducible apply M_ofRider); rfl; (exact bz_lit _); omega; (first | omega | decide)) | ((with_reducible apply ap_rI); exact kd_ord _ (by omega) _ (by decide)) | ((with_reducible apply ap_wI); exact kd_ord _ (by omega) _ (by decide)) | ((with_reducible apply ap_rI); exact kd_rid _ (by omega) _ (by decide)) | ((with_reducible apply ap_wI); exact kd_rid _ (by omega) _ (by decide)) | ((with_reducible apply ap_rc); exact (kd_clO _ (by omega)).1) | ((with_reducible apply ap_rc); exact (kd_clR _ (by omega)).1) | ((with_reducible apply ap_rc); exact (kd_clR _ (by omega)).2.2.1) | ((with_reducible apply ap_rR); exact (kd_ridA _ (by omega)).1) | ((with_reducible apply ap_rN); rfl) | ((with_reducible apply M_in)) | ((with_reducible apply X_isWithin)) | ((with_reducible apply ap_rI); rfl) | ((with_reducible apply ap_wI); rfl) | ((with_reducible apply ap_iA); rfl; (try simp only [bz_lit, pk_mul, nI_add]); rfl; omega) | ((with_reducible apply ap_iW); rfl; (try simp only [bz_lit, pk_mul, nI_add]); rfl; omega))
  rw [hs.1]
  repeat (first | ((with_reducible apply ap_rc); rfl) | ((with_reducible apply ap_nn)) | ((with_reducible apply ap_rR); rfl) | ((with_reducible apply M_ofOrder); rfl; (exact bz_lit _); omega; (first | omega | decide)) | ((with_reducible apply M_ofRider); rfl; (exact bz_lit _); omega; (first | omega | decide)) | ((with_reducible apply ap_rI); exact kd_ord _ (by omega) _ (by decide)) | ((with_reducible apply ap_wI); exact kd_ord _ (by omega) _ (by decide)) | ((with_reducible apply ap_rI); exact kd_rid _ (by omega) _ (by decide)) | ((with_reducible apply ap_wI); exact kd_rid _ (by omega) _ (by decide)) | ((with_reducible apply ap_rc); exact (kd_clO _ (by omega)).1) | ((with_reducible apply ap_rc); exact (kd_clR _ (by omega)).1) | ((with_reducible apply ap_rc); exact (kd_clR _ (by omega)).2.2.1) | ((with_reducible apply ap_rR); exact (kd_ridA _ (by omega)).1) | ((with_reducible apply ap_rN); rfl) | ((with_reducible apply M_in)) | ((with_reducible apply X_isWithin)) | ((with_reducible apply ap_rI); rfl) | ((with_reducible apply ap_wI); rfl) | ((with_reducible apply ap_iA); rfl; (try simp only [bz_lit, pk_mul, nI_add]); rfl; omega) | ((with_reducible apply ap_iW); rfl; (try simp only [bz_lit, pk_mul, nI_add]); rfl; omega))
  dsimp only
  rw [bz_u_ne _ _ (by omega), hs.1]
  refine ⟨_, rfl, hP _ (fr_v (fr_v (fr_0 _ S) (by first | omega | (dsimp only; omega))) (by first | omega | (dsimp only; omega))) ⟨?_, fun i hi => ?_⟩⟩
  · dsimp only
    rw [bz_u_same, List.length_append, ← nI_succ]
    rfl
  · rw [List.length_append] at hi
    simp only [List.length_cons, List.length_nil] at hi
    dsimp only
    rw [bz_u_ne _ _ (by omega), gd_app]
    by_cases h : i = st.length
    · subst h; rw [bz_u_same, if_pos rfl]
    · rw [bz_u_ne _ _ (Or.inr h), if_neg h]
      exact hs.2 i (by omega)
theorem X_adp {P : bz_H → Prop} {p : Nat} {st : List Nat} (hN : N ≤ 80) (hb : ∀ j, b j < 256) (hp : p ≤ N) (ha : ax S b N p st) (hd : 5 ≤ d) (hP : ∀ S', fr (fun c k => c = 162 ∧ 4 ≤ k) S S' → ax S' b N (t_nx b N p) st → P (bz_hp E S')) : bz_cV G l d kX6_advance [.inr (some 162)] (bz_hp E S) 0 0 P := by
  obtain ⟨d', rfl⟩ : ∃ d', d = d' + 5 := ⟨d - 5, by omega⟩
  exact X_adv hN hb (t_nx_b hp).2.1 ha.1 ha.2.1.2.2.2 (fun S' r1 q => hP S' r1 ⟨tbX_f ha.1 r1 (by intro c k h; first | omega | (dsimp only at h ⊢; omega) | (dsimp only at h; omega) | (dsimp only; omega)), q, sx_f ha.2.2 r1 (by intro c k h; first | omega | (dsimp only at h ⊢; omega) | (dsimp only at h; omega) | (dsimp only; omega))⟩)
end XPA
theorem t_bT {r : t_R} {k : Nat → List Nat → t_R} (h : r.1 = true) : t_b r k = k r.2.1 r.2.2 := if_pos h
theorem t_bF {r : t_R} {k : Nat → List Nat → t_R} (h : ¬ r.1 = true) : t_b r k = r := if_neg h
/-- one -/
theorem X_one_s {b : Nat → Nat} {N f : Nat} (hN : N ≤ 80) (hb : ∀ j, b j < 256) (h5 : spX b N f 5 6 2 kX6_readOne) (h0 : spX b N f 0 9 5 kX6_readText) : spX b N (f + 1) 5 6 2 kX6_readOne := by
  intro G l E d S k p st P ha hlen hp hf hk hd hP
  obtain ⟨d', rfl⟩ : ∃ d', d = d' + 1 := ⟨d - 1, by omega⟩
  refine m_X6_readOne _ _ _ (fun κ bc bs hl => ?_)
  unfold w_X6_readOne_0
  rw [t_p] at hP
  rotate_left
  all_goals (try (intro q; omega))
  have tn := t_nx_b (b := b) hp
  have tv := t_v_b b N p
  obtain ⟨k1, k2, k3⟩ := t_tk_k b N p
  have hpx := px_t ha.2.1
  have take : ∀ (hc : (t_tk b N p).1 = 2 ∨ (t_tk b N p).1 = 3), bz_rI (bz_hp E S) 162 6 7 (fun x_2 => bz_rc (bz_hp E S) 162 6 (bz_cI G l d' kX6_putStep [.inr (some 162), .inl x_2] (bz_hp E S) 0 0 (fun x_3 h_4 => bz_rc h_4 162 6 (bz_cV G l d' kX6_advance [.inr (some 162)] h_4 0 0 (fun h_6 => ∃ x, (some (.inl 1) : Option bz_V) = some (.inl x) ∧ P x h_6))))) := by
    intro hc
    rw [if_pos hc] at hP
    have g := tn.2.2 (by omega)
    obtain ⟨d2, rfl⟩ : ∃ d2, d' = d2 + 1 := ⟨d' - 1, by omega⟩
    repeat (first | ((with_reducible apply ap_rc); rfl) | ((with_reducible apply ap_nn)) | ((with_reducible apply ap_rR); rfl) | ((with_reducible apply M_ofOrder); rfl; (exact bz_lit _); omega; (first | omega | decide)) | ((with_reducible apply M_ofRider); rfl; (exact bz_lit _); omega; (first | omega | decide)) | ((with_reducible apply ap_rI); exact kd_ord _ (by omega) _ (by decide)) | ((with_reducible apply ap_wI); exact kd_ord _ (by omega) _ (by decide)) | ((with_reducible apply ap_rI); exact kd_rid _ (by omega) _ (by decide)) | ((with_reducible apply ap_wI); exact kd_rid _ (by omega) _ (by decide)) | ((with_reducible apply ap_rc); exact (kd_clO _ (by omega)).1) | ((with_reducible apply ap_rc); exact (kd_clR _ (by omega)).1) | ((with_reducible apply ap_rc); exact (kd_clR _ (by omega)).2.2.1) | ((with_reducible apply ap_rR); exact (kd_ridA _ (by omega)).1) | ((with_reducible apply ap_rN); rfl) | ((with_reducible apply M_in)) | ((with_reducible apply X_isWithin)) | ((with_reducible apply ap_rI); rfl) | ((with_reducible apply ap_wI); rfl) | ((with_reducible apply ap_iA); rfl; (try simp only [bz_lit, pk_mul, nI_add]); rfl; omega) | ((with_reducible apply ap_iW); rfl; (try simp only [bz_lit, pk_mul, nI_add]); rfl; omega))
    refine X_putStep (ha.2.1.2.1 hc) ha.2.2 (by omega) (fun S1 r1 s1 => ?_)
    have a1 : ax S1 b N p (st ++ [(t_tk b N p).2]) := ⟨tbX_f ha.1 r1 (by intro c k h; first | omega | (dsimp only at h ⊢; omega) | (dsimp only at h; omega) | (dsimp only; omega)), px_f ha.2.1 r1 (by intro c k h; first | omega | (dsimp only at h ⊢; omega) | (dsimp only at h; omega) | (dsimp only; omega)), s1⟩
    repeat (first | ((with_reducible apply ap_rc); rfl) | ((with_reducible apply ap_nn)) | ((with_reducible apply ap_rR); rfl) | ((with_reducible apply M_ofOrder); rfl; (exact bz_lit _); omega; (first | omega | decide)) | ((with_reducible apply M_ofRider); rfl; (exact bz_lit _); omega; (first | omega | decide)) | ((with_reducible apply ap_rI); exact kd_ord _ (by omega) _ (by decide)) | ((with_reducible apply ap_wI); exact kd_ord _ (by omega) _ (by decide)) | ((with_reducible apply ap_rI); exact kd_rid _ (by omega) _ (by decide)) | ((with_reducible apply ap_wI); exact kd_rid _ (by omega) _ (by decide)) | ((with_reducible apply ap_rc); exact (kd_clO _ (by omega)).1) | ((with_reducible apply ap_rc); exact (kd_clR _ (by omega)).1) | ((with_reducible apply ap_rc); exact (kd_clR _ (by omega)).2.2.1) | ((with_reducible apply ap_rR); exact (kd_ridA _ (by omega)).1) | ((with_reducible apply ap_rN); rfl) | ((with_reducible apply M_in)) | ((with_reducible apply X_isWithin)) | ((with_reducible apply ap_rI); rfl) | ((with_reducible apply ap_wI); rfl) | ((with_reducible apply ap_iA); rfl; (try simp only [bz_lit, pk_mul, nI_add]); rfl; omega) | ((with_reducible apply ap_iW); rfl; (try simp only [bz_lit, pk_mul, nI_add]); rfl; omega))
    refine X_adp hN hb hp a1 (by omega) (fun S2 r2 a2 => ?_)
    exact ⟨_, rfl, hP S2 (fr_t (fr_m r1 (by intro c k h; first | omega | (dsimp only at h ⊢; omega) | (dsimp only at h; omega) | (dsimp only; omega))) (fr_m r2 (by intro c k h; first | omega | (dsimp only at h ⊢; omega) | (dsimp only at h; omega) | (dsimp only; omega)))) a2.1 a2.2.1 (fun _ => a2.2.2)⟩
  repeat (first | ((with_reducible apply ap_rc); rfl) | ((with_reducible apply ap_nn)) | ((with_reducible apply ap_rR); rfl) | ((with_reducible apply M_ofOrder); rfl; (exact bz_lit _); omega; (first | omega | decide)) | ((with_reducible apply M_ofRider); rfl; (exact bz_lit _); omega; (first | omega | decide)) | ((with_reducible apply ap_rI); exact kd_ord _ (by omega) _ (by decide)) | ((with_reducible apply ap_wI); exact kd_ord _ (by omega) _ (by decide)) | ((with_reducible apply ap_rI); exact kd_rid _ (by omega) _ (by decide)) | ((with_reducible apply ap_wI); exact kd_rid _ (by omega) _ (by decide)) | ((with_reducible apply ap_rc); exact (kd_clO _ (by omega)).1) | ((with_reducible apply ap_rc); exact (kd_clR _ (by omega)).1) | ((with_reducible apply ap_rc); exact (kd_clR _ (by omega)).2.2.1) | ((with_reducible apply ap_rR); exact (kd_ridA _ (by omega)).1) | ((with_reducible apply ap_rN); rfl) | ((with_reducible apply M_in)) | ((with_reducible apply X_isWithin)) | ((with_reducible apply ap_rI); rfl) | ((with_reducible apply ap_wI); rfl) | ((with_reducible apply ap_iA); rfl; (try simp only [bz_lit, pk_mul, nI_add]); rfl; omega) | ((with_reducible apply ap_iW); rfl; (try simp only [bz_lit, pk_mul, nI_add]); rfl; omega))
  rw [hpx]
  refine ⟨fun c => ?_, fun c => ?_⟩
  · have c' := (t_v_n (c := 2) (by decide)).mp ((nI_eq (b := 2) (by omega) (by decide)).mp c)
    exact take (Or.inl c')
  · have n2 : ¬ (t_tk b N p).1 = 2 := fun z => c (congrArg nI ((t_v_n (c := 2) (by decide)).mpr z))
    refine ⟨fun c1 => ?_, fun c1 => ?_⟩
    · have n3 : ¬ (t_tk b N p).1 = 3 := fun z => c1 (congrArg nI ((t_v_n (c := 3) (by decide)).mpr z))
      rw [if_neg (by omega)] at hP
      refine ⟨fun c2 => ?_, fun c2 => ?_⟩
      · have c' := (t_v_s (c := 45) (by decide)).mp ((nI_eq (b := 45) (by omega) (by decide)).mp c2)
        have g := tn.2.2 (by rw [c']; decide)
        rw [if_pos c'] at hP
        refine g_X6_readOne_42 hl _ _ _ _ ?_
        unfold w_X6_readOne_42
        refine ⟨fun c3 => ?_, fun c3 => ?_⟩
        · have k6 : k < 6 := (nI_ltI (b := 6) (by omega) (by omega)).mp c3
          rw [if_pos k6] at hP
          repeat (first | ((with_reducible apply ap_rc); rfl) | ((with_reducible apply ap_nn)) | ((with_reducible apply ap_rR); rfl) | ((with_reducible apply M_ofOrder); rfl; (exact bz_lit _); omega; (first | omega | decide)) | ((with_reducible apply M_ofRider); rfl; (exact bz_lit _); omega; (first | omega | decide)) | ((with_reducible apply ap_rI); exact kd_ord _ (by omega) _ (by decide)) | ((with_reducible apply ap_wI); exact kd_ord _ (by omega) _ (by decide)) | ((with_reducible apply ap_rI); exact kd_rid _ (by omega) _ (by decide)) | ((with_reducible apply ap_wI); exact kd_rid _ (by omega) _ (by decide)) | ((with_reducible apply ap_rc); exact (kd_clO _ (by omega)).1) | ((with_reducible apply ap_rc); exact (kd_clR _ (by omega)).1) | ((with_reducible apply ap_rc); exact (kd_clR _ (by omega)).2.2.1) | ((with_reducible apply ap_rR); exact (kd_ridA _ (by omega)).1) | ((with_reducible apply ap_rN); rfl) | ((with_reducible apply M_in)) | ((with_reducible apply X_isWithin)) | ((with_reducible apply ap_rI); rfl) | ((with_reducible apply ap_wI); rfl) | ((with_reducible apply ap_iA); rfl; (try simp only [bz_lit, pk_mul, nI_add]); rfl; omega) | ((with_reducible apply ap_iW); rfl; (try simp only [bz_lit, pk_mul, nI_add]); rfl; omega))
          refine X_adp hN hb hp ha (by omega) (fun S1 r1 a1 => ?_)
          refine ⟨fun c4 => absurd c2 c4, fun _ => ?_⟩
          rw [← nI_succ]
          repeat (first | ((with_reducible apply ap_rc); rfl) | ((with_reducible apply ap_nn)) | ((with_reducible apply ap_rR); rfl) | ((with_reducible apply M_ofOrder); rfl; (exact bz_lit _); omega; (first | omega | decide)) | ((with_reducible apply M_ofRider); rfl; (exact bz_lit _); omega; (first | omega | decide)) | ((with_reducible apply ap_rI); exact kd_ord _ (by omega) _ (by decide)) | ((with_reducible apply ap_wI); exact kd_ord _ (by omega) _ (by decide)) | ((with_reducible apply ap_rI); exact kd_rid _ (by omega) _ (by decide)) | ((with_reducible apply ap_wI); exact kd_rid _ (by omega) _ (by decide)) | ((with_reducible apply ap_rc); exact (kd_clO _ (by omega)).1) | ((with_reducible apply ap_rc); exact (kd_clR _ (by omega)).1) | ((with_reducible apply ap_rc); exact (kd_clR _ (by omega)).2.2.1) | ((with_reducible apply ap_rR); exact (kd_ridA _ (by omega)).1) | ((with_reducible apply ap_rN); rfl) | ((with_reducible apply M_in)) | ((with_reducible apply X_isWithin)) | ((with_reducible apply ap_rI); rfl) | ((with_reducible apply ap_wI); rfl) | ((with_reducible apply ap_iA); rfl; (try simp only [bz_lit, pk_mul, nI_add]); rfl; omega) | ((with_reducible apply ap_iW); rfl; (try simp only [bz_lit, pk_mul, nI_add]); rfl; omega))
          refine h5 G l E d' S1 (k + 1) (t_nx b N p) st _ a1 (by omega) tn.2.1 (by omega) (by omega) (by omega) (fun S2 r2 t2 p2 s2 => ?_)
          have gg := t_p_i b N f 5 (k + 1) (t_nx b N p) st (by omega) tn.2.1
          generalize t_p b N f 5 (k + 1) (t_nx b N p) st = R1 at *
          by_cases hR : R1.1 = true
          · rw [if_pos hR]
            rw [t_bT hR] at hP
            obtain ⟨q1, q2, q3, q4, -, -⟩ := gg hR
            have q3' := q3 (by decide) (by decide)
            refine ⟨fun z => absurd z (by decide), fun _ => ?_⟩
            obtain ⟨d2, rfl⟩ : ∃ d2, d' = d2 + 1 := ⟨d' - 1, by omega⟩
            repeat (first | ((with_reducible apply ap_rc); rfl) | ((with_reducible apply ap_nn)) | ((with_reducible apply ap_rR); rfl) | ((with_reducible apply M_ofOrder); rfl; (exact bz_lit _); omega; (first | omega | decide)) | ((with_reducible apply M_ofRider); rfl; (exact bz_lit _); omega; (first | omega | decide)) | ((with_reducible apply ap_rI); exact kd_ord _ (by omega) _ (by decide)) | ((with_reducible apply ap_wI); exact kd_ord _ (by omega) _ (by decide)) | ((with_reducible apply ap_rI); exact kd_rid _ (by omega) _ (by decide)) | ((with_reducible apply ap_wI); exact kd_rid _ (by omega) _ (by decide)) | ((with_reducible apply ap_rc); exact (kd_clO _ (by omega)).1) | ((with_reducible apply ap_rc); exact (kd_clR _ (by omega)).1) | ((with_reducible apply ap_rc); exact (kd_clR _ (by omega)).2.2.1) | ((with_reducible apply ap_rR); exact (kd_ridA _ (by omega)).1) | ((with_reducible apply ap_rN); rfl) | ((with_reducible apply M_in)) | ((with_reducible apply X_isWithin)) | ((with_reducible apply ap_rI); rfl) | ((with_reducible apply ap_wI); rfl) | ((with_reducible apply ap_iA); rfl; (try simp only [bz_lit, pk_mul, nI_add]); rfl; omega) | ((with_reducible apply ap_iW); rfl; (try simp only [bz_lit, pk_mul, nI_add]); rfl; omega))
            refine X_putStep rfl (s2 hR) (by omega) (fun S3 r3 s3 => ?_)
            rw [if_neg (by decide : ¬ (1 : Int32) = 0)]
            exact ⟨_, rfl, hP S3 (fr_t (fr_m r1 (by intro c k h; first | omega | (dsimp only at h ⊢; omega) | (dsimp only at h; omega) | (dsimp only; omega))) (fr_t r2 (fr_m r3 (by intro c k h; first | omega | (dsimp only at h ⊢; omega) | (dsimp only at h; omega) | (dsimp only; omega))))) (tbX_f t2 r3 (by intro c k h; first | omega | (dsimp only at h ⊢; omega) | (dsimp only at h; omega) | (dsimp only; omega))) (px_f p2 r3 (by intro c k h; first | omega | (dsimp only at h ⊢; omega) | (dsimp only at h; omega) | (dsimp only; omega))) (fun _ => s3)⟩
          · rw [if_neg hR]
            rw [t_bF hR] at hP
            refine ⟨fun _ => ⟨_, rfl, ?_⟩, fun z => absurd rfl z⟩
            have := hP S2 (fr_t (fr_m r1 (by intro c k h; first | omega | (dsimp only at h ⊢; omega) | (dsimp only at h; omega) | (dsimp only; omega))) r2) t2 p2 (fun z => absurd z hR)
            rw [if_neg hR] at this
            exact this
        · have k6 : ¬ k < 6 := fun z => c3 (nI_lt (b := 6) z (by decide))
          rw [if_neg k6] at hP
          exact ⟨_, rfl, hP S (fr_r _ S) ha.1 ha.2.1 (fun z => by cases z)⟩
      · have n45 : ¬ t_tk b N p = (4, 45) := fun z => c2 (congrArg nI ((t_v_s (c := 45) (by decide)).mpr z))
        rw [if_neg n45] at hP
        refine ⟨fun c3 => ?_, fun c3 => ?_⟩
        · have n40 : ¬ t_tk b N p = (4, 40) := fun z => c3 (congrArg nI ((t_v_s (c := 40) (by decide)).mpr z))
          rw [if_neg n40] at hP
          exact ⟨_, rfl, hP S (fr_r _ S) ha.1 ha.2.1 (fun z => by cases z)⟩
        · have c' := (t_v_s (c := 40) (by decide)).mp ((nI_eq (b := 40) (by omega) (by decide)).mp c3)
          have g := tn.2.2 (by rw [c']; decide)
          rw [if_pos c'] at hP
          refine g_X6_readOne_42 hl _ _ _ _ ?_
          unfold w_X6_readOne_42
          refine ⟨fun c4 => ?_, fun c4 => ?_⟩
          · have k6 : k < 6 := (nI_ltI (b := 6) (by omega) (by omega)).mp c4
            rw [if_pos k6] at hP
            repeat (first | ((with_reducible apply ap_rc); rfl) | ((with_reducible apply ap_nn)) | ((with_reducible apply ap_rR); rfl) | ((with_reducible apply M_ofOrder); rfl; (exact bz_lit _); omega; (first | omega | decide)) | ((with_reducible apply M_ofRider); rfl; (exact bz_lit _); omega; (first | omega | decide)) | ((with_reducible apply ap_rI); exact kd_ord _ (by omega) _ (by decide)) | ((with_reducible apply ap_wI); exact kd_ord _ (by omega) _ (by decide)) | ((with_reducible apply ap_rI); exact kd_rid _ (by omega) _ (by decide)) | ((with_reducible apply ap_wI); exact kd_rid _ (by omega) _ (by decide)) | ((with_reducible apply ap_rc); exact (kd_clO _ (by omega)).1) | ((with_reducible apply ap_rc); exact (kd_clR _ (by omega)).1) | ((with_reducible apply ap_rc); exact (kd_clR _ (by omega)).2.2.1) | ((with_reducible apply ap_rR); exact (kd_ridA _ (by omega)).1) | ((with_reducible apply ap_rN); rfl) | ((with_reducible apply M_in)) | ((with_reducible apply X_isWithin)) | ((with_reducible apply ap_rI); rfl) | ((with_reducible apply ap_wI); rfl) | ((with_reducible apply ap_iA); rfl; (try simp only [bz_lit, pk_mul, nI_add]); rfl; omega) | ((with_reducible apply ap_iW); rfl; (try simp only [bz_lit, pk_mul, nI_add]); rfl; omega))
            refine X_adp hN hb hp ha (by omega) (fun S1 r1 a1 => ?_)
            refine ⟨fun _ => ?_, fun c5 => absurd c5 c2⟩
            rw [← nI_succ]
            repeat (first | ((with_reducible apply ap_rc); rfl) | ((with_reducible apply ap_nn)) | ((with_reducible apply ap_rR); rfl) | ((with_reducible apply M_ofOrder); rfl; (exact bz_lit _); omega; (first | omega | decide)) | ((with_reducible apply M_ofRider); rfl; (exact bz_lit _); omega; (first | omega | decide)) | ((with_reducible apply ap_rI); exact kd_ord _ (by omega) _ (by decide)) | ((with_reducible apply ap_wI); exact kd_ord _ (by omega) _ (by decide)) | ((with_reducible apply ap_rI); exact kd_rid _ (by omega) _ (by decide)) | ((with_reducible apply ap_wI); exact kd_rid _ (by omega) _ (by decide)) | ((with_reducible apply ap_rc); exact (kd_clO _ (by omega)).1) | ((with_reducible apply ap_rc); exact (kd_clR _ (by omega)).1) | ((with_reducible apply ap_rc); exact (kd_clR _ (by omega)).2.2.1) | ((with_reducible apply ap_rR); exact (kd_ridA _ (by omega)).1) | ((with_reducible apply ap_rN); rfl) | ((with_reducible apply M_in)) | ((with_reducible apply X_isWithin)) | ((with_reducible apply ap_rI); rfl) | ((with_reducible apply ap_wI); rfl) | ((with_reducible apply ap_iA); rfl; (try simp only [bz_lit, pk_mul, nI_add]); rfl; omega) | ((with_reducible apply ap_iW); rfl; (try simp only [bz_lit, pk_mul, nI_add]); rfl; omega))
            refine h0 G l E d' S1 (k + 1) (t_nx b N p) st _ a1 (by omega) tn.2.1 (by omega) (by omega) (by omega) (fun S2 r2 t2 p2 s2 => ?_)
            have gg := t_p_i b N f 0 (k + 1) (t_nx b N p) st (by omega) tn.2.1
            generalize t_p b N f 0 (k + 1) (t_nx b N p) st = R1 at *
            by_cases hR : R1.1 = true
            · rw [if_pos hR]
              rw [t_bT hR] at hP
              obtain ⟨q1, q2, q3, q4, -, -⟩ := gg hR
              have q3' := q3 (by decide) (by decide)
              refine ⟨fun z => absurd z (by decide), fun _ => ?_⟩
              have tv2 := t_v_b b N R1.2.1
              repeat (first | ((with_reducible apply ap_rc); rfl) | ((with_reducible apply ap_nn)) | ((with_reducible apply ap_rR); rfl) | ((with_reducible apply M_ofOrder); rfl; (exact bz_lit _); omega; (first | omega | decide)) | ((with_reducible apply M_ofRider); rfl; (exact bz_lit _); omega; (first | omega | decide)) | ((with_reducible apply ap_rI); exact kd_ord _ (by omega) _ (by decide)) | ((with_reducible apply ap_wI); exact kd_ord _ (by omega) _ (by decide)) | ((with_reducible apply ap_rI); exact kd_rid _ (by omega) _ (by decide)) | ((with_reducible apply ap_wI); exact kd_rid _ (by omega) _ (by decide)) | ((with_reducible apply ap_rc); exact (kd_clO _ (by omega)).1) | ((with_reducible apply ap_rc); exact (kd_clR _ (by omega)).1) | ((with_reducible apply ap_rc); exact (kd_clR _ (by omega)).2.2.1) | ((with_reducible apply ap_rR); exact (kd_ridA _ (by omega)).1) | ((with_reducible apply ap_rN); rfl) | ((with_reducible apply M_in)) | ((with_reducible apply X_isWithin)) | ((with_reducible apply ap_rI); rfl) | ((with_reducible apply ap_wI); rfl) | ((with_reducible apply ap_iA); rfl; (try simp only [bz_lit, pk_mul, nI_add]); rfl; omega) | ((with_reducible apply ap_iW); rfl; (try simp only [bz_lit, pk_mul, nI_add]); rfl; omega))
              rw [px_t p2]
              refine ⟨fun c5 => ?_, fun c5 => ?_⟩
              · have c41 := (t_v_s (c := 41) (by decide)).mp ((nI_eq (b := 41) (by omega) (by decide)).mp c5)
                rw [if_pos c41] at hP
                repeat (first | ((with_reducible apply ap_rc); rfl) | ((with_reducible apply ap_nn)) | ((with_reducible apply ap_rR); rfl) | ((with_reducible apply M_ofOrder); rfl; (exact bz_lit _); omega; (first | omega | decide)) | ((with_reducible apply M_ofRider); rfl; (exact bz_lit _); omega; (first | omega | decide)) | ((with_reducible apply ap_rI); exact kd_ord _ (by omega) _ (by decide)) | ((with_reducible apply ap_wI); exact kd_ord _ (by omega) _ (by decide)) | ((with_reducible apply ap_rI); exact kd_rid _ (by omega) _ (by decide)) | ((with_reducible apply ap_wI); exact kd_rid _ (by omega) _ (by decide)) | ((with_reducible apply ap_rc); exact (kd_clO _ (by omega)).1) | ((with_reducible apply ap_rc); exact (kd_clR _ (by omega)).1) | ((with_reducible apply ap_rc); exact (kd_clR _ (by omega)).2.2.1) | ((with_reducible apply ap_rR); exact (kd_ridA _ (by omega)).1) | ((with_reducible apply ap_rN); rfl) | ((with_reducible apply M_in)) | ((with_reducible apply X_isWithin)) | ((with_reducible apply ap_rI); rfl) | ((with_reducible apply ap_wI); rfl) | ((with_reducible apply ap_iA); rfl; (try simp only [bz_lit, pk_mul, nI_add]); rfl; omega) | ((with_reducible apply ap_iW); rfl; (try simp only [bz_lit, pk_mul, nI_add]); rfl; omega))
                refine X_adp hN hb q2 ⟨t2, p2, s2 hR⟩ (by omega) (fun S3 r3 a3 => ?_)
                exact ⟨_, rfl, hP S3 (fr_t (fr_m r1 (by intro c k h; first | omega | (dsimp only at h ⊢; omega) | (dsimp only at h; omega) | (dsimp only; omega))) (fr_t r2 (fr_m r3 (by intro c k h; first | omega | (dsimp only at h ⊢; omega) | (dsimp only at h; omega) | (dsimp only; omega))))) a3.1 a3.2.1 (fun _ => a3.2.2)⟩
              · have n41 : ¬ t_tk b N R1.2.1 = (4, 41) := fun z => c5 (congrArg nI ((t_v_s (c := 41) (by decide)).mpr z))
                rw [if_neg n41] at hP
                exact ⟨_, rfl, hP S2 (fr_t (fr_m r1 (by intro c k h; first | omega | (dsimp only at h ⊢; omega) | (dsimp only at h; omega) | (dsimp only; omega))) r2) t2 p2 (fun z => by cases z)⟩
            · rw [if_neg hR]
              rw [t_bF hR] at hP
              refine ⟨fun _ => ⟨_, rfl, ?_⟩, fun z => absurd rfl z⟩
              have := hP S2 (fr_t (fr_m r1 (by intro c k h; first | omega | (dsimp only at h ⊢; omega) | (dsimp only at h; omega) | (dsimp only; omega))) r2) t2 p2 (fun z => absurd z hR)
              rw [if_neg hR] at this
              exact this
          · have k6 : ¬ k < 6 := fun z => c4 (nI_lt (b := 6) z (by decide))
            rw [if_neg k6] at hP
            exact ⟨_, rfl, hP S (fr_r _ S) ha.1 ha.2.1 (fun z => by cases z)⟩
    · have c' := (t_v_n (c := 3) (by decide)).mp ((nI_eq (b := 3) (by omega) (by decide)).mp c1)
      exact take (Or.inr c')
/-- the rest of a term -/
theorem X_rest_term {b : Nat → Nat} {N f : Nat} (hN : N ≤ 80) (hb : ∀ j, b j < 256) (hi : spX b N f 5 6 2 kX6_readOne) (hr : lpX b N f 4 6 5 kX6_readTerm) : lpX b N (f + 1) 4 6 5 kX6_readTerm := by
  intro G l E d κ bc bs S k p st i u4 P hl ha hlen hp hip hf hk hd hP
  refine g_X6_readTerm_8 hl _ _ _ _ _ _ ?_
  unfold w_X6_readTerm_8
  rw [t_p] at hP
  have tn := t_nx_b (b := b) hp
  have tv := t_v_b b N p
  have hpx := px_t ha.2.1
  have stop : (¬ (t_tk b N p = (4, 42) ∨ t_tk b N p = (4, 47))) → ((1 : Int32) = 0 ∨ (1 : Int32) = 1) ∧ ∃ x, (some (.inl 1) : Option bz_V) = some (.inl x) ∧ P x (bz_hp E S) := by
    intro hn
    rw [if_neg hn] at hP
    exact ⟨Or.inr rfl, _, rfl, hP S (fr_r _ S) ha.1 ha.2.1 (fun _ => ha.2.2)⟩
  have go : ∀ (x : Int32) (hx : x = nI (t_tk b N p).2) (hc : t_tk b N p = (4, 42) ∨ t_tk b N p = (4, 47)) (hi80 : i < 80), (bz_cV G l d kX6_advance [.inr (some 162)] (bz_hp E S) 0 0 (fun h_6 => bz_rc h_6 162 6 (bz_cI G l d kX6_readOne [.inr (some 162), .inl (nI k)] h_6 0 0 (fun x_7 h_8 => (x_7 = 0 → bz_J G κ kX6_readTerm (d + 1) (fun v h' => ∃ x, v = some (.inl x) ∧ P x h') bc bs 8 [some (.inr (some 162)), some (.inl (nI k)), some (.inl 0), some (.inl (nI i + 1)), some (.inl x)] [] h_8) ∧ (¬ (x_7 = 0) → bz_rc h_8 162 6 (bz_cI G l d kX6_putStep [.inr (some 162), .inl (10007 + x)] h_8 0 0 (fun x_9 h_10 => bz_J G κ kX6_readTerm (d + 1) (fun v h' => ∃ x, v = some (.inl x) ∧ P x h') bc bs 8 [some (.inr (some 162)), some (.inl (nI k)), some (.inl (if x_9 = 0 then 0 else 1)), some (.inl (nI i + 1)), some (.inl x)] [] h_10))))))) := by
    intro x hx hc hi80
    rw [if_pos hc] at hP
    have g := tn.2.2 (t_sgc hc).1
    have sc := (t_sgc hc).2
    refine X_adp hN hb hp ha (by omega) (fun S1 r1 a1 => ?_)
    repeat (first | ((with_reducible apply ap_rc); rfl) | ((with_reducible apply ap_nn)) | ((with_reducible apply ap_rR); rfl) | ((with_reducible apply M_ofOrder); rfl; (exact bz_lit _); omega; (first | omega | decide)) | ((with_reducible apply M_ofRider); rfl; (exact bz_lit _); omega; (first | omega | decide)) | ((with_reducible apply ap_rI); exact kd_ord _ (by omega) _ (by decide)) | ((with_reducible apply ap_wI); exact kd_ord _ (by omega) _ (by decide)) | ((with_reducible apply ap_rI); exact kd_rid _ (by omega) _ (by decide)) | ((with_reducible apply ap_wI); exact kd_rid _ (by omega) _ (by decide)) | ((with_reducible apply ap_rc); exact (kd_clO _ (by omega)).1) | ((with_reducible apply ap_rc); exact (kd_clR _ (by omega)).1) | ((with_reducible apply ap_rc); exact (kd_clR _ (by omega)).2.2.1) | ((with_reducible apply ap_rR); exact (kd_ridA _ (by omega)).1) | ((with_reducible apply ap_rN); rfl) | ((with_reducible apply M_in)) | ((with_reducible apply X_isWithin)) | ((with_reducible apply ap_rI); rfl) | ((with_reducible apply ap_wI); rfl) | ((with_reducible apply ap_iA); rfl; (try simp only [bz_lit, pk_mul, nI_add]); rfl; omega) | ((with_reducible apply ap_iW); rfl; (try simp only [bz_lit, pk_mul, nI_add]); rfl; omega))
    refine hi G l E d S1 k (t_nx b N p) st _ a1 (by omega) tn.2.1 (by omega) hk (by omega) (fun S2 r2 t2 p2 s2 => ?_)
    have gg := t_p_i b N f 5 k (t_nx b N p) st (by omega) tn.2.1
    generalize t_p b N f 5 k (t_nx b N p) st = R1 at *
    by_cases hR : R1.1 = true
    · rw [if_pos hR]
      rw [t_bT hR] at hP
      obtain ⟨q1, q2, q3, q4, -, -⟩ := gg hR
      have q3' := q3 (by decide) (by decide)
      refine ⟨fun z => absurd z (by decide), fun _ => ?_⟩
      obtain ⟨d2, hd2⟩ : ∃ d2, d = d2 + 1 := ⟨d - 1, by omega⟩
      repeat (first | ((with_reducible apply ap_rc); rfl) | ((with_reducible apply ap_nn)) | ((with_reducible apply ap_rR); rfl) | ((with_reducible apply M_ofOrder); rfl; (exact bz_lit _); omega; (first | omega | decide)) | ((with_reducible apply M_ofRider); rfl; (exact bz_lit _); omega; (first | omega | decide)) | ((with_reducible apply ap_rI); exact kd_ord _ (by omega) _ (by decide)) | ((with_reducible apply ap_wI); exact kd_ord _ (by omega) _ (by decide)) | ((with_reducible apply ap_rI); exact kd_rid _ (by omega) _ (by decide)) | ((with_reducible apply ap_wI); exact kd_rid _ (by omega) _ (by decide)) | ((with_reducible apply ap_rc); exact (kd_clO _ (by omega)).1) | ((with_reducible apply ap_rc); exact (kd_clR _ (by omega)).1) | ((with_reducible apply ap_rc); exact (kd_clR _ (by omega)).2.2.1) | ((with_reducible apply ap_rR); exact (kd_ridA _ (by omega)).1) | ((with_reducible apply ap_rN); rfl) | ((with_reducible apply M_in)) | ((with_reducible apply X_isWithin)) | ((with_reducible apply ap_rI); rfl) | ((with_reducible apply ap_wI); rfl) | ((with_reducible apply ap_iA); rfl; (try simp only [bz_lit, pk_mul, nI_add]); rfl; omega) | ((with_reducible apply ap_iW); rfl; (try simp only [bz_lit, pk_mul, nI_add]); rfl; omega))
      rw [hd2]
      refine X_putStep (c := 10007 + (t_tk b N p).2) (by rw [hx, show (10007 : Int32) = nI 10007 from rfl, nI_add]) (s2 hR) (by omega) (fun S3 r3 s3 => ?_)
      rw [← hd2, if_neg (by decide : ¬ (1 : Int32) = 0), ← nI_succ]
      refine hr G l E d κ bc bs S3 k R1.2.1 _ (i + 1) _ P hl ⟨tbX_f t2 r3 (by intro c k h; first | omega | (dsimp only at h ⊢; omega) | (dsimp only at h; omega) | (dsimp only; omega)), px_f p2 r3 (by intro c k h; first | omega | (dsimp only at h ⊢; omega) | (dsimp only at h; omega) | (dsimp only; omega)), s3⟩ ?_ q2 (by omega) (by omega) hk hd (fun S4 r4 t4 p4 s4 => hP S4 (fr_t (fr_m r1 (by intro c k h; first | omega | (dsimp only at h ⊢; omega) | (dsimp only at h; omega) | (dsimp only; omega))) (fr_t r2 (fr_t (fr_m r3 (by intro c k h; first | omega | (dsimp only at h ⊢; omega) | (dsimp only at h; omega) | (dsimp only; omega))) r4))) t4 p4 s4)
      rw [List.length_append]
      simp only [List.length_cons, List.length_nil]
      omega
    · rw [if_neg hR]
      rw [t_bF hR] at hP
      refine ⟨fun _ => ?_, fun z => absurd rfl z⟩
      refine g_X6_readTerm_8 hl _ _ _ _ _ _ ?_
      unfold w_X6_readTerm_8
      have := hP S2 (fr_t (fr_m r1 (by intro c k h; first | omega | (dsimp only at h ⊢; omega) | (dsimp only at h; omega) | (dsimp only; omega))) r2) t2 p2 (fun z => absurd z hR)
      rw [if_neg hR] at this
      exact ⟨fun _ => ⟨Or.inl rfl, _, rfl, this⟩, fun _ => ⟨fun _ => ⟨Or.inl rfl, _, rfl, this⟩, fun z => absurd rfl z⟩⟩
  refine ⟨fun c => ?_, fun c => ⟨fun z => absurd z (by decide), fun _ => ?_⟩⟩
  · have c' : 80 ≤ i := (nI_leI (a := 80) (by omega) (by omega)).mp c
    refine stop (fun hc => ?_)
    have := (tn.2.2 (t_sgc hc).1).2
    omega
  · have c' : i < 80 := by
      rcases Nat.lt_or_ge i 80 with z | z
      · exact z
      · exact absurd (nI_le (a := 80) z (by omega)) c
    repeat (first | ((with_reducible apply ap_rc); rfl) | ((with_reducible apply ap_nn)) | ((with_reducible apply ap_rR); rfl) | ((with_reducible apply M_ofOrder); rfl; (exact bz_lit _); omega; (first | omega | decide)) | ((with_reducible apply M_ofRider); rfl; (exact bz_lit _); omega; (first | omega | decide)) | ((with_reducible apply ap_rI); exact kd_ord _ (by omega) _ (by decide)) | ((with_reducible apply ap_wI); exact kd_ord _ (by omega) _ (by decide)) | ((with_reducible apply ap_rI); exact kd_rid _ (by omega) _ (by decide)) | ((with_reducible apply ap_wI); exact kd_rid _ (by omega) _ (by decide)) | ((with_reducible apply ap_rc); exact (kd_clO _ (by omega)).1) | ((with_reducible apply ap_rc); exact (kd_clR _ (by omega)).1) | ((with_reducible apply ap_rc); exact (kd_clR _ (by omega)).2.2.1) | ((with_reducible apply ap_rR); exact (kd_ridA _ (by omega)).1) | ((with_reducible apply ap_rN); rfl) | ((with_reducible apply M_in)) | ((with_reducible apply X_isWithin)) | ((with_reducible apply ap_rI); rfl) | ((with_reducible apply ap_wI); rfl) | ((with_reducible apply ap_iA); rfl; (try simp only [bz_lit, pk_mul, nI_add]); rfl; omega) | ((with_reducible apply ap_iW); rfl; (try simp only [bz_lit, pk_mul, nI_add]); rfl; omega))
    rw [hpx]
    refine ⟨fun c1 => ?_, fun c1 => ?_⟩
    · have c2 := (t_v_s (c := 42) (by decide)).mp ((nI_eq (b := 42) (by omega) (by decide)).mp c1)
      repeat (first | ((with_reducible apply ap_rc); rfl) | ((with_reducible apply ap_nn)) | ((with_reducible apply ap_rR); rfl) | ((with_reducible apply M_ofOrder); rfl; (exact bz_lit _); omega; (first | omega | decide)) | ((with_reducible apply M_ofRider); rfl; (exact bz_lit _); omega; (first | omega | decide)) | ((with_reducible apply ap_rI); exact kd_ord _ (by omega) _ (by decide)) | ((with_reducible apply ap_wI); exact kd_ord _ (by omega) _ (by decide)) | ((with_reducible apply ap_rI); exact kd_rid _ (by omega) _ (by decide)) | ((with_reducible apply ap_wI); exact kd_rid _ (by omega) _ (by decide)) | ((with_reducible apply ap_rc); exact (kd_clO _ (by omega)).1) | ((with_reducible apply ap_rc); exact (kd_clR _ (by omega)).1) | ((with_reducible apply ap_rc); exact (kd_clR _ (by omega)).2.2.1) | ((with_reducible apply ap_rR); exact (kd_ridA _ (by omega)).1) | ((with_reducible apply ap_rN); rfl) | ((with_reducible apply M_in)) | ((with_reducible apply X_isWithin)) | ((with_reducible apply ap_rI); rfl) | ((with_reducible apply ap_wI); rfl) | ((with_reducible apply ap_iA); rfl; (try simp only [bz_lit, pk_mul, nI_add]); rfl; omega) | ((with_reducible apply ap_iW); rfl; (try simp only [bz_lit, pk_mul, nI_add]); rfl; omega))
      rw [hpx]
      exact go (nI (t_v b N p)) (by rw [c1, c2]; rfl) (Or.inl c2) c'
    · have n1 : ¬ t_tk b N p = (4, 42) := fun z => c1 (congrArg nI ((t_v_s (c := 42) (by decide)).mpr z))
      repeat (first | ((with_reducible apply ap_rc); rfl) | ((with_reducible apply ap_nn)) | ((with_reducible apply ap_rR); rfl) | ((with_reducible apply M_ofOrder); rfl; (exact bz_lit _); omega; (first | omega | decide)) | ((with_reducible apply M_ofRider); rfl; (exact bz_lit _); omega; (first | omega | decide)) | ((with_reducible apply ap_rI); exact kd_ord _ (by omega) _ (by decide)) | ((with_reducible apply ap_wI); exact kd_ord _ (by omega) _ (by decide)) | ((with_reducible apply ap_rI); exact kd_rid _ (by omega) _ (by decide)) | ((with_reducible apply ap_wI); exact kd_rid _ (by omega) _ (by decide)) | ((with_reducible apply ap_rc); exact (kd_clO _ (by omega)).1) | ((with_reducible apply ap_rc); exact (kd_clR _ (by omega)).1) | ((with_reducible apply ap_rc); exact (kd_clR _ (by omega)).2.2.1) | ((with_reducible apply ap_rR); exact (kd_ridA _ (by omega)).1) | ((with_reducible apply ap_rN); rfl) | ((with_reducible apply M_in)) | ((with_reducible apply X_isWithin)) | ((with_reducible apply ap_rI); rfl) | ((with_reducible apply ap_wI); rfl) | ((with_reducible apply ap_iA); rfl; (try simp only [bz_lit, pk_mul, nI_add]); rfl; omega) | ((with_reducible apply ap_iW); rfl; (try simp only [bz_lit, pk_mul, nI_add]); rfl; omega))
      rw [hpx]
      refine ⟨fun c2 => ?_, fun c2 => ?_⟩
      · have n2 : ¬ t_tk b N p = (4, 47) := fun z => c2 (congrArg nI ((t_v_s (c := 47) (by decide)).mpr z))
        exact stop (fun z => z.elim n1 n2)
      · have c3 := (t_v_s (c := 47) (by decide)).mp ((nI_eq (b := 47) (by omega) (by decide)).mp c2)
        repeat (first | ((with_reducible apply ap_rc); rfl) | ((with_reducible apply ap_nn)) | ((with_reducible apply ap_rR); rfl) | ((with_reducible apply M_ofOrder); rfl; (exact bz_lit _); omega; (first | omega | decide)) | ((with_reducible apply M_ofRider); rfl; (exact bz_lit _); omega; (first | omega | decide)) | ((with_reducible apply ap_rI); exact kd_ord _ (by omega) _ (by decide)) | ((with_reducible apply ap_wI); exact kd_ord _ (by omega) _ (by decide)) | ((with_reducible apply ap_rI); exact kd_rid _ (by omega) _ (by decide)) | ((with_reducible apply ap_wI); exact kd_rid _ (by omega) _ (by decide)) | ((with_reducible apply ap_rc); exact (kd_clO _ (by omega)).1) | ((with_reducible apply ap_rc); exact (kd_clR _ (by omega)).1) | ((with_reducible apply ap_rc); exact (kd_clR _ (by omega)).2.2.1) | ((with_reducible apply ap_rR); exact (kd_ridA _ (by omega)).1) | ((with_reducible apply ap_rN); rfl) | ((with_reducible apply M_in)) | ((with_reducible apply X_isWithin)) | ((with_reducible apply ap_rI); rfl) | ((with_reducible apply ap_wI); rfl) | ((with_reducible apply ap_iA); rfl; (try simp only [bz_lit, pk_mul, nI_add]); rfl; omega) | ((with_reducible apply ap_iW); rfl; (try simp only [bz_lit, pk_mul, nI_add]); rfl; omega))
        rw [hpx]
        exact go (nI (t_v b N p)) (by rw [c2, c3]; rfl) (Or.inr c3) c'
theorem X_term_s {b : Nat → Nat} {N f : Nat} (hN : N ≤ 80) (hi : spX b N f 5 6 2 kX6_readOne) (hr : lpX b N f 4 6 5 kX6_readTerm) : spX b N (f + 1) 3 7 3 kX6_readTerm := by
  intro G l E d S k p st P ha hlen hp hf hk hd hP
  obtain ⟨d', rfl⟩ : ∃ d', d = d' + 1 := ⟨d - 1, by omega⟩
  refine m_X6_readTerm _ _ _ (fun κ bc bs hl => ?_)
  unfold w_X6_readTerm_0
  rw [t_p] at hP
  repeat (first | ((with_reducible apply ap_rc); rfl) | ((with_reducible apply ap_nn)) | ((with_reducible apply ap_rR); rfl) | ((with_reducible apply M_ofOrder); rfl; (exact bz_lit _); omega; (first | omega | decide)) | ((with_reducible apply M_ofRider); rfl; (exact bz_lit _); omega; (first | omega | decide)) | ((with_reducible apply ap_rI); exact kd_ord _ (by omega) _ (by decide)) | ((with_reducible apply ap_wI); exact kd_ord _ (by omega) _ (by decide)) | ((with_reducible apply ap_rI); exact kd_rid _ (by omega) _ (by decide)) | ((with_reducible apply ap_wI); exact kd_rid _ (by omega) _ (by decide)) | ((with_reducible apply ap_rc); exact (kd_clO _ (by omega)).1) | ((with_reducible apply ap_rc); exact (kd_clR _ (by omega)).1) | ((with_reducible apply ap_rc); exact (kd_clR _ (by omega)).2.2.1) | ((with_reducible apply ap_rR); exact (kd_ridA _ (by omega)).1) | ((with_reducible apply ap_rN); rfl) | ((with_reducible apply M_in)) | ((with_reducible apply X_isWithin)) | ((with_reducible apply ap_rI); rfl) | ((with_reducible apply ap_wI); rfl) | ((with_reducible apply ap_iA); rfl; (try simp only [bz_lit, pk_mul, nI_add]); rfl; omega) | ((with_reducible apply ap_iW); rfl; (try simp only [bz_lit, pk_mul, nI_add]); rfl; omega))
  refine hi G l E d' S k p st _ ha hlen hp (by omega) hk (by omega) (fun S1 r1 t1 p1 s1 => ?_)
  have gg := t_p_i b N f 5 k p st (by omega) hp
  generalize t_p b N f 5 k p st = R1 at *
  by_cases hR : R1.1 = true
  · rw [if_pos hR]
    rw [t_bT hR] at hP
    obtain ⟨q1, q2, q3, q4, -, -⟩ := gg hR
    have q3' := q3 (by decide) (by decide)
    exact hr G l E d' κ bc bs S1 k R1.2.1 R1.2.2 0 _ P hl ⟨t1, p1, s1 hR⟩ (by omega) q2 (by omega) (by omega) hk (by omega) (fun S2 r2 t2 p2 s2 => hP S2 (fr_t r1 r2) t2 p2 s2)
  · rw [if_neg hR]
    rw [t_bF hR] at hP
    refine g_X6_readTerm_8 hl _ _ _ _ _ _ ?_
    unfold w_X6_readTerm_8
    have := hP S1 r1 t1 p1 (fun z => absurd z hR)
    rw [if_neg hR] at this
    exact ⟨fun _ => ⟨Or.inl rfl, _, rfl, this⟩, fun _ => ⟨fun _ => ⟨Or.inl rfl, _, rfl, this⟩, fun z => absurd rfl z⟩⟩
/-- the rest of a sum -/
theorem X_rest_sum {b : Nat → Nat} {N f : Nat} (hN : N ≤ 80) (hb : ∀ j, b j < 256) (hi : spX b N f 3 7 3 kX6_readTerm) (hr : lpX b N f 2 7 5 kX6_readSum) : lpX b N (f + 1) 2 7 5 kX6_readSum := by
  intro G l E d κ bc bs S k p st i u4 P hl ha hlen hp hip hf hk hd hP
  refine g_X6_readSum_8 hl _ _ _ _ _ _ ?_
  unfold w_X6_readSum_8
  rw [t_p] at hP
  have tn := t_nx_b (b := b) hp
  have tv := t_v_b b N p
  have hpx := px_t ha.2.1
  have stop : (¬ (t_tk b N p = (4, 43) ∨ t_tk b N p = (4, 45))) → ((1 : Int32) = 0 ∨ (1 : Int32) = 1) ∧ ∃ x, (some (.inl 1) : Option bz_V) = some (.inl x) ∧ P x (bz_hp E S) := by
    intro hn
    rw [if_neg hn] at hP
    exact ⟨Or.inr rfl, _, rfl, hP S (fr_r _ S) ha.1 ha.2.1 (fun _ => ha.2.2)⟩
  have go : ∀ (x : Int32) (hx : x = nI (t_tk b N p).2) (hc : t_tk b N p = (4, 43) ∨ t_tk b N p = (4, 45)) (hi80 : i < 80), (bz_cV G l d kX6_advance [.inr (some 162)] (bz_hp E S) 0 0 (fun h_6 => bz_rc h_6 162 6 (bz_cI G l d kX6_readTerm [.inr (some 162), .inl (nI k)] h_6 0 0 (fun x_7 h_8 => (x_7 = 0 → bz_J G κ kX6_readSum (d + 1) (fun v h' => ∃ x, v = some (.inl x) ∧ P x h') bc bs 8 [some (.inr (some 162)), some (.inl (nI k)), some (.inl 0), some (.inl (nI i + 1)), some (.inl x)] [] h_8) ∧ (¬ (x_7 = 0) → bz_rc h_8 162 6 (bz_cI G l d kX6_putStep [.inr (some 162), .inl (10007 + x)] h_8 0 0 (fun x_9 h_10 => bz_J G κ kX6_readSum (d + 1) (fun v h' => ∃ x, v = some (.inl x) ∧ P x h') bc bs 8 [some (.inr (some 162)), some (.inl (nI k)), some (.inl (if x_9 = 0 then 0 else 1)), some (.inl (nI i + 1)), some (.inl x)] [] h_10))))))) := by
    intro x hx hc hi80
    rw [if_pos hc] at hP
    have g := tn.2.2 (t_sgc hc).1
    have sc := (t_sgc hc).2
    refine X_adp hN hb hp ha (by omega) (fun S1 r1 a1 => ?_)
    repeat (first | ((with_reducible apply ap_rc); rfl) | ((with_reducible apply ap_nn)) | ((with_reducible apply ap_rR); rfl) | ((with_reducible apply M_ofOrder); rfl; (exact bz_lit _); omega; (first | omega | decide)) | ((with_reducible apply M_ofRider); rfl; (exact bz_lit _); omega; (first | omega | decide)) | ((with_reducible apply ap_rI); exact kd_ord _ (by omega) _ (by decide)) | ((with_reducible apply ap_wI); exact kd_ord _ (by omega) _ (by decide)) | ((with_reducible apply ap_rI); exact kd_rid _ (by omega) _ (by decide)) | ((with_reducible apply ap_wI); exact kd_rid _ (by omega) _ (by decide)) | ((with_reducible apply ap_rc); exact (kd_clO _ (by omega)).1) | ((with_reducible apply ap_rc); exact (kd_clR _ (by omega)).1) | ((with_reducible apply ap_rc); exact (kd_clR _ (by omega)).2.2.1) | ((with_reducible apply ap_rR); exact (kd_ridA _ (by omega)).1) | ((with_reducible apply ap_rN); rfl) | ((with_reducible apply M_in)) | ((with_reducible apply X_isWithin)) | ((with_reducible apply ap_rI); rfl) | ((with_reducible apply ap_wI); rfl) | ((with_reducible apply ap_iA); rfl; (try simp only [bz_lit, pk_mul, nI_add]); rfl; omega) | ((with_reducible apply ap_iW); rfl; (try simp only [bz_lit, pk_mul, nI_add]); rfl; omega))
    refine hi G l E d S1 k (t_nx b N p) st _ a1 (by omega) tn.2.1 (by omega) hk (by omega) (fun S2 r2 t2 p2 s2 => ?_)
    have gg := t_p_i b N f 3 k (t_nx b N p) st (by omega) tn.2.1
    generalize t_p b N f 3 k (t_nx b N p) st = R1 at *
    by_cases hR : R1.1 = true
    · rw [if_pos hR]
      rw [t_bT hR] at hP
      obtain ⟨q1, q2, q3, q4, -, -⟩ := gg hR
      have q3' := q3 (by decide) (by decide)
      refine ⟨fun z => absurd z (by decide), fun _ => ?_⟩
      obtain ⟨d2, hd2⟩ : ∃ d2, d = d2 + 1 := ⟨d - 1, by omega⟩
      repeat (first | ((with_reducible apply ap_rc); rfl) | ((with_reducible apply ap_nn)) | ((with_reducible apply ap_rR); rfl) | ((with_reducible apply M_ofOrder); rfl; (exact bz_lit _); omega; (first | omega | decide)) | ((with_reducible apply M_ofRider); rfl; (exact bz_lit _); omega; (first | omega | decide)) | ((with_reducible apply ap_rI); exact kd_ord _ (by omega) _ (by decide)) | ((with_reducible apply ap_wI); exact kd_ord _ (by omega) _ (by decide)) | ((with_reducible apply ap_rI); exact kd_rid _ (by omega) _ (by decide)) | ((with_reducible apply ap_wI); exact kd_rid _ (by omega) _ (by decide)) | ((with_reducible apply ap_rc); exact (kd_clO _ (by omega)).1) | ((with_reducible apply ap_rc); exact (kd_clR _ (by omega)).1) | ((with_reducible apply ap_rc); exact (kd_clR _ (by omega)).2.2.1) | ((with_reducible apply ap_rR); exact (kd_ridA _ (by omega)).1) | ((with_reducible apply ap_rN); rfl) | ((with_reducible apply M_in)) | ((with_reducible apply X_isWithin)) | ((with_reducible apply ap_rI); rfl) | ((with_reducible apply ap_wI); rfl) | ((with_reducible apply ap_iA); rfl; (try simp only [bz_lit, pk_mul, nI_add]); rfl; omega) | ((with_reducible apply ap_iW); rfl; (try simp only [bz_lit, pk_mul, nI_add]); rfl; omega))
      rw [hd2]
      refine X_putStep (c := 10007 + (t_tk b N p).2) (by rw [hx, show (10007 : Int32) = nI 10007 from rfl, nI_add]) (s2 hR) (by omega) (fun S3 r3 s3 => ?_)
      rw [← hd2, if_neg (by decide : ¬ (1 : Int32) = 0), ← nI_succ]
      refine hr G l E d κ bc bs S3 k R1.2.1 _ (i + 1) _ P hl ⟨tbX_f t2 r3 (by intro c k h; first | omega | (dsimp only at h ⊢; omega) | (dsimp only at h; omega) | (dsimp only; omega)), px_f p2 r3 (by intro c k h; first | omega | (dsimp only at h ⊢; omega) | (dsimp only at h; omega) | (dsimp only; omega)), s3⟩ ?_ q2 (by omega) (by omega) hk hd (fun S4 r4 t4 p4 s4 => hP S4 (fr_t (fr_m r1 (by intro c k h; first | omega | (dsimp only at h ⊢; omega) | (dsimp only at h; omega) | (dsimp only; omega))) (fr_t r2 (fr_t (fr_m r3 (by intro c k h; first | omega | (dsimp only at h ⊢; omega) | (dsimp only at h; omega) | (dsimp only; omega))) r4))) t4 p4 s4)
      rw [List.length_append]
      simp only [List.length_cons, List.length_nil]
      omega
    · rw [if_neg hR]
      rw [t_bF hR] at hP
      refine ⟨fun _ => ?_, fun z => absurd rfl z⟩
      refine g_X6_readSum_8 hl _ _ _ _ _ _ ?_
      unfold w_X6_readSum_8
      have := hP S2 (fr_t (fr_m r1 (by intro c k h; first | omega | (dsimp only at h ⊢; omega) | (dsimp only at h; omega) | (dsimp only; omega))) r2) t2 p2 (fun z => absurd z hR)
      rw [if_neg hR] at this
      exact ⟨fun _ => ⟨Or.inl rfl, _, rfl, this⟩, fun _ => ⟨fun _ => ⟨Or.inl rfl, _, rfl, this⟩, fun z => absurd rfl z⟩⟩
  refine ⟨fun c => ?_, fun c => ⟨fun z => absurd z (by decide), fun _ => ?_⟩⟩
  · have c' : 80 ≤ i := (nI_leI (a := 80) (by omega) (by omega)).mp c
    refine stop (fun hc => ?_)
    have := (tn.2.2 (t_sgc hc).1).2
    omega
  · have c' : i < 80 := by
      rcases Nat.lt_or_ge i 80 with z | z
      · exact z
      · exact absurd (nI_le (a := 80) z (by omega)) c
    repeat (first | ((with_reducible apply ap_rc); rfl) | ((with_reducible apply ap_nn)) | ((with_reducible apply ap_rR); rfl) | ((with_reducible apply M_ofOrder); rfl; (exact bz_lit _); omega; (first | omega | decide)) | ((with_reducible apply M_ofRider); rfl; (exact bz_lit _); omega; (first | omega | decide)) | ((with_reducible apply ap_rI); exact kd_ord _ (by omega) _ (by decide)) | ((with_reducible apply ap_wI); exact kd_ord _ (by omega) _ (by decide)) | ((with_reducible apply ap_rI); exact kd_rid _ (by omega) _ (by decide)) | ((with_reducible apply ap_wI); exact kd_rid _ (by omega) _ (by decide)) | ((with_reducible apply ap_rc); exact (kd_clO _ (by omega)).1) | ((with_reducible apply ap_rc); exact (kd_clR _ (by omega)).1) | ((with_reducible apply ap_rc); exact (kd_clR _ (by omega)).2.2.1) | ((with_reducible apply ap_rR); exact (kd_ridA _ (by omega)).1) | ((with_reducible apply ap_rN); rfl) | ((with_reducible apply M_in)) | ((with_reducible apply X_isWithin)) | ((with_reducible apply ap_rI); rfl) | ((with_reducible apply ap_wI); rfl) | ((with_reducible apply ap_iA); rfl; (try simp only [bz_lit, pk_mul, nI_add]); rfl; omega) | ((with_reducible apply ap_iW); rfl; (try simp only [bz_lit, pk_mul, nI_add]); rfl; omega))
    rw [hpx]
    refine ⟨fun c1 => ?_, fun c1 => ?_⟩
    · have c2 := (t_v_s (c := 43) (by decide)).mp ((nI_eq (b := 43) (by omega) (by decide)).mp c1)
      repeat (first | ((with_reducible apply ap_rc); rfl) | ((with_reducible apply ap_nn)) | ((with_reducible apply ap_rR); rfl) | ((with_reducible apply M_ofOrder); rfl; (exact bz_lit _); omega; (first | omega | decide)) | ((with_reducible apply M_ofRider); rfl; (exact bz_lit _); omega; (first | omega | decide)) | ((with_reducible apply ap_rI); exact kd_ord _ (by omega) _ (by decide)) | ((with_reducible apply ap_wI); exact kd_ord _ (by omega) _ (by decide)) | ((with_reducible apply ap_rI); exact kd_rid _ (by omega) _ (by decide)) | ((with_reducible apply ap_wI); exact kd_rid _ (by omega) _ (by decide)) | ((with_reducible apply ap_rc); exact (kd_clO _ (by omega)).1) | ((with_reducible apply ap_rc); exact (kd_clR _ (by omega)).1) | ((with_reducible apply ap_rc); exact (kd_clR _ (by omega)).2.2.1) | ((with_reducible apply ap_rR); exact (kd_ridA _ (by omega)).1) | ((with_reducible apply ap_rN); rfl) | ((with_reducible apply M_in)) | ((with_reducible apply X_isWithin)) | ((with_reducible apply ap_rI); rfl) | ((with_reducible apply ap_wI); rfl) | ((with_reducible apply ap_iA); rfl; (try simp only [bz_lit, pk_mul, nI_add]); rfl; omega) | ((with_reducible apply ap_iW); rfl; (try simp only [bz_lit, pk_mul, nI_add]); rfl; omega))
      rw [hpx]
      exact go (nI (t_v b N p)) (by rw [c1, c2]; rfl) (Or.inl c2) c'
    · have n1 : ¬ t_tk b N p = (4, 43) := fun z => c1 (congrArg nI ((t_v_s (c := 43) (by decide)).mpr z))
      repeat (first | ((with_reducible apply ap_rc); rfl) | ((with_reducible apply ap_nn)) | ((with_reducible apply ap_rR); rfl) | ((with_reducible apply M_ofOrder); rfl; (exact bz_lit _); omega; (first | omega | decide)) | ((with_reducible apply M_ofRider); rfl; (exact bz_lit _); omega; (first | omega | decide)) | ((with_reducible apply ap_rI); exact kd_ord _ (by omega) _ (by decide)) | ((with_reducible apply ap_wI); exact kd_ord _ (by omega) _ (by decide)) | ((with_reducible apply ap_rI); exact kd_rid _ (by omega) _ (by decide)) | ((with_reducible apply ap_wI); exact kd_rid _ (by omega) _ (by decide)) | ((with_reducible apply ap_rc); exact (kd_clO _ (by omega)).1) | ((with_reducible apply ap_rc); exact (kd_clR _ (by omega)).1) | ((with_reducible apply ap_rc); exact (kd_clR _ (by omega)).2.2.1) | ((with_reducible apply ap_rR); exact (kd_ridA _ (by omega)).1) | ((with_reducible apply ap_rN); rfl) | ((with_reducible apply M_in)) | ((with_reducible apply X_isWithin)) | ((with_reducible apply ap_rI); rfl) | ((with_reducible apply ap_wI); rfl) | ((with_reducible apply ap_iA); rfl; (try simp only [bz_lit, pk_mul, nI_add]); rfl; omega) | ((with_reducible apply ap_iW); rfl; (try simp only [bz_lit, pk_mul, nI_add]); rfl; omega))
      rw [hpx]
      refine ⟨fun c2 => ?_, fun c2 => ?_⟩
      · have n2 : ¬ t_tk b N p = (4, 45) := fun z => c2 (congrArg nI ((t_v_s (c := 45) (by decide)).mpr z))
        exact stop (fun z => z.elim n1 n2)
      · have c3 := (t_v_s (c := 45) (by decide)).mp ((nI_eq (b := 45) (by omega) (by decide)).mp c2)
        repeat (first | ((with_reducible apply ap_rc); rfl) | ((with_reducible apply ap_nn)) | ((with_reducible apply ap_rR); rfl) | ((with_reducible apply M_ofOrder); rfl; (exact bz_lit _); omega; (first | omega | decide)) | ((with_reducible apply M_ofRider); rfl; (exact bz_lit _); omega; (first | omega | decide)) | ((with_reducible apply ap_rI); exact kd_ord _ (by omega) _ (by decide)) | ((with_reducible apply ap_wI); exact kd_ord _ (by omega) _ (by decide)) | ((with_reducible apply ap_rI); exact kd_rid _ (by omega) _ (by decide)) | ((with_reducible apply ap_wI); exact kd_rid _ (by omega) _ (by decide)) | ((with_reducible apply ap_rc); exact (kd_clO _ (by omega)).1) | ((with_reducible apply ap_rc); exact (kd_clR _ (by omega)).1) | ((with_reducible apply ap_rc); exact (kd_clR _ (by omega)).2.2.1) | ((with_reducible apply ap_rR); exact (kd_ridA _ (by omega)).1) | ((with_reducible apply ap_rN); rfl) | ((with_reducible apply M_in)) | ((with_reducible apply X_isWithin)) | ((with_reducible apply ap_rI); rfl) | ((with_reducible apply ap_wI); rfl) | ((with_reducible apply ap_iA); rfl; (try simp only [bz_lit, pk_mul, nI_add]); rfl; omega) | ((with_reducible apply ap_iW); rfl; (try simp only [bz_lit, pk_mul, nI_add]); rfl; omega))
        rw [hpx]
        exact go (nI (t_v b N p)) (by rw [c2, c3]; rfl) (Or.inr c3) c'
theorem X_sum_s {b : Nat → Nat} {N f : Nat} (hN : N ≤ 80) (hi : spX b N f 3 7 3 kX6_readTerm) (hr : lpX b N f 2 7 5 kX6_readSum) : spX b N (f + 1) 1 8 4 kX6_readSum := by
  intro G l E d S k p st P ha hlen hp hf hk hd hP
  obtain ⟨d', rfl⟩ : ∃ d', d = d' + 1 := ⟨d - 1, by omega⟩
  refine m_X6_readSum _ _ _ (fun κ bc bs hl => ?_)
  unfold w_X6_readSum_0
  rw [t_p] at hP
  repeat (first | ((with_reducible apply ap_rc); rfl) | ((with_reducible apply ap_nn)) | ((with_reducible apply ap_rR); rfl) | ((with_reducible apply M_ofOrder); rfl; (exact bz_lit _); omega; (first | omega | decide)) | ((with_reducible apply M_ofRider); rfl; (exact bz_lit _); omega; (first | omega | decide)) | ((with_reducible apply ap_rI); exact kd_ord _ (by omega) _ (by decide)) | ((with_reducible apply ap_wI); exact kd_ord _ (by omega) _ (by decide)) | ((with_reducible apply ap_rI); exact kd_rid _ (by omega) _ (by decide)) | ((with_reducible apply ap_wI); exact kd_rid _ (by omega) _ (by decide)) | ((with_reducible apply ap_rc); exact (kd_clO _ (by omega)).1) | ((with_reducible apply ap_rc); exact (kd_clR _ (by omega)).1) | ((with_reducible apply ap_rc); exact (kd_clR _ (by omega)).2.2.1) | ((with_reducible apply ap_rR); exact (kd_ridA _ (by omega)).1) | ((with_reducible apply ap_rN); rfl) | ((with_reducible apply M_in)) | ((with_reducible apply X_isWithin)) | ((with_reducible apply ap_rI); rfl) | ((with_reducible apply ap_wI); rfl) | ((with_reducible apply ap_iA); rfl; (try simp only [bz_lit, pk_mul, nI_add]); rfl; omega) | ((with_reducible apply ap_iW); rfl; (try simp only [bz_lit, pk_mul, nI_add]); rfl; omega))
  refine hi G l E d' S k p st _ ha hlen hp (by omega) hk (by omega) (fun S1 r1 t1 p1 s1 => ?_)
  have gg := t_p_i b N f 3 k p st (by omega) hp
  generalize t_p b N f 3 k p st = R1 at *
  by_cases hR : R1.1 = true
  · rw [if_pos hR]
    rw [t_bT hR] at hP
    obtain ⟨q1, q2, q3, q4, -, -⟩ := gg hR
    have q3' := q3 (by decide) (by decide)
    exact hr G l E d' κ bc bs S1 k R1.2.1 R1.2.2 0 _ P hl ⟨t1, p1, s1 hR⟩ (by omega) q2 (by omega) (by omega) hk (by omega) (fun S2 r2 t2 p2 s2 => hP S2 (fr_t r1 r2) t2 p2 s2)
  · rw [if_neg hR]
    rw [t_bF hR] at hP
    refine g_X6_readSum_8 hl _ _ _ _ _ _ ?_
    unfold w_X6_readSum_8
    have := hP S1 r1 t1 p1 (fun z => absurd z hR)
    rw [if_neg hR] at this
    exact ⟨fun _ => ⟨Or.inl rfl, _, rfl, this⟩, fun _ => ⟨fun _ => ⟨Or.inl rfl, _, rfl, this⟩, fun z => absurd rfl z⟩⟩
theorem X_text_s {b : Nat → Nat} {N f : Nat} (hN : N ≤ 80) (hb : ∀ j, b j < 256) (hi : spX b N f 1 8 4 kX6_readSum) : spX b N (f + 1) 0 9 5 kX6_readText := by
  intro G l E d S k p st P ha hlen hp hf hk hd hP
  obtain ⟨d', rfl⟩ : ∃ d', d = d' + 1 := ⟨d - 1, by omega⟩
  refine m_X6_readText _ _ _ ?_
  unfold w_X6_readText_0
  rw [t_p] at hP
  repeat (first | ((with_reducible apply ap_rc); rfl) | ((with_reducible apply ap_nn)) | ((with_reducible apply ap_rR); rfl) | ((with_reducible apply M_ofOrder); rfl; (exact bz_lit _); omega; (first | omega | decide)) | ((with_reducible apply M_ofRider); rfl; (exact bz_lit _); omega; (first | omega | decide)) | ((with_reducible apply ap_rI); exact kd_ord _ (by omega) _ (by decide)) | ((with_reducible apply ap_wI); exact kd_ord _ (by omega) _ (by decide)) | ((with_reducible apply ap_rI); exact kd_rid _ (by omega) _ (by decide)) | ((with_reducible apply ap_wI); exact kd_rid _ (by omega) _ (by decide)) | ((with_reducible apply ap_rc); exact (kd_clO _ (by omega)).1) | ((with_reducible apply ap_rc); exact (kd_clR _ (by omega)).1) | ((with_reducible apply ap_rc); exact (kd_clR _ (by omega)).2.2.1) | ((with_reducible apply ap_rR); exact (kd_ridA _ (by omega)).1) | ((with_reducible apply ap_rN); rfl) | ((with_reducible apply M_in)) | ((with_reducible apply X_isWithin)) | ((with_reducible apply ap_rI); rfl) | ((with_reducible apply ap_wI); rfl) | ((with_reducible apply ap_iA); rfl; (try simp only [bz_lit, pk_mul, nI_add]); rfl; omega) | ((with_reducible apply ap_iW); rfl; (try simp only [bz_lit, pk_mul, nI_add]); rfl; omega))
  refine hi G l E d' S k p st _ ha hlen hp (by omega) hk (by omega) (fun S1 r1 t1 p1 s1 => ?_)
  have gg := t_p_i b N f 1 k p st (by omega) hp
  generalize t_p b N f 1 k p st = R1 at *
  by_cases hR : R1.1 = true
  · rw [if_pos hR]
    rw [t_bT hR] at hP
    obtain ⟨q1, q2, q3, q4, -, -⟩ := gg hR
    have q3' := q3 (by decide) (by decide)
    have tv := t_v_b b N R1.2.1
    have tn := t_nx_b (b := b) q2
    refine ⟨fun _ => ?_, fun z => absurd z (by decide)⟩
    have go : ∀ (x : Int32) (hx : x = nI (t_tk b N R1.2.1).2) (hc : t_tk b N R1.2.1 = (4, 60) ∨ t_tk b N R1.2.1 = (4, 61)), bz_rc (bz_hp E S1) 162 6 (bz_cV G l d' kX6_advance [.inr (some 162)] (bz_hp E S1) 0 0 (fun h_5 => bz_rc h_5 162 6 (bz_cI G l d' kX6_readSum [.inr (some 162), .inl (nI k)] h_5 0 0 (fun x_6 h_7 => (x_6 = 0 → ∃ x, (some (.inl 0) : Option bz_V) = some (.inl x) ∧ P x h_7) ∧ (¬ (x_6 = 0) → bz_rc h_7 162 6 (bz_cI G l d' kX6_putStep [.inr (some 162), .inl (10007 + x)] h_7 0 0 (fun x_8 h_9 => ∃ x, (some (.inl (if x_8 = 0 then 0 else 1)) : Option bz_V) = some (.inl x) ∧ P x h_9))))))) := by
      intro x hx hc
      rw [if_pos hc] at hP
      have g := tn.2.2 (t_sgc hc).1
      have sc := (t_sgc hc).2
      repeat (first | ((with_reducible apply ap_rc); rfl) | ((with_reducible apply ap_nn)) | ((with_reducible apply ap_rR); rfl) | ((with_reducible apply M_ofOrder); rfl; (exact bz_lit _); omega; (first | omega | decide)) | ((with_reducible apply M_ofRider); rfl; (exact bz_lit _); omega; (first | omega | decide)) | ((with_reducible apply ap_rI); exact kd_ord _ (by omega) _ (by decide)) | ((with_reducible apply ap_wI); exact kd_ord _ (by omega) _ (by decide)) | ((with_reducible apply ap_rI); exact kd_rid _ (by omega) _ (by decide)) | ((with_reducible apply ap_wI); exact kd_rid _ (by omega) _ (by decide)) | ((with_reducible apply ap_rc); exact (kd_clO _ (by omega)).1) | ((with_reducible apply ap_rc); exact (kd_clR _ (by omega)).1) | ((with_reducible apply ap_rc); exact (kd_clR _ (by omega)).2.2.1) | ((with_reducible apply ap_rR); exact (kd_ridA _ (by omega)).1) | ((with_reducible apply ap_rN); rfl) | ((with_reducible apply M_in)) | ((with_reducible apply X_isWithin)) | ((with_reducible apply ap_rI); rfl) | ((with_reducible apply ap_wI); rfl) | ((with_reducible apply ap_iA); rfl; (try simp only [bz_lit, pk_mul, nI_add]); rfl; omega) | ((with_reducible apply ap_iW); rfl; (try simp only [bz_lit, pk_mul, nI_add]); rfl; omega))
      refine X_adp hN hb q2 ⟨t1, p1, s1 hR⟩ (by omega) (fun S2 r2 a2 => ?_)
      repeat (first | ((with_reducible apply ap_rc); rfl) | ((with_reducible apply ap_nn)) | ((with_reducible apply ap_rR); rfl) | ((with_reducible apply M_ofOrder); rfl; (exact bz_lit _); omega; (first | omega | decide)) | ((with_reducible apply M_ofRider); rfl; (exact bz_lit _); omega; (first | omega | decide)) | ((with_reducible apply ap_rI); exact kd_ord _ (by omega) _ (by decide)) | ((with_reducible apply ap_wI); exact kd_ord _ (by omega) _ (by decide)) | ((with_reducible apply ap_rI); exact kd_rid _ (by omega) _ (by decide)) | ((with_reducible apply ap_wI); exact kd_rid _ (by omega) _ (by decide)) | ((with_reducible apply ap_rc); exact (kd_clO _ (by omega)).1) | ((with_reducible apply ap_rc); exact (kd_clR _ (by omega)).1) | ((with_reducible apply ap_rc); exact (kd_clR _ (by omega)).2.2.1) | ((with_reducible apply ap_rR); exact (kd_ridA _ (by omega)).1) | ((with_reducible apply ap_rN); rfl) | ((with_reducible apply M_in)) | ((with_reducible apply X_isWithin)) | ((with_reducible apply ap_rI); rfl) | ((with_reducible apply ap_wI); rfl) | ((with_reducible apply ap_iA); rfl; (try simp only [bz_lit, pk_mul, nI_add]); rfl; omega) | ((with_reducible apply ap_iW); rfl; (try simp only [bz_lit, pk_mul, nI_add]); rfl; omega))
      refine hi G l E d' S2 k (t_nx b N R1.2.1) R1.2.2 _ a2 (by omega) tn.2.1 (by omega) hk (by omega) (fun S3 r3 t3 p3 s3 => ?_)
      have gg2 := t_p_i b N f 1 k (t_nx b N R1.2.1) R1.2.2 (by omega) tn.2.1
      generalize t_p b N f 1 k (t_nx b N R1.2.1) R1.2.2 = R2 at *
      by_cases hR2 : R2.1 = true
      · rw [if_pos hR2]
        rw [t_bT hR2] at hP
        obtain ⟨y1, y2, y3, y4, -, -⟩ := gg2 hR2
        have y3' := y3 (by decide) (by decide)
        refine ⟨fun z => absurd z (by decide), fun _ => ?_⟩
        obtain ⟨d2, hd2⟩ : ∃ d2, d' = d2 + 1 := ⟨d' - 1, by omega⟩
        repeat (first | ((with_reducible apply ap_rc); rfl) | ((with_reducible apply ap_nn)) | ((with_reducible apply ap_rR); rfl) | ((with_reducible apply M_ofOrder); rfl; (exact bz_lit _); omega; (first | omega | decide)) | ((with_reducible apply M_ofRider); rfl; (exact bz_lit _); omega; (first | omega | decide)) | ((with_reducible apply ap_rI); exact kd_ord _ (by omega) _ (by decide)) | ((with_reducible apply ap_wI); exact kd_ord _ (by omega) _ (by decide)) | ((with_reducible apply ap_rI); exact kd_rid _ (by omega) _ (by decide)) | ((with_reducible apply ap_wI); exact kd_rid _ (by omega) _ (by decide)) | ((with_reducible apply ap_rc); exact (kd_clO _ (by omega)).1) | ((with_reducible apply ap_rc); exact (kd_clR _ (by omega)).1) | ((with_reducible apply ap_rc); exact (kd_clR _ (by omega)).2.2.1) | ((with_reducible apply ap_rR); exact (kd_ridA _ (by omega)).1) | ((with_reducible apply ap_rN); rfl) | ((with_reducible apply M_in)) | ((with_reducible apply X_isWithin)) | ((with_reducible apply ap_rI); rfl) | ((with_reducible apply ap_wI); rfl) | ((with_reducible apply ap_iA); rfl; (try simp only [bz_lit, pk_mul, nI_add]); rfl; omega) | ((with_reducible apply ap_iW); rfl; (try simp only [bz_lit, pk_mul, nI_add]); rfl; omega))
        rw [hd2]
        refine X_putStep (c := 10007 + (t_tk b N R1.2.1).2) (by rw [hx, show (10007 : Int32) = nI 10007 from rfl, nI_add]) (s3 hR2) (by omega) (fun S4 r4 s4 => ?_)
        rw [if_neg (by decide : ¬ (1 : Int32) = 0)]
        exact ⟨_, rfl, hP S4 (fr_t r1 (fr_t (fr_m r2 (by intro c k h; first | omega | (dsimp only at h ⊢; omega) | (dsimp only at h; omega) | (dsimp only; omega))) (fr_t r3 (fr_m r4 (by intro c k h; first | omega | (dsimp only at h ⊢; omega) | (dsimp only at h; omega) | (dsimp only; omega)))))) (tbX_f t3 r4 (by intro c k h; first | omega | (dsimp only at h ⊢; omega) | (dsimp only at h; omega) | (dsimp only; omega))) (px_f p3 r4 (by intro c k h; first | omega | (dsimp only at h ⊢; omega) | (dsimp only at h; omega) | (dsimp only; omega))) (fun _ => s4)⟩
      · rw [if_neg hR2]
        rw [t_bF hR2] at hP
        refine ⟨fun _ => ⟨_, rfl, ?_⟩, fun z => absurd rfl z⟩
        have := hP S3 (fr_t r1 (fr_t (fr_m r2 (by intro c k h; first | omega | (dsimp only at h ⊢; omega) | (dsimp only at h; omega) | (dsimp only; omega))) r3)) t3 p3 (fun z => absurd z hR2)
        rw [if_neg hR2] at this
        exact this
    repeat (first | ((with_reducible apply ap_rc); rfl) | ((with_reducible apply ap_nn)) | ((with_reducible apply ap_rR); rfl) | ((with_reducible apply M_ofOrder); rfl; (exact bz_lit _); omega; (first | omega | decide)) | ((with_reducible apply M_ofRider); rfl; (exact bz_lit _); omega; (first | omega | decide)) | ((with_reducible apply ap_rI); exact kd_ord _ (by omega) _ (by decide)) | ((with_reducible apply ap_wI); exact kd_ord _ (by omega) _ (by decide)) | ((with_reducible apply ap_rI); exact kd_rid _ (by omega) _ (by decide)) | ((with_reducible apply ap_wI); exact kd_rid _ (by omega) _ (by decide)) | ((with_reducible apply ap_rc); exact (kd_clO _ (by omega)).1) | ((with_reducible apply ap_rc); exact (kd_clR _ (by omega)).1) | ((with_reducible apply ap_rc); exact (kd_clR _ (by omega)).2.2.1) | ((with_reducible apply ap_rR); exact (kd_ridA _ (by omega)).1) | ((with_reducible apply ap_rN); rfl) | ((with_reducible apply M_in)) | ((with_reducible apply X_isWithin)) | ((with_reducible apply ap_rI); rfl) | ((with_reducible apply ap_wI); rfl) | ((with_reducible apply ap_iA); rfl; (try simp only [bz_lit, pk_mul, nI_add]); rfl; omega) | ((with_reducible apply ap_iW); rfl; (try simp only [bz_lit, pk_mul, nI_add]); rfl; omega))
    rw [px_t p1]
    refine ⟨fun c1 => ?_, fun c1 => ⟨fun c2 => ?_, fun c2 => ?_⟩⟩
    · have c3 := (t_v_s (c := 60) (by decide)).mp ((nI_eq (b := 60) (by omega) (by decide)).mp c1)
      exact go _ (by rw [c1, c3]; rfl) (Or.inl c3)
    · have c3 := (t_v_s (c := 61) (by decide)).mp ((nI_eq (b := 61) (by omega) (by decide)).mp c2)
      exact go _ (by rw [c2, c3]; rfl) (Or.inr c3)
    · have n1 : ¬ t_tk b N R1.2.1 = (4, 60) := fun z => c1 (congrArg nI ((t_v_s (c := 60) (by decide)).mpr z))
      have n2 : ¬ t_tk b N R1.2.1 = (4, 61) := fun z => c2 (congrArg nI ((t_v_s (c := 61) (by decide)).mpr z))
      rw [if_neg (fun z => z.elim n1 n2)] at hP
      exact ⟨_, rfl, hP S1 r1 t1 p1 (fun _ => s1 hR)⟩
  · rw [if_neg hR]
    rw [t_bF hR] at hP
    refine ⟨fun z => absurd rfl z, fun _ => ⟨_, rfl, ?_⟩⟩
    have := hP S1 r1 t1 p1 (fun z => absurd z hR)
    rw [if_neg hR] at this
    exact this
theorem X_all {b : Nat → Nat} {N : Nat} (hN : N ≤ 80) (hb : ∀ j, b j < 256) : ∀ f, spX b N f 5 6 2 kX6_readOne ∧ spX b N f 3 7 3 kX6_readTerm ∧ lpX b N f 4 6 5 kX6_readTerm ∧ spX b N f 1 8 4 kX6_readSum ∧ lpX b N f 2 7 5 kX6_readSum ∧ spX b N f 0 9 5 kX6_readText
  | 0 => ⟨fun _ _ _ _ _ _ _ _ _ _ _ _ h => by omega, fun _ _ _ _ _ _ _ _ _ _ _ _ h => by omega, fun _ _ _ _ _ _ _ _ _ _ _ _ _ _ _ _ _ _ _ h => by omega, fun _ _ _ _ _ _ _ _ _ _ _ _ h => by omega, fun _ _ _ _ _ _ _ _ _ _ _ _ _ _ _ _ _ _ _ h => by omega, fun _ _ _ _ _ _ _ _ _ _ _ _ h => by omega⟩
  | f + 1 => by
    obtain ⟨h1, h2, h3, h4, h5, h6⟩ := X_all hN hb f
    exact ⟨X_one_s hN hb h1 h6, X_term_s hN h1 h3, X_rest_term hN hb h1 h3, X_sum_s hN h2 h5, X_rest_sum hN hb h2 h5, X_text_s hN hb h4⟩
