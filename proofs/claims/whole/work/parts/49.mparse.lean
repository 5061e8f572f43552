/-! the reference reads a text -/
def sm (S : bz_S) (st : List Nat) : Prop := S.1 186 20 = nI st.length ∧ ∀ i, i < st.length → S.1 194 (2 * i) = nI (mw (st.getD i 0)) ∧ S.1 194 (2 * i + 1) = nI (mv (st.getD i 0))
abbrev MT (c k : Nat) : Prop := (c = 186 ∧ 15 ≤ k ∧ k ≤ 20) ∨ c = 194
def am (S : bz_S) (b : Nat → Nat) (N p : Nat) (st : List Nat) (k : Nat) : Prop := tbM S b N ∧ pm S b N p ∧ sm S st ∧ S.1 186 19 = nI k
theorem pm_f {X : Nat → Nat → Prop} {S S' : bz_S} {b : Nat → Nat} {N p : Nat} (h : pm S b N p) (f : fr X S S') (hX : ∀ c k, X c k → ¬ (c = 186 ∧ 15 ≤ k ∧ k ≤ 18)) : pm S' b N p := by
  unfold pm at *
  rw [f.2 186 15 (fun x => hX _ _ x ⟨rfl, by decide, by decide⟩), f.2 186 16 (fun x => hX _ _ x ⟨rfl, by decide, by decide⟩), f.2 186 17 (fun x => hX _ _ x ⟨rfl, by decide, by decide⟩), f.2 186 18 (fun x => hX _ _ x ⟨rfl, by decide, by decide⟩)]
  exact h
theorem sm_f {X : Nat → Nat → Prop} {S S' : bz_S} {st : List Nat} (h : sm S st) (f : fr X S S') (hX : ∀ c k, X c k → ¬ ((c = 186 ∧ k = 20) ∨ c = 194)) : sm S' st := by
  refine ⟨(f.2 186 20 (fun x => hX _ _ x (Or.inl ⟨rfl, rfl⟩))).trans h.1, fun i hi => ?_⟩
  rw [f.2 194 _ (fun x => hX _ _ x (Or.inr rfl)), f.2 194 _ (fun x => hX _ _ x (Or.inr rfl))]
  exact h.2 i hi
def spM (b : Nat → Nat) (N f nt H R : Nat) (y : bz_M) : Prop := ∀ (G : bz_G) (l : Launch) (E : Nat × (Nat → Int32)) (d : Nat) (S : bz_S) (k p : Nat) (st : List Nat) (P : Int32 → bz_H → Prop), am S b N p st k → st.length ≤ p → p ≤ N → 8 * (N - p) + R ≤ f → k ≤ 6 → 4 * (6 - k) + H ≤ d → (∀ S', fr MT S S' → tbM S' b N → pm S' b N (t_p b N f nt k p st).2.1 → ((t_p b N f nt k p st).1 = true → sm S' (t_p b N f nt k p st).2.2 ∧ S'.1 186 19 = nI k) → P (if (t_p b N f nt k p st).1 = true then 1 else 0) (bz_hp E S')) → bz_cI G l d y [.inr (some 186)] (bz_hp E S) 0 0 P
def lpM (b : Nat → Nat) (N f nt H R : Nat) (y : bz_M) : Prop := ∀ (G : bz_G) (l : Launch) (E : Nat × (Nat → Int32)) (d : Nat) (κ : bz_K) (bc bs : Nat) (S : bz_S) (k p : Nat) (st : List Nat) (u1 : Option bz_V) (P : Int32 → bz_H → Prop), κ.2.1 = l → am S b N p st k → st.length ≤ p → p ≤ N → 8 * (N - p) + R ≤ f → k ≤ 6 → 4 * (6 - k) + H ≤ d → (∀ S', fr MT S S' → tbM S' b N → pm S' b N (t_p b N f nt k p st).2.1 → ((t_p b N f nt k p st).1 = true → sm S' (t_p b N f nt k p st).2.2 ∧ S'.1 186 19 = nI k) → P (if (t_p b N f nt k p st).1 = true then 1 else 0) (bz_hp E S')) → bz_J G κ y (d + 1) (fun v h' => ∃ x, v = some (.inl x) ∧ P x h') bc bs 9 [some (.inr (some 186)), u1] [] (bz_hp E S)
theorem mt_3 : ∀ k, k ≤ 4 → (t_mt k = 3 ↔ k = 4) ∧ (t_mt k = 2 ↔ k = 2) ∧ (t_mt k = 1 ↔ k = 3) ∧ (t_mt k = 0 ↔ k = 0) ∧ t_mt k < 5 := by decide
section MPA
variable {G : bz_G} {l : Launch} {d : Nat} {E : Nat × (Nat → Int32)} {S : bz_S} {b : Nat → Nat} {N : Nat}
theorem M_isSign {P : Int32 → bz_H → Prop} {x : Int32} {c p : Nat} (hx : x = nI c) (hc : c < 256) (hp : pm S b N p) (hd : 1 ≤ d) (hP : P (if t_tk b N p = (4, c) then 1 else 0) (bz_hp E S)) : bz_cI G l d kX12_isSign [.inr (some 186), .inl x] (bz_hp E S) 0 0 P := by
  obtain ⟨d', rfl⟩ : ∃ d', d = d' + 1 := ⟨d - 1, by omega⟩
  refine m_X12_isSign _ _ _ ?_
  unfold w_X12_isSign_0
  subst hx
  have k4 := (t_tk_k b N p).2.2
  obtain ⟨m1, m2, m3, m4, m5⟩ := mt_3 _ k4
  have h4 := t_tk_4 b N p
  repeat (first | ((with_reducible apply ap_rc); rfl) | ((with_reducible apply ap_nn)) | ((with_reducible apply ap_rR); rfl) | ((with_reducible apply M_ofOrder); rfl; (exact bz_lit _); omega; (first | omega | decide)) | ((with_reducible apply M_ofRider); rfl; (exact bz_lit _); omega; (first | omega | decide)) | ((with_reducible apply ap_rI); exact kd_ord _ (by omega) _ (by decide)) | ((with_reducible apply ap_wI); exact kd_ord _ (by omega) _ (by decide)) | ((with_reducible apply ap_rI); exact kd_rid _ (by omega) _ (by decide)) | ((with_reducible apply ap_wI); exact kd_rid _ (by omega) _ (by decide)) | ((with_reducible apply ap_rc); exact (kd_clO _ (by omega)).1) | ((with_reducible apply ap_rc); exact (kd_clR _ (by omega)).1) | ((with_reducible apply ap_rc); exact (kd_clR _ (by omega)).2.2.1) | ((with_reducible apply ap_rR); exact (kd_ridA _ (by omega)).1) | ((with_reducible apply ap_rN); rfl) | ((with_reducible apply M_in)) | ((with_reducible apply X_isWithin)) | ((with_reducible apply ap_rI); rfl) | ((with_reducible apply ap_wI); rfl) | ((with_reducible apply ap_iA); rfl; (try simp only [bz_lit, pk_mul, nI_add]); rfl; omega) | ((with_reducible apply ap_iW); rfl; (try simp only [bz_lit, pk_mul, nI_add]); rfl; omega))
  rw [hp.1]
  refine ⟨fun c1 => ?_, fun c1 => ?_⟩
  · have n4 : ¬ (t_tk b N p).1 = 4 := fun z => c1 (congrArg nI (m1.mpr z))
    rw [if_neg (fun z => n4 (by rw [z]))] at hP
    exact ⟨_, rfl, hP⟩
  · have e4 := m1.mp ((nI_eq (b := 3) (by omega) (by decide)).mp c1)
    repeat (first | ((with_reducible apply ap_rc); rfl) | ((with_reducible apply ap_nn)) | ((with_reducible apply ap_rR); rfl) | ((with_reducible apply M_ofOrder); rfl; (exact bz_lit _); omega; (first | omega | decide)) | ((with_reducible apply M_ofRider); rfl; (exact bz_lit _); omega; (first | omega | decide)) | ((with_reducible apply ap_rI); exact kd_ord _ (by omega) _ (by decide)) | ((with_reducible apply ap_wI); exact kd_ord _ (by omega) _ (by decide)) | ((with_reducible apply ap_rI); exact kd_rid _ (by omega) _ (by decide)) | ((with_reducible apply ap_wI); exact kd_rid _ (by omega) _ (by decide)) | ((with_reducible apply ap_rc); exact (kd_clO _ (by omega)).1) | ((with_reducible apply ap_rc); exact (kd_clR _ (by omega)).1) | ((with_reducible apply ap_rc); exact (kd_clR _ (by omega)).2.2.1) | ((with_reducible apply ap_rR); exact (kd_ridA _ (by omega)).1) | ((with_reducible apply ap_rN); rfl) | ((with_reducible apply M_in)) | ((with_reducible apply X_isWithin)) | ((with_reducible apply ap_rI); rfl) | ((with_reducible apply ap_wI); rfl) | ((with_reducible apply ap_iA); rfl; (try simp only [bz_lit, pk_mul, nI_add]); rfl; omega) | ((with_reducible apply ap_iW); rfl; (try simp only [bz_lit, pk_mul, nI_add]); rfl; omega))
    rw [hp.2.1 (Or.inr e4)]
    have h4' := h4 e4
    by_cases z : (t_tk b N p).2 = c
    · rw [if_pos (Prod.ext e4 z)] at hP
      rw [if_pos (congrArg nI z)]
      exact ⟨_, rfl, hP⟩
    · rw [if_neg (fun q => z (by rw [q]))] at hP
      rw [if_neg (fun q => z ((nI_eq (by omega) (by omega)).mp q))]
      exact ⟨_, rfl, hP⟩
theorem M_lays {P : bz_H → Prop} {x y : Int32} {c : Nat} {st : List Nat} (hx : x = nI (mw c)) (hy : y = nI (mv c)) (hs : sm S st) (hl : st.length < 80) (hd : 1 ≤ d) (hP : ∀ S', fr (fun c k => (c = 186 ∧ k = 20) ∨ c = 194) S S' → sm S' (st ++ [c]) → P (bz_hp E S')) : bz_cV G l d kX12_lays [.inr (some 186), .inl x, .inl y] (bz_hp E S) 0 0 P := by
  obtain ⟨d', rfl⟩ : ∃ d', d = d' + 1 := ⟨d - 1, by omega⟩
  refine m_X12_lays _ _ _ _ ?_
  unfold w_X12_lays_0
  subst hx; subst hy
  repeat (first | ((with_reducible apply ap_rc); rfl) | ((with_reducible apply ap_nn)) | ((with_reducible apply ap_rR); rfl) | ((with_reducible apply M_ofOrder); rfl; (exact bz_lit _); omega; (first | omega | decide)) | ((with_reducible apply M_ofRider); rfl; (exact bz_lit _); omega; (first | omega | decide)) | ((with_reducible apply ap_rI); exact kd_ord _ (by omega) _ (by decide)) | ((with_reducible apply ap_wI); exact kd_ord _ (by omega) _ (by decide)) | ((with_reducible apply ap_rI); exact kd_rid _ (by omega) _ (by decide)) | ((with_reducible apply ap_wI); exact kd_rid _ (by omega) _ (by decide)) | ((with_reducible apply ap_rc); exact (kd_clO _ (by omega)).1) | ((with_reducible apply ap_rc); exact (kd_clR _ (by omega)).1) | ((with_reducible apply ap_rc); exact (kd_clR _ (by omega)).2.2.1) | ((with_reducible apply ap_rR); exact (kd_ridA _ (by omega)).1) | ((with_reducible apply ap_rN); rfl) | ((with_reducible apply M_in)) | ((with_reducible apply X_isWithin)) | ((with_reducible apply ap_rI); rfl) | ((with_reducible apply ap_wI); rfl) | ((with_reducible apply ap_iA); rfl; (try simp only [bz_lit, pk_mul, nI_add]); rfl; omega) | ((with_reducible apply ap_iW); rfl; (try simp only [bz_lit, pk_mul, nI_add]); rfl; omega))
  rw [hs.1]
  repeat (first | ((with_reducible apply ap_rc); rfl) | ((with_reducible apply ap_nn)) | ((with_reducible apply ap_rR); rfl) | ((with_reducible apply M_ofOrder); rfl; (exact bz_lit _); omega; (first | omega | decide)) | ((with_reducible apply M_ofRider); rfl; (exact bz_lit _); omega; (first | omega | decide)) | ((with_reducible apply ap_rI); exact kd_ord _ (by omega) _ (by decide)) | ((with_reducible apply ap_wI); exact kd_ord _ (by omega) _ (by decide)) | ((with_reducible apply ap_rI); exact kd_rid _ (by omega) _ (by decide)) | ((with_reducible apply ap_wI); exact kd_rid _ (by omega) _ (by decide)) | ((with_reducible apply ap_rc); exact (kd_clO _ (by omega)).1) | ((with_reducible apply ap_rc); exact (kd_clR _ (by omega)).1) | ((with_reducible apply ap_rc); exact (kd_clR _ (by omega)).2.2.1) | ((with_reducible apply ap_rR); exact (kd_ridA _ (by omega)).1) | ((with_reducible apply ap_rN); rfl) | ((with_reducible apply M_in)) | ((with_reducible apply X_isWithin)) | ((with_reducible apply ap_rI); rfl) | ((with_reducible apply ap_wI); rfl) | ((with_reducible apply ap_iA); rfl; (try simp only [bz_lit, pk_mul, nI_add]); rfl; omega) | ((with_reducible apply ap_iW); rfl; (try simp only [bz_lit, pk_mul, nI_add]); rfl; omega))
  dsimp only
  rw [bz_u_ne _ _ (by omega), hs.1]
  repeat (first | ((with_reducible apply ap_rc); rfl) | ((with_reducible apply ap_nn)) | ((with_reducible apply ap_rR); rfl) | ((with_reducible apply M_ofOrder); rfl; (exact bz_lit _); omega; (first | omega | decide)) | ((with_reducible apply M_ofRider); rfl; (exact bz_lit _); omega; (first | omega | decide)) | ((with_reducible apply ap_rI); exact kd_ord _ (by omega) _ (by decide)) | ((with_reducible apply ap_wI); exact kd_ord _ (by omega) _ (by decide)) | ((with_reducible apply ap_rI); exact kd_rid _ (by omega) _ (by decide)) | ((with_reducible apply ap_wI); exact kd_rid _ (by omega) _ (by decide)) | ((with_reducible apply ap_rc); exact (kd_clO _ (by omega)).1) | ((with_reducible apply ap_rc); exact (kd_clR _ (by omega)).1) | ((with_reducible apply ap_rc); exact (kd_clR _ (by omega)).2.2.1) | ((with_reducible apply ap_rR); exact (kd_ridA _ (by omega)).1) | ((with_reducible apply ap_rN); rfl) | ((with_reducible apply M_in)) | ((with_reducible apply X_isWithin)) | ((with_reducible apply ap_rI); rfl) | ((with_reducible apply ap_wI); rfl) | ((with_reducible apply ap_iA); rfl; (try simp only [bz_lit, pk_mul, nI_add]); rfl; omega) | ((with_reducible apply ap_iW); rfl; (try simp only [bz_lit, pk_mul, nI_add]); rfl; omega))
  dsimp only
  rw [bz_u_ne _ _ (by omega), bz_u_ne _ _ (by omega), hs.1]
  refine ⟨(by first | rfl | trivial), hP _ (fr_v (fr_v (fr_v (fr_0 _ S) (by first | omega | (dsimp only; omega))) (by first | omega | (dsimp only; omega))) (by first | omega | (dsimp only; omega))) ⟨?_, fun i hi => ?_⟩⟩
  · dsimp only
    rw [bz_u_same, List.length_append, ← nI_succ]
    rfl
  · rw [List.length_append] at hi
    simp only [List.length_cons, List.length_nil] at hi
    dsimp only
    rw [gd_app]
    by_cases h : i = st.length
    · subst h
      rw [if_pos rfl]
      refine ⟨?_, ?_⟩
      · simp (disch := omega) only [bz_u_same, bz_u_ne]
      · simp (disch := omega) only [bz_u_same, bz_u_ne]
    · rw [if_neg h]
      have := hs.2 i (by omega)
      simp (disch := omega) only [bz_u_ne]
      exact this
theorem M_nxp {P : bz_H → Prop} {p k : Nat} {st : List Nat} (hN : N ≤ 80) (hb : ∀ j, b j < 256) (hp : p ≤ N) (ha : am S b N p st k) (hd : 3 ≤ d) (hP : ∀ S', fr (fun c k => c = 186 ∧ 15 ≤ k ∧ k ≤ 18) S S' → am S' b N (t_nx b N p) st k → P (bz_hp E S')) : bz_cV G l d kX12_next [.inr (some 186)] (bz_hp E S) 0 0 P := by
  obtain ⟨d', rfl⟩ : ∃ d', d = d' + 3 := ⟨d - 3, by omega⟩
  exact M_next hN hb (t_nx_b hp).2.1 ha.1 ha.2.1.2.2.2.2 (fun S' r1 q => hP S' r1 ⟨tbM_f ha.1 r1 (by intro c k h; first | omega | (dsimp only at h ⊢; omega) | (dsimp only at h; omega) | (dsimp only; omega)), q, sm_f ha.2.2.1 r1 (by intro c k h; first | omega | (dsimp only at h ⊢; omega) | (dsimp only at h; omega) | (dsimp only; omega)), (r1.2 186 19 (by dsimp only; omega)).trans ha.2.2.2⟩)
theorem M_opens {P : Int32 → bz_H → Prop} {p k : Nat} {st : List Nat} (hN : N ≤ 80) (hb : ∀ j, b j < 256) (hp : p ≤ N) (hk : k ≤ 6) (ha : am S b N p st k) (hd : 4 ≤ d) (hF : ¬ k < 6 → P 0 (bz_hp E S)) (hP : k < 6 → ∀ S', fr MT S S' → am S' b N (t_nx b N p) st (k + 1) → P 1 (bz_hp E S')) : bz_cI G l d kX12_opens [.inr (some 186)] (bz_hp E S) 0 0 P := by
  obtain ⟨d', rfl⟩ : ∃ d', d = d' + 1 := ⟨d - 1, by omega⟩
  refine m_X12_opens _ _ ?_
  unfold w_X12_opens_0
  repeat (first | ((with_reducible apply ap_rc); rfl) | ((with_reducible apply ap_nn)) | ((with_reducible apply ap_rR); rfl) | ((with_reducible apply M_ofOrder); rfl; (exact bz_lit _); omega; (first | omega | decide)) | ((with_reducible apply M_ofRider); rfl; (exact bz_lit _); omega; (first | omega | decide)) | ((with_reducible apply ap_rI); exact kd_ord _ (by omega) _ (by decide)) | ((with_reducible apply ap_wI); exact kd_ord _ (by omega) _ (by decide)) | ((with_reducible apply ap_rI); exact kd_rid _ (by omega) _ (by decide)) | ((with_reducible apply ap_wI); exact kd_rid _ (by omega) _ (by decide)) | ((with_reducible apply ap_rc); exact (kd_clO _ (by omega)).1) | ((with_reducible apply ap_rc); exact (kd_clR _ (by omega)).1) | ((with_reducible apply ap_rc); exact (kd_clR _ (by omega)).2.2.1) | ((with_reducible apply ap_rR); exact (kd_ridA _ (by omega)).1) | ((with_reducible apply ap_rN); rfl) | ((with_reducible apply M_in)) | ((with_reducible apply X_isWithin)) | ((with_reducible apply ap_rI); rfl) | ((with_reducible apply ap_wI); rfl) | ((with_reducible apply ap_iA); rfl; (try simp only [bz_lit, pk_mul, nI_add]); rfl; omega) | ((with_reducible apply ap_iW); rfl; (try simp only [bz_lit, pk_mul, nI_add]); rfl; omega))
  rw [ha.2.2.2]
  refine ⟨fun c => ?_, fun c => ⟨_, rfl, hF (fun z => ?_)⟩⟩
  · have hk6 : k < 6 := by
      rcases Nat.lt_or_ge k 6 with z | z
      · exact z
      · exact absurd (congrArg nI (show k = 6 by omega)) c
    repeat (first | ((with_reducible apply ap_rc); rfl) | ((with_reducible apply ap_nn)) | ((with_reducible apply ap_rR); rfl) | ((with_reducible apply M_ofOrder); rfl; (exact bz_lit _); omega; (first | omega | decide)) | ((with_reducible apply M_ofRider); rfl; (exact bz_lit _); omega; (first | omega | decide)) | ((with_reducible apply ap_rI); exact kd_ord _ (by omega) _ (by decide)) | ((with_reducible apply ap_wI); exact kd_ord _ (by omega) _ (by decide)) | ((with_reducible apply ap_rI); exact kd_rid _ (by omega) _ (by decide)) | ((with_reducible apply ap_wI); exact kd_rid _ (by omega) _ (by decide)) | ((with_reducible apply ap_rc); exact (kd_clO _ (by omega)).1) | ((with_reducible apply ap_rc); exact (kd_clR _ (by omega)).1) | ((with_reducible apply ap_rc); exact (kd_clR _ (by omega)).2.2.1) | ((with_reducible apply ap_rR); exact (kd_ridA _ (by omega)).1) | ((with_reducible apply ap_rN); rfl) | ((with_reducible apply M_in)) | ((with_reducible apply X_isWithin)) | ((with_reducible apply ap_rI); rfl) | ((with_reducible apply ap_wI); rfl) | ((with_reducible apply ap_iA); rfl; (try simp only [bz_lit, pk_mul, nI_add]); rfl; omega) | ((with_reducible apply ap_iW); rfl; (try simp only [bz_lit, pk_mul, nI_add]); rfl; omega))
    rw [ha.2.2.2, ← nI_succ]
    have r1 : fr (fun c k => c = 186 ∧ k = 19) S (bz_u S.1 186 19 (nI (k + 1)), S.2) := fr_u (S := S) (by first | omega | (dsimp only; omega))
    exact M_nxp hN hb hp ⟨tbM_f ha.1 r1 (by intro c k h; first | omega | (dsimp only at h ⊢; omega) | (dsimp only at h; omega) | (dsimp only; omega)), pm_f ha.2.1 r1 (by intro c k h; first | omega | (dsimp only at h ⊢; omega) | (dsimp only at h; omega) | (dsimp only; omega)), sm_f ha.2.2.1 r1 (by intro c k h; first | omega | (dsimp only at h ⊢; omega) | (dsimp only at h; omega) | (dsimp only; omega)), by dsimp only; rw [bz_u_same]⟩ (by omega) (fun S' r2 a2 => ⟨_, rfl, hP hk6 S' (fr_t (fr_m r1 (by intro c k h; first | omega | (dsimp only at h ⊢; omega) | (dsimp only at h; omega) | (dsimp only; omega))) (fr_m r2 (by intro c k h; first | omega | (dsimp only at h ⊢; omega) | (dsimp only at h; omega) | (dsimp only; omega)))) a2⟩)
  · have := (nI_eq (b := 6) (by omega) (by decide)).mp c
    omega
end MPA
theorem ite_01 {p : Prop} [Decidable p] : ((if p then 1 else 0 : Int32) = 0) ↔ ¬ p := by
  by_cases h : p
  · rw [if_pos h]; exact ⟨fun q => absurd q (by decide), fun q => absurd h q⟩
  · rw [if_neg h]; exact ⟨fun _ => h, fun _ => rfl⟩
theorem mw_s {c : Nat} (h : c < 256) : mw (10007 + c) = 3 ∧ mv (10007 + c) = c := by
  unfold mw mv
  rw [if_neg (by omega), if_neg (by omega), if_neg (by omega), if_neg (by omega), if_neg (by omega), if_neg (by omega)]
  exact ⟨rfl, by omega⟩
theorem M_one_s {b : Nat → Nat} {N f : Nat} (hN : N ≤ 80) (hb : ∀ j, b j < 256) (h5 : spM b N f 5 6 2 kX12_one) (h0 : spM b N f 0 9 5 kX12_whole) : spM b N (f + 1) 5 6 2 kX12_one := by
  intro G l E d S k p st P ha hlen hp hf hk hd hP
  obtain ⟨d', rfl⟩ : ∃ d', d = d' + 1 := ⟨d - 1, by omega⟩
  refine m_X12_one _ _ ?_
  unfold w_X12_one_0
  rw [t_p] at hP
  rotate_left
  all_goals (try (intro q; omega))
  have tn := t_nx_b (b := b) hp
  obtain ⟨k1, k2, k3⟩ := t_tk_k b N p
  obtain ⟨m1, m2, m3, m4, m5⟩ := mt_3 _ k3
  have hpm := ha.2.1
  have fin : ∀ (x y : Int32), ((t_tk b N p).1 = 2 ∨ (t_tk b N p).1 = 3) → x = nI (mw (t_tk b N p).2) → y = nI (mv (t_tk b N p).2) → (bz_cV G l d' kX12_lays [.inr (some 186), .inl x, .inl y] (bz_hp E S) 0 0 (fun h_5 => bz_rc h_5 186 12 (bz_cV G l d' kX12_next [.inr (some 186)] h_5 0 0 (fun h_7 => ∃ x, (some (.inl 1) : Option bz_V) = some (.inl x) ∧ P x h_7)))) := by
    intro x y hc hx hy
    rw [if_pos hc] at hP
    have g := tn.2.2 (by omega)
    refine M_lays hx hy ha.2.2.1 (by omega) (by omega) (fun S1 r1 s1 => ?_)
    repeat (first | ((with_reducible apply ap_rc); rfl) | ((with_reducible apply ap_nn)) | ((with_reducible apply ap_rR); rfl) | ((with_reducible apply M_ofOrder); rfl; (exact bz_lit _); omega; (first | omega | decide)) | ((with_reducible apply M_ofRider); rfl; (exact bz_lit _); omega; (first | omega | decide)) | ((with_reducible apply ap_rI); exact kd_ord _ (by omega) _ (by decide)) | ((with_reducible apply ap_wI); exact kd_ord _ (by omega) _ (by decide)) | ((with_reducible apply ap_rI); exact kd_rid _ (by omega) _ (by decide)) | ((with_reducible apply ap_wI); exact kd_rid _ (by omega) _ (by decide)) | ((with_reducible apply ap_rc); exact (kd_clO _ (by omega)).1) | ((with_reducible apply ap_rc); exact (kd_clR _ (by omega)).1) | ((with_reducible apply ap_rc); exact (kd_clR _ (by omega)).2.2.1) | ((with_reducible apply ap_rR); exact (kd_ridA _ (by omega)).1) | ((with_reducible apply ap_rN); rfl) | ((with_reducible apply M_in)) | ((with_reducible apply X_isWithin)) | ((with_reducible apply ap_rI); rfl) | ((with_reducible apply ap_wI); rfl) | ((with_reducible apply ap_iA); rfl; (try simp only [bz_lit, pk_mul, nI_add]); rfl; omega) | ((with_reducible apply ap_iW); rfl; (try simp only [bz_lit, pk_mul, nI_add]); rfl; omega))
    refine M_nxp hN hb hp ⟨tbM_f ha.1 r1 (by intro c k h; first | omega | (dsimp only at h ⊢; omega) | (dsimp only at h; omega) | (dsimp only; omega)), pm_f ha.2.1 r1 (by intro c k h; first | omega | (dsimp only at h ⊢; omega) | (dsimp only at h; omega) | (dsimp only; omega)), s1, (r1.2 186 19 (by dsimp only; omega)).trans ha.2.2.2⟩ (by omega) (fun S2 r2 a2 => ?_)
    exact ⟨_, rfl, hP S2 (fr_t (fr_m r1 (by intro c k h; first | omega | (dsimp only at h ⊢; omega) | (dsimp only at h; omega) | (dsimp only; omega))) (fr_m r2 (by intro c k h; first | omega | (dsimp only at h ⊢; omega) | (dsimp only at h; omega) | (dsimp only; omega)))) a2.1 a2.2.1 (fun _ => ⟨a2.2.2.1, a2.2.2.2⟩)⟩
  repeat (first | ((with_reducible apply ap_rc); rfl) | ((with_reducible apply ap_nn)) | ((with_reducible apply ap_rR); rfl) | ((with_reducible apply M_ofOrder); rfl; (exact bz_lit _); omega; (first | omega | decide)) | ((with_reducible apply M_ofRider); rfl; (exact bz_lit _); omega; (first | omega | decide)) | ((with_reducible apply ap_rI); exact kd_ord _ (by omega) _ (by decide)) | ((with_reducible apply ap_wI); exact kd_ord _ (by omega) _ (by decide)) | ((with_reducible apply ap_rI); exact kd_rid _ (by omega) _ (by decide)) | ((with_reducible apply ap_wI); exact kd_rid _ (by omega) _ (by decide)) | ((with_reducible apply ap_rc); exact (kd_clO _ (by omega)).1) | ((with_reducible apply ap_rc); exact (kd_clR _ (by omega)).1) | ((with_reducible apply ap_rc); exact (kd_clR _ (by omega)).2.2.1) | ((with_reducible apply ap_rR); exact (kd_ridA _ (by omega)).1) | ((with_reducible apply ap_rN); rfl) | ((with_reducible apply M_in)) | ((with_reducible apply X_isWithin)) | ((with_reducible apply ap_rI); rfl) | ((with_reducible apply ap_wI); rfl) | ((with_reducible apply ap_iA); rfl; (try simp only [bz_lit, pk_mul, nI_add]); rfl; omega) | ((with_reducible apply ap_iW); rfl; (try simp only [bz_lit, pk_mul, nI_add]); rfl; omega))
  rw [hpm.1]
  refine ⟨fun c => ?_, fun c => ?_⟩
  · have c2 := m2.mp ((nI_eq (b := 2) (by omega) (by decide)).mp c)
    have hv := k1 c2
    repeat (first | ((with_reducible apply ap_rc); rfl) | ((with_reducible apply ap_nn)) | ((with_reducible apply ap_rR); rfl) | ((with_reducible apply M_ofOrder); rfl; (exact bz_lit _); omega; (first | omega | decide)) | ((with_reducible apply M_ofRider); rfl; (exact bz_lit _); omega; (first | omega | decide)) | ((with_reducible apply ap_rI); exact kd_ord _ (by omega) _ (by decide)) | ((with_reducible apply ap_wI); exact kd_ord _ (by omega) _ (by decide)) | ((with_reducible apply ap_rI); exact kd_rid _ (by omega) _ (by decide)) | ((with_reducible apply ap_wI); exact kd_rid _ (by omega) _ (by decide)) | ((with_reducible apply ap_rc); exact (kd_clO _ (by omega)).1) | ((with_reducible apply ap_rc); exact (kd_clR _ (by omega)).1) | ((with_reducible apply ap_rc); exact (kd_clR _ (by omega)).2.2.1) | ((with_reducible apply ap_rR); exact (kd_ridA _ (by omega)).1) | ((with_reducible apply ap_rN); rfl) | ((with_reducible apply M_in)) | ((with_reducible apply X_isWithin)) | ((with_reducible apply ap_rI); rfl) | ((with_reducible apply ap_wI); rfl) | ((with_reducible apply ap_iA); rfl; (try simp only [bz_lit, pk_mul, nI_add]); rfl; omega) | ((with_reducible apply ap_iW); rfl; (try simp only [bz_lit, pk_mul, nI_add]); rfl; omega))
    rw [hpm.1, hpm.2.1 (Or.inl c2), if_pos c]
    refine fin _ _ (Or.inl c2) ?_ ?_
    · unfold mw
      rw [if_pos (by omega)]
      rfl
    · unfold mv
      rw [if_pos (by omega)]
  · have n2 : ¬ (t_tk b N p).1 = 2 := fun z => c (congrArg nI (m2.mpr z))
    repeat (first | ((with_reducible apply ap_rc); rfl) | ((with_reducible apply ap_nn)) | ((with_reducible apply ap_rR); rfl) | ((with_reducible apply M_ofOrder); rfl; (exact bz_lit _); omega; (first | omega | decide)) | ((with_reducible apply M_ofRider); rfl; (exact bz_lit _); omega; (first | omega | decide)) | ((with_reducible apply ap_rI); exact kd_ord _ (by omega) _ (by decide)) | ((with_reducible apply ap_wI); exact kd_ord _ (by omega) _ (by decide)) | ((with_reducible apply ap_rI); exact kd_rid _ (by omega) _ (by decide)) | ((with_reducible apply ap_wI); exact kd_rid _ (by omega) _ (by decide)) | ((with_reducible apply ap_rc); exact (kd_clO _ (by omega)).1) | ((with_reducible apply ap_rc); exact (kd_clR _ (by omega)).1) | ((with_reducible apply ap_rc); exact (kd_clR _ (by omega)).2.2.1) | ((with_reducible apply ap_rR); exact (kd_ridA _ (by omega)).1) | ((with_reducible apply ap_rN); rfl) | ((with_reducible apply M_in)) | ((with_reducible apply X_isWithin)) | ((with_reducible apply ap_rI); rfl) | ((with_reducible apply ap_wI); rfl) | ((with_reducible apply ap_iA); rfl; (try simp only [bz_lit, pk_mul, nI_add]); rfl; omega) | ((with_reducible apply ap_iW); rfl; (try simp only [bz_lit, pk_mul, nI_add]); rfl; omega))
    rw [hpm.1]
    refine ⟨fun c1 => ?_, fun c1 => ?_⟩
    · have n3 : ¬ (t_tk b N p).1 = 3 := fun z => c1 (congrArg nI (m3.mpr z))
      rw [if_neg (by omega)] at hP
      repeat (first | ((with_reducible apply ap_rc); rfl) | ((with_reducible apply ap_nn)) | ((with_reducible apply ap_rR); rfl) | ((with_reducible apply M_ofOrder); rfl; (exact bz_lit _); omega; (first | omega | decide)) | ((with_reducible apply M_ofRider); rfl; (exact bz_lit _); omega; (first | omega | decide)) | ((with_reducible apply ap_rI); exact kd_ord _ (by omega) _ (by decide)) | ((with_reducible apply ap_wI); exact kd_ord _ (by omega) _ (by decide)) | ((with_reducible apply ap_rI); exact kd_rid _ (by omega) _ (by decide)) | ((with_reducible apply ap_wI); exact kd_rid _ (by omega) _ (by decide)) | ((with_reducible apply ap_rc); exact (kd_clO _ (by omega)).1) | ((with_reducible apply ap_rc); exact (kd_clR _ (by omega)).1) | ((with_reducible apply ap_rc); exact (kd_clR _ (by omega)).2.2.1) | ((with_reducible apply ap_rR); exact (kd_ridA _ (by omega)).1) | ((with_reducible apply ap_rN); rfl) | ((with_reducible apply M_in)) | ((with_reducible apply X_isWithin)) | ((with_reducible apply ap_rI); rfl) | ((with_reducible apply ap_wI); rfl) | ((with_reducible apply ap_iA); rfl; (try simp only [bz_lit, pk_mul, nI_add]); rfl; omega) | ((with_reducible apply ap_iW); rfl; (try simp only [bz_lit, pk_mul, nI_add]); rfl; omega))
      refine M_isSign (c := 45) rfl (by decide) hpm (by omega) ?_
      refine ⟨fun c2 => ?_, fun c2 => ?_⟩
      · have n45 := ite_01.mp c2
        rw [if_neg n45] at hP
        repeat (first | ((with_reducible apply ap_rc); rfl) | ((with_reducible apply ap_nn)) | ((with_reducible apply ap_rR); rfl) | ((with_reducible apply M_ofOrder); rfl; (exact bz_lit _); omega; (first | omega | decide)) | ((with_reducible apply M_ofRider); rfl; (exact bz_lit _); omega; (first | omega | decide)) | ((with_reducible apply ap_rI); exact kd_ord _ (by omega) _ (by decide)) | ((with_reducible apply ap_wI); exact kd_ord _ (by omega) _ (by decide)) | ((with_reducible apply ap_rI); exact kd_rid _ (by omega) _ (by decide)) | ((with_reducible apply ap_wI); exact kd_rid _ (by omega) _ (by decide)) | ((with_reducible apply ap_rc); exact (kd_clO _ (by omega)).1) | ((with_reducible apply ap_rc); exact (kd_clR _ (by omega)).1) | ((with_reducible apply ap_rc); exact (kd_clR _ (by omega)).2.2.1) | ((with_reducible apply ap_rR); exact (kd_ridA _ (by omega)).1) | ((with_reducible apply ap_rN); rfl) | ((with_reducible apply M_in)) | ((with_reducible apply X_isWithin)) | ((with_reducible apply ap_rI); rfl) | ((with_reducible apply ap_wI); rfl) | ((with_reducible apply ap_iA); rfl; (try simp only [bz_lit, pk_mul, nI_add]); rfl; omega) | ((with_reducible apply ap_iW); rfl; (try simp only [bz_lit, pk_mul, nI_add]); rfl; omega))
        refine M_isSign (c := 40) rfl (by decide) hpm (by omega) ?_
        refine ⟨fun c3 => ?_, fun c3 => ?_⟩
        · have n40 := ite_01.mp c3
          rw [if_neg n40] at hP
          exact ⟨_, rfl, hP S (fr_r _ S) ha.1 ha.2.1 (fun z => by cases z)⟩
        · have c' : t_tk b N p = (4, 40) := Classical.byContradiction (fun z => c3 (ite_01.mpr z))
          rw [if_pos c'] at hP
          have g := tn.2.2 (by rw [c']; decide)
          repeat (first | ((with_reducible apply ap_rc); rfl) | ((with_reducible apply ap_nn)) | ((with_reducible apply ap_rR); rfl) | ((with_reducible apply M_ofOrder); rfl; (exact bz_lit _); omega; (first | omega | decide)) | ((with_reducible apply M_ofRider); rfl; (exact bz_lit _); omega; (first | omega | decide)) | ((with_reducible apply ap_rI); exact kd_ord _ (by omega) _ (by decide)) | ((with_reducible apply ap_wI); exact kd_ord _ (by omega) _ (by decide)) | ((with_reducible apply ap_rI); exact kd_rid _ (by omega) _ (by decide)) | ((with_reducible apply ap_wI); exact kd_rid _ (by omega) _ (by decide)) | ((with_reducible apply ap_rc); exact (kd_clO _ (by omega)).1) | ((with_reducible apply ap_rc); exact (kd_clR _ (by omega)).1) | ((with_reducible apply ap_rc); exact (kd_clR _ (by omega)).2.2.1) | ((with_reducible apply ap_rR); exact (kd_ridA _ (by omega)).1) | ((with_reducible apply ap_rN); rfl) | ((with_reducible apply M_in)) | ((with_reducible apply X_isWithin)) | ((with_reducible apply ap_rI); rfl) | ((with_reducible apply ap_wI); rfl) | ((with_reducible apply ap_iA); rfl; (try simp only [bz_lit, pk_mul, nI_add]); rfl; omega) | ((with_reducible apply ap_iW); rfl; (try simp only [bz_lit, pk_mul, nI_add]); rfl; omega))
          refine M_opens hN hb hp hk ha (by omega) (fun z => ?_) (fun k6 S1 r1 a1 => ?_)
          · rw [if_neg z] at hP
            exact ⟨fun _ => ⟨_, rfl, hP S (fr_r _ S) ha.1 ha.2.1 (fun z => by cases z)⟩, fun z => absurd rfl z⟩
          · rw [if_pos k6] at hP
            refine ⟨fun z => absurd z (by decide), fun _ => ?_⟩
            repeat (first | ((with_reducible apply ap_rc); rfl) | ((with_reducible apply ap_nn)) | ((with_reducible apply ap_rR); rfl) | ((with_reducible apply M_ofOrder); rfl; (exact bz_lit _); omega; (first | omega | decide)) | ((with_reducible apply M_ofRider); rfl; (exact bz_lit _); omega; (first | omega | decide)) | ((with_reducible apply ap_rI); exact kd_ord _ (by omega) _ (by decide)) | ((with_reducible apply ap_wI); exact kd_ord _ (by omega) _ (by decide)) | ((with_reducible apply ap_rI); exact kd_rid _ (by omega) _ (by decide)) | ((with_reducible apply ap_wI); exact kd_rid _ (by omega) _ (by decide)) | ((with_reducible apply ap_rc); exact (kd_clO _ (by omega)).1) | ((with_reducible apply ap_rc); exact (kd_clR _ (by omega)).1) | ((with_reducible apply ap_rc); exact (kd_clR _ (by omega)).2.2.1) | ((with_reducible apply ap_rR); exact (kd_ridA _ (by omega)).1) | ((with_reducible apply ap_rN); rfl) | ((with_reducible apply M_in)) | ((with_reducible apply X_isWithin)) | ((with_reducible apply ap_rI); rfl) | ((with_reducible apply ap_wI); rfl) | ((with_reducible apply ap_iA); rfl; (try simp only [bz_lit, pk_mul, nI_add]); rfl; omega) | ((with_reducible apply ap_iW); rfl; (try simp only [bz_lit, pk_mul, nI_add]); rfl; omega))
            refine h0 G l E d' S1 (k + 1) (t_nx b N p) st _ a1 (by omega) tn.2.1 (by omega) (by omega) (by omega) (fun S2 r2 t2 p2 s2 => ?_)
            have gg := t_p_i b N f 0 (k + 1) (t_nx b N p) st (by omega) tn.2.1
            generalize t_p b N f 0 (k + 1) (t_nx b N p) st = R1 at *
            by_cases hR : R1.1 = true
            · rw [if_pos hR]
              rw [t_bT hR] at hP
              obtain ⟨q1, q2, q3, q4, -, -⟩ := gg hR
              refine ⟨fun z => absurd z (by decide), fun _ => ?_⟩
              repeat (first | ((with_reducible apply ap_rc); rfl) | ((with_reducible apply ap_nn)) | ((with_reducible apply ap_rR); rfl) | ((with_reducible apply M_ofOrder); rfl; (exact bz_lit _); omega; (first | omega | decide)) | ((with_reducible apply M_ofRider); rfl; (exact bz_lit _); omega; (first | omega | decide)) | ((with_reducible apply ap_rI); exact kd_ord _ (by omega) _ (by decide)) | ((with_reducible apply ap_wI); exact kd_ord _ (by omega) _ (by decide)) | ((with_reducible apply ap_rI); exact kd_rid _ (by omega) _ (by decide)) | ((with_reducible apply ap_wI); exact kd_rid _ (by omega) _ (by decide)) | ((with_reducible apply ap_rc); exact (kd_clO _ (by omega)).1) | ((with_reducible apply ap_rc); exact (kd_clR _ (by omega)).1) | ((with_reducible apply ap_rc); exact (kd_clR _ (by omega)).2.2.1) | ((with_reducible apply ap_rR); exact (kd_ridA _ (by omega)).1) | ((with_reducible apply ap_rN); rfl) | ((with_reducible apply M_in)) | ((with_reducible apply X_isWithin)) | ((with_reducible apply ap_rI); rfl) | ((with_reducible apply ap_wI); rfl) | ((with_reducible apply ap_iA); rfl; (try simp only [bz_lit, pk_mul, nI_add]); rfl; omega) | ((with_reducible apply ap_iW); rfl; (try simp only [bz_lit, pk_mul, nI_add]); rfl; omega))
              refine M_isSign (c := 41) rfl (by decide) p2 (by omega) ?_
              refine ⟨fun c5 => ?_, fun c5 => ?_⟩
              · have c41 : t_tk b N R1.2.1 = (4, 41) := Classical.byContradiction (fun z => c5 (ite_01.mpr z))
                rw [if_pos c41] at hP
                repeat (first | ((with_reducible apply ap_rc); rfl) | ((with_reducible apply ap_nn)) | ((with_reducible apply ap_rR); rfl) | ((with_reducible apply M_ofOrder); rfl; (exact bz_lit _); omega; (first | omega | decide)) | ((with_reducible apply M_ofRider); rfl; (exact bz_lit _); omega; (first | omega | decide)) | ((with_reducible apply ap_rI); exact kd_ord _ (by omega) _ (by decide)) | ((with_reducible apply ap_wI); exact kd_ord _ (by omega) _ (by decide)) | ((with_reducible apply ap_rI); exact kd_rid _ (by omega) _ (by decide)) | ((with_reducible apply ap_wI); exact kd_rid _ (by omega) _ (by decide)) | ((with_reducible apply ap_rc); exact (kd_clO _ (by omega)).1) | ((with_reducible apply ap_rc); exact (kd_clR _ (by omega)).1) | ((with_reducible apply ap_rc); exact (kd_clR _ (by omega)).2.2.1) | ((with_reducible apply ap_rR); exact (kd_ridA _ (by omega)).1) | ((with_reducible apply ap_rN); rfl) | ((with_reducible apply M_in)) | ((with_reducible apply X_isWithin)) | ((with_reducible apply ap_rI); rfl) | ((with_reducible apply ap_wI); rfl) | ((with_reducible apply ap_iA); rfl; (try simp only [bz_lit, pk_mul, nI_add]); rfl; omega) | ((with_reducible apply ap_iW); rfl; (try simp only [bz_lit, pk_mul, nI_add]); rfl; omega))
                rw [(s2 hR).2, show nI (k + 1) - 1 = nI k from nI_pred k]
                have r3 : fr (fun c k => c = 186 ∧ k = 19) S2 (bz_u S2.1 186 19 (nI k), S2.2) := fr_u (S := S2) (by first | omega | (dsimp only; omega))
                repeat (first | ((with_reducible apply ap_rc); rfl) | ((with_reducible apply ap_nn)) | ((with_reducible apply ap_rR); rfl) | ((with_reducible apply M_ofOrder); rfl; (exact bz_lit _); omega; (first | omega | decide)) | ((with_reducible apply M_ofRider); rfl; (exact bz_lit _); omega; (first | omega | decide)) | ((with_reducible apply ap_rI); exact kd_ord _ (by omega) _ (by decide)) | ((with_reducible apply ap_wI); exact kd_ord _ (by omega) _ (by decide)) | ((with_reducible apply ap_rI); exact kd_rid _ (by omega) _ (by decide)) | ((with_reducible apply ap_wI); exact kd_rid _ (by omega) _ (by decide)) | ((with_reducible apply ap_rc); exact (kd_clO _ (by omega)).1) | ((with_reducible apply ap_rc); exact (kd_clR _ (by omega)).1) | ((with_reducible apply ap_rc); exact (kd_clR _ (by omega)).2.2.1) | ((with_reducible apply ap_rR); exact (kd_ridA _ (by omega)).1) | ((with_reducible apply ap_rN); rfl) | ((with_reducible apply M_in)) | ((with_reducible apply X_isWithin)) | ((with_reducible apply ap_rI); rfl) | ((with_reducible apply ap_wI); rfl) | ((with_reducible apply ap_iA); rfl; (try simp only [bz_lit, pk_mul, nI_add]); rfl; omega) | ((with_reducible apply ap_iW); rfl; (try simp only [bz_lit, pk_mul, nI_add]); rfl; omega))
                refine M_nxp hN hb q2 ⟨tbM_f t2 r3 (by intro c k h; first | omega | (dsimp only at h ⊢; omega) | (dsimp only at h; omega) | (dsimp only; omega)), pm_f p2 r3 (by intro c k h; first | omega | (dsimp only at h ⊢; omega) | (dsimp only at h; omega) | (dsimp only; omega)), sm_f (s2 hR).1 r3 (by intro c k h; first | omega | (dsimp only at h ⊢; omega) | (dsimp only at h; omega) | (dsimp only; omega)), by dsimp only; rw [bz_u_same]⟩ (by omega) (fun S3 r4 a3 => ?_)
                exact ⟨_, rfl, hP S3 (fr_t r1 (fr_t r2 (fr_t (fr_m r3 (by intro c k h; first | omega | (dsimp only at h ⊢; omega) | (dsimp only at h; omega) | (dsimp only; omega))) (fr_m r4 (by intro c k h; first | omega | (dsimp only at h ⊢; omega) | (dsimp only at h; omega) | (dsimp only; omega)))))) a3.1 a3.2.1 (fun _ => ⟨a3.2.2.1, a3.2.2.2⟩)⟩
              · have n41 := ite_01.mp c5
                rw [if_neg n41] at hP
                exact ⟨_, rfl, hP S2 (fr_t r1 r2) t2 p2 (fun z => by cases z)⟩
            · rw [if_neg hR]
              rw [t_bF hR] at hP
              refine ⟨fun _ => ⟨_, rfl, ?_⟩, fun z => absurd rfl z⟩
              have := hP S2 (fr_t r1 r2) t2 p2 (fun z => absurd z hR)
              rw [if_neg hR] at this
              exact this
      · have c' : t_tk b N p = (4, 45) := Classical.byContradiction (fun z => c2 (ite_01.mpr z))
        rw [if_pos c'] at hP
        have g := tn.2.2 (by rw [c']; decide)
        repeat (first | ((with_reducible apply ap_rc); rfl) | ((with_reducible apply ap_nn)) | ((with_reducible apply ap_rR); rfl) | ((with_reducible apply M_ofOrder); rfl; (exact bz_lit _); omega; (first | omega | decide)) | ((with_reducible apply M_ofRider); rfl; (exact bz_lit _); omega; (first | omega | decide)) | ((with_reducible apply ap_rI); exact kd_ord _ (by omega) _ (by decide)) | ((with_reducible apply ap_wI); exact kd_ord _ (by omega) _ (by decide)) | ((with_reducible apply ap_rI); exact kd_rid _ (by omega) _ (by decide)) | ((with_reducible apply ap_wI); exact kd_rid _ (by omega) _ (by decide)) | ((with_reducible apply ap_rc); exact (kd_clO _ (by omega)).1) | ((with_reducible apply ap_rc); exact (kd_clR _ (by omega)).1) | ((with_reducible apply ap_rc); exact (kd_clR _ (by omega)).2.2.1) | ((with_reducible apply ap_rR); exact (kd_ridA _ (by omega)).1) | ((with_reducible apply ap_rN); rfl) | ((with_reducible apply M_in)) | ((with_reducible apply X_isWithin)) | ((with_reducible apply ap_rI); rfl) | ((with_reducible apply ap_wI); rfl) | ((with_reducible apply ap_iA); rfl; (try simp only [bz_lit, pk_mul, nI_add]); rfl; omega) | ((with_reducible apply ap_iW); rfl; (try simp only [bz_lit, pk_mul, nI_add]); rfl; omega))
        refine M_opens hN hb hp hk ha (by omega) (fun z => ?_) (fun k6 S1 r1 a1 => ?_)
        · rw [if_neg z] at hP
          exact ⟨fun _ => ⟨_, rfl, hP S (fr_r _ S) ha.1 ha.2.1 (fun z => by cases z)⟩, fun z => absurd rfl z⟩
        · rw [if_pos k6] at hP
          refine ⟨fun z => absurd z (by decide), fun _ => ?_⟩
          repeat (first | ((with_reducible apply ap_rc); rfl) | ((with_reducible apply ap_nn)) | ((with_reducible apply ap_rR); rfl) | ((with_reducible apply M_ofOrder); rfl; (exact bz_lit _); omega; (first | omega | decide)) | ((with_reducible apply M_ofRider); rfl; (exact bz_lit _); omega; (first | omega | decide)) | ((with_reducible apply ap_rI); exact kd_ord _ (by omega) _ (by decide)) | ((with_reducible apply ap_wI); exact kd_ord _ (by omega) _ (by decide)) | ((with_reducible apply ap_rI); exact kd_rid _ (by omega) _ (by decide)) | ((with_reducible apply ap_wI); exact kd_rid _ (by omega) _ (by decide)) | ((with_reducible apply ap_rc); exact (kd_clO _ (by omega)).1) | ((with_reducible apply ap_rc); exact (kd_clR _ (by omega)).1) | ((with_reducible apply ap_rc); exact (kd_clR _ (by omega)).2.2.1) | ((with_reducible apply ap_rR); exact (kd_ridA _ (by omega)).1) | ((with_reducible apply ap_rN); rfl) | ((with_reducible apply M_in)) | ((with_reducible apply X_isWithin)) | ((with_reducible apply ap_rI); rfl) | ((with_reducible apply ap_wI); rfl) | ((with_reducible apply ap_iA); rfl; (try simp only [bz_lit, pk_mul, nI_add]); rfl; omega) | ((with_reducible apply ap_iW); rfl; (try simp only [bz_lit, pk_mul, nI_add]); rfl; omega))
          refine h5 G l E d' S1 (k + 1) (t_nx b N p) st _ a1 (by omega) tn.2.1 (by omega) (by omega) (by omega) (fun S2 r2 t2 p2 s2 => ?_)
          have gg := t_p_i b N f 5 (k + 1) (t_nx b N p) st (by omega) tn.2.1
          generalize t_p b N f 5 (k + 1) (t_nx b N p) st = R1 at *
          by_cases hR : R1.1 = true
          · rw [if_pos hR]
            rw [t_bT hR] at hP
            obtain ⟨q1, q2, q3, q4, -, -⟩ := gg hR
            have q3' := q3 (by decide) (by decide)
            refine ⟨fun _ => ?_, fun z => absurd z (by decide)⟩
            repeat (first | ((with_reducible apply ap_rc); rfl) | ((with_reducible apply ap_nn)) | ((with_reducible apply ap_rR); rfl) | ((with_reducible apply M_ofOrder); rfl; (exact bz_lit _); omega; (first | omega | decide)) | ((with_reducible apply M_ofRider); rfl; (exact bz_lit _); omega; (first | omega | decide)) | ((with_reducible apply ap_rI); exact kd_ord _ (by omega) _ (by decide)) | ((with_reducible apply ap_wI); exact kd_ord _ (by omega) _ (by decide)) | ((with_reducible apply ap_rI); exact kd_rid _ (by omega) _ (by decide)) | ((with_reducible apply ap_wI); exact kd_rid _ (by omega) _ (by decide)) | ((with_reducible apply ap_rc); exact (kd_clO _ (by omega)).1) | ((with_reducible apply ap_rc); exact (kd_clR _ (by omega)).1) | ((with_reducible apply ap_rc); exact (kd_clR _ (by omega)).2.2.1) | ((with_reducible apply ap_rR); exact (kd_ridA _ (by omega)).1) | ((with_reducible apply ap_rN); rfl) | ((with_reducible apply M_in)) | ((with_reducible apply X_isWithin)) | ((with_reducible apply ap_rI); rfl) | ((with_reducible apply ap_wI); rfl) | ((with_reducible apply ap_iA); rfl; (try simp only [bz_lit, pk_mul, nI_add]); rfl; omega) | ((with_reducible apply ap_iW); rfl; (try simp only [bz_lit, pk_mul, nI_add]); rfl; omega))
            rw [(s2 hR).2, show nI (k + 1) - 1 = nI k from nI_pred k]
            have r3 : fr (fun c k => c = 186 ∧ k = 19) S2 (bz_u S2.1 186 19 (nI k), S2.2) := fr_u (S := S2) (by first | omega | (dsimp only; omega))
            repeat (first | ((with_reducible apply ap_rc); rfl) | ((with_reducible apply ap_nn)) | ((with_reducible apply ap_rR); rfl) | ((with_reducible apply M_ofOrder); rfl; (exact bz_lit _); omega; (first | omega | decide)) | ((with_reducible apply M_ofRider); rfl; (exact bz_lit _); omega; (first | omega | decide)) | ((with_reducible apply ap_rI); exact kd_ord _ (by omega) _ (by decide)) | ((with_reducible apply ap_wI); exact kd_ord _ (by omega) _ (by decide)) | ((with_reducible apply ap_rI); exact kd_rid _ (by omega) _ (by decide)) | ((with_reducible apply ap_wI); exact kd_rid _ (by omega) _ (by decide)) | ((with_reducible apply ap_rc); exact (kd_clO _ (by omega)).1) | ((with_reducible apply ap_rc); exact (kd_clR _ (by omega)).1) | ((with_reducible apply ap_rc); exact (kd_clR _ (by omega)).2.2.1) | ((with_reducible apply ap_rR); exact (kd_ridA _ (by omega)).1) | ((with_reducible apply ap_rN); rfl) | ((with_reducible apply M_in)) | ((with_reducible apply X_isWithin)) | ((with_reducible apply ap_rI); rfl) | ((with_reducible apply ap_wI); rfl) | ((with_reducible apply ap_iA); rfl; (try simp only [bz_lit, pk_mul, nI_add]); rfl; omega) | ((with_reducible apply ap_iW); rfl; (try simp only [bz_lit, pk_mul, nI_add]); rfl; omega))
            refine M_lays (c := 10263) rfl rfl (sm_f (s2 hR).1 r3 (by intro c k h; first | omega | (dsimp only at h ⊢; omega) | (dsimp only at h; omega) | (dsimp only; omega))) (by omega) (by omega) (fun S3 r4 s4 => ?_)
            have r34 := fr_t (fr_m r3 (Y := MT) (by intro c k h; first | omega | (dsimp only at h ⊢; omega) | (dsimp only at h; omega) | (dsimp only; omega))) (fr_m r4 (Y := MT) (by intro c k h; first | omega | (dsimp only at h ⊢; omega) | (dsimp only at h; omega) | (dsimp only; omega)))
            refine ⟨_, rfl, hP S3 (fr_t r1 (fr_t r2 r34)) (tbM_f (tbM_f t2 r3 (by intro c k h; first | omega | (dsimp only at h ⊢; omega) | (dsimp only at h; omega) | (dsimp only; omega))) r4 (by intro c k h; first | omega | (dsimp only at h ⊢; omega) | (dsimp only at h; omega) | (dsimp only; omega))) (pm_f (pm_f p2 r3 (by intro c k h; first | omega | (dsimp only at h ⊢; omega) | (dsimp only at h; omega) | (dsimp only; omega))) r4 (by intro c k h; first | omega | (dsimp only at h ⊢; omega) | (dsimp only at h; omega) | (dsimp only; omega))) (fun _ => ⟨s4, ?_⟩)⟩
            rw [r4.2 186 19 (by dsimp only; omega)]
            dsimp only
            rw [bz_u_same]
          · rw [if_neg hR]
            rw [t_bF hR] at hP
            refine ⟨fun z => absurd rfl z, fun _ => ⟨_, rfl, ?_⟩⟩
            have := hP S2 (fr_t r1 r2) t2 p2 (fun z => absurd z hR)
            rw [if_neg hR] at this
            exact this
    · have c3 := m3.mp ((nI_eq (b := 1) (by omega) (by decide)).mp c1)
      have hv := k2 c3
      repeat (first | ((with_reducible apply ap_rc); rfl) | ((with_reducible apply ap_nn)) | ((with_reducible apply ap_rR); rfl) | ((with_reducible apply M_ofOrder); rfl; (exact bz_lit _); omega; (first | omega | decide)) | ((with_reducible apply M_ofRider); rfl; (exact bz_lit _); omega; (first | omega | decide)) | ((with_reducible apply ap_rI); exact kd_ord _ (by omega) _ (by decide)) | ((with_reducible apply ap_wI); exact kd_ord _ (by omega) _ (by decide)) | ((with_reducible apply ap_rI); exact kd_rid _ (by omega) _ (by decide)) | ((with_reducible apply ap_wI); exact kd_rid _ (by omega) _ (by decide)) | ((with_reducible apply ap_rc); exact (kd_clO _ (by omega)).1) | ((with_reducible apply ap_rc); exact (kd_clR _ (by omega)).1) | ((with_reducible apply ap_rc); exact (kd_clR _ (by omega)).2.2.1) | ((with_reducible apply ap_rR); exact (kd_ridA _ (by omega)).1) | ((with_reducible apply ap_rN); rfl) | ((with_reducible apply M_in)) | ((with_reducible apply X_isWithin)) | ((with_reducible apply ap_rI); rfl) | ((with_reducible apply ap_wI); rfl) | ((with_reducible apply ap_iA); rfl; (try simp only [bz_lit, pk_mul, nI_add]); rfl; omega) | ((with_reducible apply ap_iW); rfl; (try simp only [bz_lit, pk_mul, nI_add]); rfl; omega))
      rw [hpm.1, hpm.2.2.1 c3, if_neg c]
      refine fin _ _ (Or.inr c3) ?_ ?_
      · unfold mw
        rw [if_neg (by omega), if_pos (by omega)]
        rfl
      · unfold mv
        rw [if_neg (by omega), if_pos (by omega)]
/-- the rest of a term -/
theorem M_rest_term {b : Nat → Nat} {N f : Nat} (hN : N ≤ 80) (hb : ∀ j, b j < 256) (hi : spM b N f 5 6 2 kX12_one) (hr : lpM b N f 4 6 5 kX12_term) : lpM b N (f + 1) 4 6 5 kX12_term := by
  intro G l E d κ bc bs S k p st u1 P hl ha hlen hp hf hk hd hP
  refine g_X12_term_9 hl _ _ _ ?_
  unfold w_X12_term_9
  rw [t_p] at hP
  have tn := t_nx_b (b := b) hp
  have hpm := ha.2.1
  have k4 := t_tk_4 b N p
  have go : ∀ (hc : t_tk b N p = (4, 42) ∨ t_tk b N p = (4, 47)), bz_cV G l d kX12_next [.inr (some 186)] (bz_hp E S) 0 0 (fun h_7 => bz_rc h_7 186 12 (bz_cI G l d kX12_one [.inr (some 186)] h_7 0 0 (fun x_8 h_9 => (¬ x_8 = 0 → bz_rc h_9 186 12 (bz_cV G l d kX12_lays [.inr (some 186), .inl 3, .inl (nI (t_tk b N p).2)] h_9 0 0 (fun h_11 => bz_J G κ kX12_term (d + 1) (fun v h' => ∃ x, v = some (.inl x) ∧ P x h') bc bs 9 [some (.inr (some 186)), some (.inl (nI (t_tk b N p).2))] [] h_11))) ∧ (x_8 = 0 → ∃ x, (some (.inl 0) : Option bz_V) = some (.inl x) ∧ P x h_9)))) := by
    intro hc
    rw [if_pos hc] at hP
    have g := tn.2.2 (t_sgc hc).1
    have sc := (t_sgc hc).2
    refine M_nxp hN hb hp ha (by omega) (fun S1 r1 a1 => ?_)
    repeat (first | ((with_reducible apply ap_rc); rfl) | ((with_reducible apply ap_nn)) | ((with_reducible apply ap_rR); rfl) | ((with_reducible apply M_ofOrder); rfl; (exact bz_lit _); omega; (first | omega | decide)) | ((with_reducible apply M_ofRider); rfl; (exact bz_lit _); omega; (first | omega | decide)) | ((with_reducible apply ap_rI); exact kd_ord _ (by omega) _ (by decide)) | ((with_reducible apply ap_wI); exact kd_ord _ (by omega) _ (by decide)) | ((with_reducible apply ap_rI); exact kd_rid _ (by omega) _ (by decide)) | ((with_reducible apply ap_wI); exact kd_rid _ (by omega) _ (by decide)) | ((with_reducible apply ap_rc); exact (kd_clO _ (by omega)).1) | ((with_reducible apply ap_rc); exact (kd_clR _ (by omega)).1) | ((with_reducible apply ap_rc); exact (kd_clR _ (by omega)).2.2.1) | ((with_reducible apply ap_rR); exact (kd_ridA _ (by omega)).1) | ((with_reducible apply ap_rN); rfl) | ((with_reducible apply M_in)) | ((with_reducible apply X_isWithin)) | ((with_reducible apply ap_rI); rfl) | ((with_reducible apply ap_wI); rfl) | ((with_reducible apply ap_iA); rfl; (try simp only [bz_lit, pk_mul, nI_add]); rfl; omega) | ((with_reducible apply ap_iW); rfl; (try simp only [bz_lit, pk_mul, nI_add]); rfl; omega))
    refine hi G l E d S1 k (t_nx b N p) st _ a1 (by omega) tn.2.1 (by omega) hk (by omega) (fun S2 r2 t2 p2 s2 => ?_)
    have gg := t_p_i b N f 5 k (t_nx b N p) st (by omega) tn.2.1
    generalize t_p b N f 5 k (t_nx b N p) st = R1 at *
    by_cases hR : R1.1 = true
    · rw [if_pos hR]
      rw [t_bT hR] at hP
      obtain ⟨q1, q2, q3, q4, -, -⟩ := gg hR
      have q3' := q3 (by decide) (by decide)
      have ms := mw_s (c := (t_tk b N p).2) (by omega)
      refine ⟨fun _ => ?_, fun z => absurd z (by decide)⟩
      repeat (first | ((with_reducible apply ap_rc); rfl) | ((with_reducible apply ap_nn)) | ((with_reducible apply ap_rR); rfl) | ((with_reducible apply M_ofOrder); rfl; (exact bz_lit _); omega; (first | omega | decide)) | ((with_reducible apply M_ofRider); rfl; (exact bz_lit _); omega; (first | omega | decide)) | ((with_reducible apply ap_rI); exact kd_ord _ (by omega) _ (by decide)) | ((with_reducible apply ap_wI); exact kd_ord _ (by omega) _ (by decide)) | ((with_reducible apply ap_rI); exact kd_rid _ (by omega) _ (by decide)) | ((with_reducible apply ap_wI); exact kd_rid _ (by omega) _ (by decide)) | ((with_reducible apply ap_rc); exact (kd_clO _ (by omega)).1) | ((with_reducible apply ap_rc); exact (kd_clR _ (by omega)).1) | ((with_reducible apply ap_rc); exact (kd_clR _ (by omega)).2.2.1) | ((with_reducible apply ap_rR); exact (kd_ridA _ (by omega)).1) | ((with_reducible apply ap_rN); rfl) | ((with_reducible apply M_in)) | ((with_reducible apply X_isWithin)) | ((with_reducible apply ap_rI); rfl) | ((with_reducible apply ap_wI); rfl) | ((with_reducible apply ap_iA); rfl; (try simp only [bz_lit, pk_mul, nI_add]); rfl; omega) | ((with_reducible apply ap_iW); rfl; (try simp only [bz_lit, pk_mul, nI_add]); rfl; omega))
      refine M_lays (c := 10007 + (t_tk b N p).2) (by rw [ms.1]; rfl) (by rw [ms.2]) (s2 hR).1 (by omega) (by omega) (fun S3 r3 s3 => ?_)
      refine hr G l E d κ bc bs S3 k R1.2.1 _ _ P hl ⟨tbM_f t2 r3 (by intro c k h; first | omega | (dsimp only at h ⊢; omega) | (dsimp only at h; omega) | (dsimp only; omega)), pm_f p2 r3 (by intro c k h; first | omega | (dsimp only at h ⊢; omega) | (dsimp only at h; omega) | (dsimp only; omega)), s3, (r3.2 186 19 (by dsimp only; omega)).trans (s2 hR).2⟩ ?_ q2 (by omega) hk hd (fun S4 r4 t4 p4 s4 => hP S4 (fr_t (fr_m r1 (by intro c k h; first | omega | (dsimp only at h ⊢; omega) | (dsimp only at h; omega) | (dsimp only; omega))) (fr_t r2 (fr_t (fr_m r3 (by intro c k h; first | omega | (dsimp only at h ⊢; omega) | (dsimp only at h; omega) | (dsimp only; omega))) r4))) t4 p4 s4)
      rw [List.length_append]
      simp only [List.length_cons, List.length_nil]
      omega
    · rw [if_neg hR]
      rw [t_bF hR] at hP
      refine ⟨fun z => absurd rfl z, fun _ => ⟨_, rfl, ?_⟩⟩
      have := hP S2 (fr_t (fr_m r1 (by intro c k h; first | omega | (dsimp only at h ⊢; omega) | (dsimp only at h; omega) | (dsimp only; omega))) r2) t2 p2 (fun z => absurd z hR)
      rw [if_neg hR] at this
      exact this
  repeat (first | ((with_reducible apply ap_rc); rfl) | ((with_reducible apply ap_nn)) | ((with_reducible apply ap_rR); rfl) | ((with_reducible apply M_ofOrder); rfl; (exact bz_lit _); omega; (first | omega | decide)) | ((with_reducible apply M_ofRider); rfl; (exact bz_lit _); omega; (first | omega | decide)) | ((with_reducible apply ap_rI); exact kd_ord _ (by omega) _ (by decide)) | ((with_reducible apply ap_wI); exact kd_ord _ (by omega) _ (by decide)) | ((with_reducible apply ap_rI); exact kd_rid _ (by omega) _ (by decide)) | ((with_reducible apply ap_wI); exact kd_rid _ (by omega) _ (by decide)) | ((with_reducible apply ap_rc); exact (kd_clO _ (by omega)).1) | ((with_reducible apply ap_rc); exact (kd_clR _ (by omega)).1) | ((with_reducible apply ap_rc); exact (kd_clR _ (by omega)).2.2.1) | ((with_reducible apply ap_rR); exact (kd_ridA _ (by omega)).1) | ((with_reducible apply ap_rN); rfl) | ((with_reducible apply M_in)) | ((with_reducible apply X_isWithin)) | ((with_reducible apply ap_rI); rfl) | ((with_reducible apply ap_wI); rfl) | ((with_reducible apply ap_iA); rfl; (try simp only [bz_lit, pk_mul, nI_add]); rfl; omega) | ((with_reducible apply ap_iW); rfl; (try simp only [bz_lit, pk_mul, nI_add]); rfl; omega))
  refine M_isSign (c := 42) rfl (by decide) hpm (by omega) ?_
  refine ⟨fun c1 => ?_, fun c1 => ?_⟩
  · have c' : t_tk b N p = (4, 42) := Classical.byContradiction (fun z => c1 (ite_01.mpr z))
    repeat (first | ((with_reducible apply ap_rc); rfl) | ((with_reducible apply ap_nn)) | ((with_reducible apply ap_rR); rfl) | ((with_reducible apply M_ofOrder); rfl; (exact bz_lit _); omega; (first | omega | decide)) | ((with_reducible apply M_ofRider); rfl; (exact bz_lit _); omega; (first | omega | decide)) | ((with_reducible apply ap_rI); exact kd_ord _ (by omega) _ (by decide)) | ((with_reducible apply ap_wI); exact kd_ord _ (by omega) _ (by decide)) | ((with_reducible apply ap_rI); exact kd_rid _ (by omega) _ (by decide)) | ((with_reducible apply ap_wI); exact kd_rid _ (by omega) _ (by decide)) | ((with_reducible apply ap_rc); exact (kd_clO _ (by omega)).1) | ((with_reducible apply ap_rc); exact (kd_clR _ (by omega)).1) | ((with_reducible apply ap_rc); exact (kd_clR _ (by omega)).2.2.1) | ((with_reducible apply ap_rR); exact (kd_ridA _ (by omega)).1) | ((with_reducible apply ap_rN); rfl) | ((with_reducible apply M_in)) | ((with_reducible apply X_isWithin)) | ((with_reducible apply ap_rI); rfl) | ((with_reducible apply ap_wI); rfl) | ((with_reducible apply ap_iA); rfl; (try simp only [bz_lit, pk_mul, nI_add]); rfl; omega) | ((with_reducible apply ap_iW); rfl; (try simp only [bz_lit, pk_mul, nI_add]); rfl; omega))
    rw [hpm.2.1 (Or.inr (by rw [c']))]
    exact go (Or.inl c')
  · have n1 := ite_01.mp c1
    repeat (first | ((with_reducible apply ap_rc); rfl) | ((with_reducible apply ap_nn)) | ((with_reducible apply ap_rR); rfl) | ((with_reducible apply M_ofOrder); rfl; (exact bz_lit _); omega; (first | omega | decide)) | ((with_reducible apply M_ofRider); rfl; (exact bz_lit _); omega; (first | omega | decide)) | ((with_reducible apply ap_rI); exact kd_ord _ (by omega) _ (by decide)) | ((with_reducible apply ap_wI); exact kd_ord _ (by omega) _ (by decide)) | ((with_reducible apply ap_rI); exact kd_rid _ (by omega) _ (by decide)) | ((with_reducible apply ap_wI); exact kd_rid _ (by omega) _ (by decide)) | ((with_reducible apply ap_rc); exact (kd_clO _ (by omega)).1) | ((with_reducible apply ap_rc); exact (kd_clR _ (by omega)).1) | ((with_reducible apply ap_rc); exact (kd_clR _ (by omega)).2.2.1) | ((with_reducible apply ap_rR); exact (kd_ridA _ (by omega)).1) | ((with_reducible apply ap_rN); rfl) | ((with_reducible apply M_in)) | ((with_reducible apply X_isWithin)) | ((with_reducible apply ap_rI); rfl) | ((with_reducible apply ap_wI); rfl) | ((with_reducible apply ap_iA); rfl; (try simp only [bz_lit, pk_mul, nI_add]); rfl; omega) | ((with_reducible apply ap_iW); rfl; (try simp only [bz_lit, pk_mul, nI_add]); rfl; omega))
    refine M_isSign (c := 47) rfl (by decide) hpm (by omega) ?_
    refine ⟨fun c2 => ?_, fun c2 => ?_⟩
    · have n2 := ite_01.mp c2
      rw [if_neg (fun z => z.elim n1 n2)] at hP
      exact ⟨_, rfl, hP S (fr_r _ S) ha.1 ha.2.1 (fun _ => ⟨ha.2.2.1, ha.2.2.2⟩)⟩
    · have c' : t_tk b N p = (4, 47) := Classical.byContradiction (fun z => c2 (ite_01.mpr z))
      repeat (first | ((with_reducible apply ap_rc); rfl) | ((with_reducible apply ap_nn)) | ((with_reducible apply ap_rR); rfl) | ((with_reducible apply M_ofOrder); rfl; (exact bz_lit _); omega; (first | omega | decide)) | ((with_reducible apply M_ofRider); rfl; (exact bz_lit _); omega; (first | omega | decide)) | ((with_reducible apply ap_rI); exact kd_ord _ (by omega) _ (by decide)) | ((with_reducible apply ap_wI); exact kd_ord _ (by omega) _ (by decide)) | ((with_reducible apply ap_rI); exact kd_rid _ (by omega) _ (by decide)) | ((with_reducible apply ap_wI); exact kd_rid _ (by omega) _ (by decide)) | ((with_reducible apply ap_rc); exact (kd_clO _ (by omega)).1) | ((with_reducible apply ap_rc); exact (kd_clR _ (by omega)).1) | ((with_reducible apply ap_rc); exact (kd_clR _ (by omega)).2.2.1) | ((with_reducible apply ap_rR); exact (kd_ridA _ (by omega)).1) | ((with_reducible apply ap_rN); rfl) | ((with_reducible apply M_in)) | ((with_reducible apply X_isWithin)) | ((with_reducible apply ap_rI); rfl) | ((with_reducible apply ap_wI); rfl) | ((with_reducible apply ap_iA); rfl; (try simp only [bz_lit, pk_mul, nI_add]); rfl; omega) | ((with_reducible apply ap_iW); rfl; (try simp only [bz_lit, pk_mul, nI_add]); rfl; omega))
      rw [hpm.2.1 (Or.inr (by rw [c']))]
      exact go (Or.inr c')
theorem M_term_s {b : Nat → Nat} {N f : Nat} (hi : spM b N f 5 6 2 kX12_one) (hr : lpM b N f 4 6 5 kX12_term) : spM b N (f + 1) 3 7 3 kX12_term := by
  intro G l E d S k p st P ha hlen hp hf hk hd hP
  obtain ⟨d', rfl⟩ : ∃ d', d = d' + 1 := ⟨d - 1, by omega⟩
  refine m_X12_term _ _ (fun κ bc bs hl => ?_)
  unfold w_X12_term_0
  rw [t_p] at hP
  repeat (first | ((with_reducible apply ap_rc); rfl) | ((with_reducible apply ap_nn)) | ((with_reducible apply ap_rR); rfl) | ((with_reducible apply M_ofOrder); rfl; (exact bz_lit _); omega; (first | omega | decide)) | ((with_reducible apply M_ofRider); rfl; (exact bz_lit _); omega; (first | omega | decide)) | ((with_reducible apply ap_rI); exact kd_ord _ (by omega) _ (by decide)) | ((with_reducible apply ap_wI); exact kd_ord _ (by omega) _ (by decide)) | ((with_reducible apply ap_rI); exact kd_rid _ (by omega) _ (by decide)) | ((with_reducible apply ap_wI); exact kd_rid _ (by omega) _ (by decide)) | ((with_reducible apply ap_rc); exact (kd_clO _ (by omega)).1) | ((with_reducible apply ap_rc); exact (kd_clR _ (by omega)).1) | ((with_reducible apply ap_rc); exact (kd_clR _ (by omega)).2.2.1) | ((with_reducible apply ap_rR); exact (kd_ridA _ (by omega)).1) | ((with_reducible apply ap_rN); rfl) | ((with_reducible apply M_in)) | ((with_reducible apply X_isWithin)) | ((with_reducible apply ap_rI); rfl) | ((with_reducible apply ap_wI); rfl) | ((with_reducible apply ap_iA); rfl; (try simp only [bz_lit, pk_mul, nI_add]); rfl; omega) | ((with_reducible apply ap_iW); rfl; (try simp only [bz_lit, pk_mul, nI_add]); rfl; omega))
  refine hi G l E d' S k p st _ ha hlen hp (by omega) hk (by omega) (fun S1 r1 t1 p1 s1 => ?_)
  have gg := t_p_i b N f 5 k p st (by omega) hp
  generalize t_p b N f 5 k p st = R1 at *
  by_cases hR : R1.1 = true
  · rw [if_pos hR]
    rw [t_bT hR] at hP
    obtain ⟨q1, q2, q3, q4, -, -⟩ := gg hR
    have q3' := q3 (by decide) (by decide)
    exact ⟨fun _ => hr G l E d' κ bc bs S1 k R1.2.1 R1.2.2 _ P hl ⟨t1, p1, (s1 hR).1, (s1 hR).2⟩ (by omega) q2 (by omega) hk (by omega) (fun S2 r2 t2 p2 s2 => hP S2 (fr_t r1 r2) t2 p2 s2), fun z => absurd z (by decide)⟩
  · rw [if_neg hR]
    rw [t_bF hR] at hP
    refine ⟨fun z => absurd rfl z, fun _ => ⟨_, rfl, ?_⟩⟩
    have := hP S1 r1 t1 p1 (fun z => absurd z hR)
    rw [if_neg hR] at this
    exact this
/-- the rest of a sum -/
theorem M_rest_sum {b : Nat → Nat} {N f : Nat} (hN : N ≤ 80) (hb : ∀ j, b j < 256) (hi : spM b N f 3 7 3 kX12_term) (hr : lpM b N f 2 7 5 kX12_sum) : lpM b N (f + 1) 2 7 5 kX12_sum := by
  intro G l E d κ bc bs S k p st u1 P hl ha hlen hp hf hk hd hP
  refine g_X12_sum_9 hl _ _ _ ?_
  unfold w_X12_sum_9
  rw [t_p] at hP
  have tn := t_nx_b (b := b) hp
  have hpm := ha.2.1
  have k4 := t_tk_4 b N p
  have go : ∀ (hc : t_tk b N p = (4, 43) ∨ t_tk b N p = (4, 45)), bz_cV G l d kX12_next [.inr (some 186)] (bz_hp E S) 0 0 (fun h_7 => bz_rc h_7 186 12 (bz_cI G l d kX12_term [.inr (some 186)] h_7 0 0 (fun x_8 h_9 => (¬ x_8 = 0 → bz_rc h_9 186 12 (bz_cV G l d kX12_lays [.inr (some 186), .inl 3, .inl (nI (t_tk b N p).2)] h_9 0 0 (fun h_11 => bz_J G κ kX12_sum (d + 1) (fun v h' => ∃ x, v = some (.inl x) ∧ P x h') bc bs 9 [some (.inr (some 186)), some (.inl (nI (t_tk b N p).2))] [] h_11))) ∧ (x_8 = 0 → ∃ x, (some (.inl 0) : Option bz_V) = some (.inl x) ∧ P x h_9)))) := by
    intro hc
    rw [if_pos hc] at hP
    have g := tn.2.2 (t_sgc hc).1
    have sc := (t_sgc hc).2
    refine M_nxp hN hb hp ha (by omega) (fun S1 r1 a1 => ?_)
    repeat (first | ((with_reducible apply ap_rc); rfl) | ((with_reducible apply ap_nn)) | ((with_reducible apply ap_rR); rfl) | ((with_reducible apply M_ofOrder); rfl; (exact bz_lit _); omega; (first | omega | decide)) | ((with_reducible apply M_ofRider); rfl; (exact bz_lit _); omega; (first | omega | decide)) | ((with_reducible apply ap_rI); exact kd_ord _ (by omega) _ (by decide)) | ((with_reducible apply ap_wI); exact kd_ord _ (by omega) _ (by decide)) | ((with_reducible apply ap_rI); exact kd_rid _ (by omega) _ (by decide)) | ((with_reducible apply ap_wI); exact kd_rid _ (by omega) _ (by decide)) | ((with_reducible apply ap_rc); exact (kd_clO _ (by omega)).1) | ((with_reducible apply ap_rc); exact (kd_clR _ (by omega)).1) | ((with_reducible apply ap_rc); exact (kd_clR _ (by omega)).2.2.1) | ((with_reducible apply ap_rR); exact (kd_ridA _ (by omega)).1) | ((with_reducible apply ap_rN); rfl) | ((with_reducible apply M_in)) | ((with_reducible apply X_isWithin)) | ((with_reducible apply ap_rI); rfl) | ((with_reducible apply ap_wI); rfl) | ((with_reducible apply ap_iA); rfl; (try simp only [bz_lit, pk_mul, nI_add]); rfl; omega) | ((with_reducible apply ap_iW); rfl; (try simp only [bz_lit, pk_mul, nI_add]); rfl; omega))
    refine hi G l E d S1 k (t_nx b N p) st _ a1 (by omega) tn.2.1 (by omega) hk (by omega) (fun S2 r2 t2 p2 s2 => ?_)
    have gg := t_p_i b N f 3 k (t_nx b N p) st (by omega) tn.2.1
    generalize t_p b N f 3 k (t_nx b N p) st = R1 at *
    by_cases hR : R1.1 = true
    · rw [if_pos hR]
      rw [t_bT hR] at hP
      obtain ⟨q1, q2, q3, q4, -, -⟩ := gg hR
      have q3' := q3 (by decide) (by decide)
      have ms := mw_s (c := (t_tk b N p).2) (by omega)
      refine ⟨fun _ => ?_, fun z => absurd z (by decide)⟩
      repeat (first | ((with_reducible apply ap_rc); rfl) | ((with_reducible apply ap_nn)) | ((with_reducible apply ap_rR); rfl) | ((with_reducible apply M_ofOrder); rfl; (exact bz_lit _); omega; (first | omega | decide)) | ((with_reducible apply M_ofRider); rfl; (exact bz_lit _); omega; (first | omega | decide)) | ((with_reducible apply ap_rI); exact kd_ord _ (by omega) _ (by decide)) | ((with_reducible apply ap_wI); exact kd_ord _ (by omega) _ (by decide)) | ((with_reducible apply ap_rI); exact kd_rid _ (by omega) _ (by decide)) | ((with_reducible apply ap_wI); exact kd_rid _ (by omega) _ (by decide)) | ((with_reducible apply ap_rc); exact (kd_clO _ (by omega)).1) | ((with_reducible apply ap_rc); exact (kd_clR _ (by omega)).1) | ((with_reducible apply ap_rc); exact (kd_clR _ (by omega)).2.2.1) | ((with_reducible apply ap_rR); exact (kd_ridA _ (by omega)).1) | ((with_reducible apply ap_rN); rfl) | ((with_reducible apply M_in)) | ((with_reducible apply X_isWithin)) | ((with_reducible apply ap_rI); rfl) | ((with_reducible apply ap_wI); rfl) | ((with_reducible apply ap_iA); rfl; (try simp only [bz_lit, pk_mul, nI_add]); rfl; omega) | ((with_reducible apply ap_iW); rfl; (try simp only [bz_lit, pk_mul, nI_add]); rfl; omega))
      refine M_lays (c := 10007 + (t_tk b N p).2) (by rw [ms.1]; rfl) (by rw [ms.2]) (s2 hR).1 (by omega) (by omega) (fun S3 r3 s3 => ?_)
      refine hr G l E d κ bc bs S3 k R1.2.1 _ _ P hl ⟨tbM_f t2 r3 (by intro c k h; first | omega | (dsimp only at h ⊢; omega) | (dsimp only at h; omega) | (dsimp only; omega)), pm_f p2 r3 (by intro c k h; first | omega | (dsimp only at h ⊢; omega) | (dsimp only at h; omega) | (dsimp only; omega)), s3, (r3.2 186 19 (by dsimp only; omega)).trans (s2 hR).2⟩ ?_ q2 (by omega) hk hd (fun S4 r4 t4 p4 s4 => hP S4 (fr_t (fr_m r1 (by intro c k h; first | omega | (dsimp only at h ⊢; omega) | (dsimp only at h; omega) | (dsimp only; omega))) (fr_t r2 (fr_t (fr_m r3 (by intro c k h; first | omega | (dsimp only at h ⊢; omega) | (dsimp only at h; omega) | (dsimp only; omega))) r4))) t4 p4 s4)
      rw [List.length_append]
      simp only [List.length_cons, List.length_nil]
      omega
    · rw [if_neg hR]
      rw [t_bF hR] at hP
      refine ⟨fun z => absurd rfl z, fun _ => ⟨_, rfl, ?_⟩⟩
      have := hP S2 (fr_t (fr_m r1 (by intro c k h; first | omega | (dsimp only at h ⊢; omega) | (dsimp only at h; omega) | (dsimp only; omega))) r2) t2 p2 (fun z => absurd z hR)
      rw [if_neg hR] at this
      exact this
  repeat (first | ((with_reducible apply ap_rc); rfl) | ((with_reducible apply ap_nn)) | ((with_reducible apply ap_rR); rfl) | ((with_reducible apply M_ofOrder); rfl; (exact bz_lit _); omega; (first | omega | decide)) | ((with_reducible apply M_ofRider); rfl; (exact bz_lit _); omega; (first | omega | decide)) | ((with_reducible apply ap_rI); exact kd_ord _ (by omega) _ (by decide)) | ((with_reducible apply ap_wI); exact kd_ord _ (by omega) _ (by decide)) | ((with_reducible apply ap_rI); exact kd_rid _ (by omega) _ (by decide)) | ((with_reducible apply ap_wI); exact kd_rid _ (by omega) _ (by decide)) | ((with_reducible apply ap_rc); exact (kd_clO _ (by omega)).1) | ((with_reducible apply ap_rc); exact (kd_clR _ (by omega)).1) | ((with_reducible apply ap_rc); exact (kd_clR _ (by omega)).2.2.1) | ((with_reducible apply ap_rR); exact (kd_ridA _ (by omega)).1) | ((with_reducible apply ap_rN); rfl) | ((with_reducible apply M_in)) | ((with_reducible apply X_isWithin)) | ((with_reducible apply ap_rI); rfl) | ((with_reducible apply ap_wI); rfl) | ((with_reducible apply ap_iA); rfl; (try simp only [bz_lit, pk_mul, nI_add]); rfl; omega) | ((with_reducible apply ap_iW); rfl; (try simp only [bz_lit, pk_mul, nI_add]); rfl; omega))
  refine M_isSign (c := 43) rfl (by decide) hpm (by omega) ?_
  refine ⟨fun c1 => ?_, fun c1 => ?_⟩
  · have c' : t_tk b N p = (4, 43) := Classical.byContradiction (fun z => c1 (ite_01.mpr z))
    repeat (first | ((with_reducible apply ap_rc); rfl) | ((with_reducible apply ap_nn)) | ((with_reducible apply ap_rR); rfl) | ((with_reducible apply M_ofOrder); rfl; (exact bz_lit _); omega; (first | omega | decide)) | ((with_reducible apply M_ofRider); rfl; (exact bz_lit _); omega; (first | omega | decide)) | ((with_reducible apply ap_rI); exact kd_ord _ (by omega) _ (by decide)) | ((with_reducible apply ap_wI); exact kd_ord _ (by omega) _ (by decide)) | ((with_reducible apply ap_rI); exact kd_rid _ (by omega) _ (by decide)) | ((with_reducible apply ap_wI); exact kd_rid _ (by omega) _ (by decide)) | ((with_reducible apply ap_rc); exact (kd_clO _ (by omega)).1) | ((with_reducible apply ap_rc); exact (kd_clR _ (by omega)).1) | ((with_reducible apply ap_rc); exact (kd_clR _ (by omega)).2.2.1) | ((with_reducible apply ap_rR); exact (kd_ridA _ (by omega)).1) | ((with_reducible apply ap_rN); rfl) | ((with_reducible apply M_in)) | ((with_reducible apply X_isWithin)) | ((with_reducible apply ap_rI); rfl) | ((with_reducible apply ap_wI); rfl) | ((with_reducible apply ap_iA); rfl; (try simp only [bz_lit, pk_mul, nI_add]); rfl; omega) | ((with_reducible apply ap_iW); rfl; (try simp only [bz_lit, pk_mul, nI_add]); rfl; omega))
    rw [hpm.2.1 (Or.inr (by rw [c']))]
    exact go (Or.inl c')
  · have n1 := ite_01.mp c1
    repeat (first | ((with_reducible apply ap_rc); rfl) | ((with_reducible apply ap_nn)) | ((with_reducible apply ap_rR); rfl) | ((with_reducible apply M_ofOrder); rfl; (exact bz_lit _); omega; (first | omega | decide)) | ((with_reducible apply M_ofRider); rfl; (exact bz_lit _); omega; (first | omega | decide)) | ((with_reducible apply ap_rI); exact kd_ord _ (by omega) _ (by decide)) | ((with_reducible apply ap_wI); exact kd_ord _ (by omega) _ (by decide)) | ((with_reducible apply ap_rI); exact kd_rid _ (by omega) _ (by decide)) | ((with_reducible apply ap_wI); exact kd_rid _ (by omega) _ (by decide)) | ((with_reducible apply ap_rc); exact (kd_clO _ (by omega)).1) | ((with_reducible apply ap_rc); exact (kd_clR _ (by omega)).1) | ((with_reducible apply ap_rc); exact (kd_clR _ (by omega)).2.2.1) | ((with_reducible apply ap_rR); exact (kd_ridA _ (by omega)).1) | ((with_reducible apply ap_rN); rfl) | ((with_reducible apply M_in)) | ((with_reducible apply X_isWithin)) | ((with_reducible apply ap_rI); rfl) | ((with_reducible apply ap_wI); rfl) | ((with_reducible apply ap_iA); rfl; (try simp only [bz_lit, pk_mul, nI_add]); rfl; omega) | ((with_reducible apply ap_iW); rfl; (try simp only [bz_lit, pk_mul, nI_add]); rfl; omega))
    refine M_isSign (c := 45) rfl (by decide) hpm (by omega) ?_
    refine ⟨fun c2 => ?_, fun c2 => ?_⟩
    · have n2 := ite_01.mp c2
      rw [if_neg (fun z => z.elim n1 n2)] at hP
      exact ⟨_, rfl, hP S (fr_r _ S) ha.1 ha.2.1 (fun _ => ⟨ha.2.2.1, ha.2.2.2⟩)⟩
    · have c' : t_tk b N p = (4, 45) := Classical.byContradiction (fun z => c2 (ite_01.mpr z))
      repeat (first | ((with_reducible apply ap_rc); rfl) | ((with_reducible apply ap_nn)) | ((with_reducible apply ap_rR); rfl) | ((with_reducible apply M_ofOrder); rfl; (exact bz_lit _); omega; (first | omega | decide)) | ((with_reducible apply M_ofRider); rfl; (exact bz_lit _); omega; (first | omega | decide)) | ((with_reducible apply ap_rI); exact kd_ord _ (by omega) _ (by decide)) | ((with_reducible apply ap_wI); exact kd_ord _ (by omega) _ (by decide)) | ((with_reducible apply ap_rI); exact kd_rid _ (by omega) _ (by decide)) | ((with_reducible apply ap_wI); exact kd_rid _ (by omega) _ (by decide)) | ((with_reducible apply ap_rc); exact (kd_clO _ (by omega)).1) | ((with_reducible apply ap_rc); exact (kd_clR _ (by omega)).1) | ((with_reducible apply ap_rc); exact (kd_clR _ (by omega)).2.2.1) | ((with_reducible apply ap_rR); exact (kd_ridA _ (by omega)).1) | ((with_reducible apply ap_rN); rfl) | ((with_reducible apply M_in)) | ((with_reducible apply X_isWithin)) | ((with_reducible apply ap_rI); rfl) | ((with_reducible apply ap_wI); rfl) | ((with_reducible apply ap_iA); rfl; (try simp only [bz_lit, pk_mul, nI_add]); rfl; omega) | ((with_reducible apply ap_iW); rfl; (try simp only [bz_lit, pk_mul, nI_add]); rfl; omega))
      rw [hpm.2.1 (Or.inr (by rw [c']))]
      exact go (Or.inr c')
theorem M_sum_s {b : Nat → Nat} {N f : Nat} (hi : spM b N f 3 7 3 kX12_term) (hr : lpM b N f 2 7 5 kX12_sum) : spM b N (f + 1) 1 8 4 kX12_sum := by
  intro G l E d S k p st P ha hlen hp hf hk hd hP
  obtain ⟨d', rfl⟩ : ∃ d', d = d' + 1 := ⟨d - 1, by omega⟩
  refine m_X12_sum _ _ (fun κ bc bs hl => ?_)
  unfold w_X12_sum_0
  rw [t_p] at hP
  repeat (first | ((with_reducible apply ap_rc); rfl) | ((with_reducible apply ap_nn)) | ((with_reducible apply ap_rR); rfl) | ((with_reducible apply M_ofOrder); rfl; (exact bz_lit _); omega; (first | omega | decide)) | ((with_reducible apply M_ofRider); rfl; (exact bz_lit _); omega; (first | omega | decide)) | ((with_reducible apply ap_rI); exact kd_ord _ (by omega) _ (by decide)) | ((with_reducible apply ap_wI); exact kd_ord _ (by omega) _ (by decide)) | ((with_reducible apply ap_rI); exact kd_rid _ (by omega) _ (by decide)) | ((with_reducible apply ap_wI); exact kd_rid _ (by omega) _ (by decide)) | ((with_reducible apply ap_rc); exact (kd_clO _ (by omega)).1) | ((with_reducible apply ap_rc); exact (kd_clR _ (by omega)).1) | ((with_reducible apply ap_rc); exact (kd_clR _ (by omega)).2.2.1) | ((with_reducible apply ap_rR); exact (kd_ridA _ (by omega)).1) | ((with_reducible apply ap_rN); rfl) | ((with_reducible apply M_in)) | ((with_reducible apply X_isWithin)) | ((with_reducible apply ap_rI); rfl) | ((with_reducible apply ap_wI); rfl) | ((with_reducible apply ap_iA); rfl; (try simp only [bz_lit, pk_mul, nI_add]); rfl; omega) | ((with_reducible apply ap_iW); rfl; (try simp only [bz_lit, pk_mul, nI_add]); rfl; omega))
  refine hi G l E d' S k p st _ ha hlen hp (by omega) hk (by omega) (fun S1 r1 t1 p1 s1 => ?_)
  have gg := t_p_i b N f 3 k p st (by omega) hp
  generalize t_p b N f 3 k p st = R1 at *
  by_cases hR : R1.1 = true
  · rw [if_pos hR]
    rw [t_bT hR] at hP
    obtain ⟨q1, q2, q3, q4, -, -⟩ := gg hR
    have q3' := q3 (by decide) (by decide)
    exact ⟨fun _ => hr G l E d' κ bc bs S1 k R1.2.1 R1.2.2 _ P hl ⟨t1, p1, (s1 hR).1, (s1 hR).2⟩ (by omega) q2 (by omega) hk (by omega) (fun S2 r2 t2 p2 s2 => hP S2 (fr_t r1 r2) t2 p2 s2), fun z => absurd z (by decide)⟩
  · rw [if_neg hR]
    rw [t_bF hR] at hP
    refine ⟨fun z => absurd rfl z, fun _ => ⟨_, rfl, ?_⟩⟩
    have := hP S1 r1 t1 p1 (fun z => absurd z hR)
    rw [if_neg hR] at this
    exact this
theorem M_whole_s {b : Nat → Nat} {N f : Nat} (hN : N ≤ 80) (hb : ∀ j, b j < 256) (hi : spM b N f 1 8 4 kX12_sum) : spM b N (f + 1) 0 9 5 kX12_whole := by
  intro G l E d S k p st P ha hlen hp hf hk hd hP
  obtain ⟨d', rfl⟩ : ∃ d', d = d' + 1 := ⟨d - 1, by omega⟩
  refine m_X12_whole _ _ ?_
  unfold w_X12_whole_0
  rw [t_p] at hP
  repeat (first | ((with_reducible apply ap_rc); rfl) | ((with_reducible apply ap_nn)) | ((with_reducible apply ap_rR); rfl) | ((with_reducible apply M_ofOrder); rfl; (exact bz_lit _); omega; (first | omega | decide)) | ((with_reducible apply M_ofRider); rfl; (exact bz_lit _); omega; (first | omega | decide)) | ((with_reducible apply ap_rI); exact kd_ord _ (by omega) _ (by decide)) | ((with_reducible apply ap_wI); exact kd_ord _ (by omega) _ (by decide)) | ((with_reducible apply ap_rI); exact kd_rid _ (by omega) _ (by decide)) | ((with_reducible apply ap_wI); exact kd_rid _ (by omega) _ (by decide)) | ((with_reducible apply ap_rc); exact (kd_clO _ (by omega)).1) | ((with_reducible apply ap_rc); exact (kd_clR _ (by omega)).1) | ((with_reducible apply ap_rc); exact (kd_clR _ (by omega)).2.2.1) | ((with_reducible apply ap_rR); exact (kd_ridA _ (by omega)).1) | ((with_reducible apply ap_rN); rfl) | ((with_reducible apply M_in)) | ((with_reducible apply X_isWithin)) | ((with_reducible apply ap_rI); rfl) | ((with_reducible apply ap_wI); rfl) | ((with_reducible apply ap_iA); rfl; (try simp only [bz_lit, pk_mul, nI_add]); rfl; omega) | ((with_reducible apply ap_iW); rfl; (try simp only [bz_lit, pk_mul, nI_add]); rfl; omega))
  refine hi G l E d' S k p st _ ha hlen hp (by omega) hk (by omega) (fun S1 r1 t1 p1 s1 => ?_)
  have gg := t_p_i b N f 1 k p st (by omega) hp
  generalize t_p b N f 1 k p st = R1 at *
  by_cases hR : R1.1 = true
  · rw [if_pos hR]
    rw [t_bT hR] at hP
    obtain ⟨q1, q2, q3, q4, -, -⟩ := gg hR
    have q3' := q3 (by decide) (by decide)
    have tn := t_nx_b (b := b) q2
    refine ⟨fun _ => ?_, fun z => absurd z (by decide)⟩
    have go : ∀ (hc : t_tk b N R1.2.1 = (4, 60) ∨ t_tk b N R1.2.1 = (4, 61)), bz_cV G l d' kX12_next [.inr (some 186)] (bz_hp E S1) 0 0 (fun h_7 => bz_rc h_7 186 12 (bz_cI G l d' kX12_sum [.inr (some 186)] h_7 0 0 (fun x_8 h_9 => (¬ x_8 = 0 → bz_rc h_9 186 12 (bz_cV G l d' kX12_lays [.inr (some 186), .inl 3, .inl (nI (t_tk b N R1.2.1).2)] h_9 0 0 (fun h_11 => ∃ x, (some (.inl 1) : Option bz_V) = some (.inl x) ∧ P x h_11))) ∧ (x_8 = 0 → ∃ x, (some (.inl 0) : Option bz_V) = some (.inl x) ∧ P x h_9)))) := by
      intro hc
      rw [if_pos hc] at hP
      have g := tn.2.2 (t_sgc hc).1
      have sc := (t_sgc hc).2
      refine M_nxp hN hb q2 ⟨t1, p1, (s1 hR).1, (s1 hR).2⟩ (by omega) (fun S2 r2 a2 => ?_)
      repeat (first | ((with_reducible apply ap_rc); rfl) | ((with_reducible apply ap_nn)) | ((with_reducible apply ap_rR); rfl) | ((with_reducible apply M_ofOrder); rfl; (exact bz_lit _); omega; (first | omega | decide)) | ((with_reducible apply M_ofRider); rfl; (exact bz_lit _); omega; (first | omega | decide)) | ((with_reducible apply ap_rI); exact kd_ord _ (by omega) _ (by decide)) | ((with_reducible apply ap_wI); exact kd_ord _ (by omega) _ (by decide)) | ((with_reducible apply ap_rI); exact kd_rid _ (by omega) _ (by decide)) | ((with_reducible apply ap_wI); exact kd_rid _ (by omega) _ (by decide)) | ((with_reducible apply ap_rc); exact (kd_clO _ (by omega)).1) | ((with_reducible apply ap_rc); exact (kd_clR _ (by omega)).1) | ((with_reducible apply ap_rc); exact (kd_clR _ (by omega)).2.2.1) | ((with_reducible apply ap_rR); exact (kd_ridA _ (by omega)).1) | ((with_reducible apply ap_rN); rfl) | ((with_reducible apply M_in)) | ((with_reducible apply X_isWithin)) | ((with_reducible apply ap_rI); rfl) | ((with_reducible apply ap_wI); rfl) | ((with_reducible apply ap_iA); rfl; (try simp only [bz_lit, pk_mul, nI_add]); rfl; omega) | ((with_reducible apply ap_iW); rfl; (try simp only [bz_lit, pk_mul, nI_add]); rfl; omega))
      refine hi G l E d' S2 k (t_nx b N R1.2.1) R1.2.2 _ a2 (by omega) tn.2.1 (by omega) hk (by omega) (fun S3 r3 t3 p3 s3 => ?_)
      have gg2 := t_p_i b N f 1 k (t_nx b N R1.2.1) R1.2.2 (by omega) tn.2.1
      generalize t_p b N f 1 k (t_nx b N R1.2.1) R1.2.2 = R2 at *
      by_cases hR2 : R2.1 = true
      · rw [if_pos hR2]
        rw [t_bT hR2] at hP
        obtain ⟨y1, y2, y3, y4, -, -⟩ := gg2 hR2
        have y3' := y3 (by decide) (by decide)
        have ms := mw_s (c := (t_tk b N R1.2.1).2) (by omega)
        refine ⟨fun _ => ?_, fun z => absurd z (by decide)⟩
        repeat (first | ((with_reducible apply ap_rc); rfl) | ((with_reducible apply ap_nn)) | ((with_reducible apply ap_rR); rfl) | ((with_reducible apply M_ofOrder); rfl; (exact bz_lit _); omega; (first | omega | decide)) | ((with_reducible apply M_ofRider); rfl; (exact bz_lit _); omega; (first | omega | decide)) | ((with_reducible apply ap_rI); exact kd_ord _ (by omega) _ (by decide)) | ((with_reducible apply ap_wI); exact kd_ord _ (by omega) _ (by decide)) | ((with_reducible apply ap_rI); exact kd_rid _ (by omega) _ (by decide)) | ((with_reducible apply ap_wI); exact kd_rid _ (by omega) _ (by decide)) | ((with_reducible apply ap_rc); exact (kd_clO _ (by omega)).1) | ((with_reducible apply ap_rc); exact (kd_clR _ (by omega)).1) | ((with_reducible apply ap_rc); exact (kd_clR _ (by omega)).2.2.1) | ((with_reducible apply ap_rR); exact (kd_ridA _ (by omega)).1) | ((with_reducible apply ap_rN); rfl) | ((with_reducible apply M_in)) | ((with_reducible apply X_isWithin)) | ((with_reducible apply ap_rI); rfl) | ((with_reducible apply ap_wI); rfl) | ((with_reducible apply ap_iA); rfl; (try simp only [bz_lit, pk_mul, nI_add]); rfl; omega) | ((with_reducible apply ap_iW); rfl; (try simp only [bz_lit, pk_mul, nI_add]); rfl; omega))
        refine M_lays (c := 10007 + (t_tk b N R1.2.1).2) (by rw [ms.1]; rfl) (by rw [ms.2]) (s3 hR2).1 (by omega) (by omega) (fun S4 r4 s4 => ?_)
        exact ⟨_, rfl, hP S4 (fr_t r1 (fr_t (fr_m r2 (by intro c k h; first | omega | (dsimp only at h ⊢; omega) | (dsimp only at h; omega) | (dsimp only; omega))) (fr_t r3 (fr_m r4 (by intro c k h; first | omega | (dsimp only at h ⊢; omega) | (dsimp only at h; omega) | (dsimp only; omega)))))) (tbM_f t3 r4 (by intro c k h; first | omega | (dsimp only at h ⊢; omega) | (dsimp only at h; omega) | (dsimp only; omega))) (pm_f p3 r4 (by intro c k h; first | omega | (dsimp only at h ⊢; omega) | (dsimp only at h; omega) | (dsimp only; omega))) (fun _ => ⟨s4, (r4.2 186 19 (by dsimp only; omega)).trans (s3 hR2).2⟩)⟩
      · rw [if_neg hR2]
        rw [t_bF hR2] at hP
        refine ⟨fun z => absurd rfl z, fun _ => ⟨_, rfl, ?_⟩⟩
        have := hP S3 (fr_t r1 (fr_t (fr_m r2 (by intro c k h; first | omega | (dsimp only at h ⊢; omega) | (dsimp only at h; omega) | (dsimp only; omega))) r3)) t3 p3 (fun z => absurd z hR2)
        rw [if_neg hR2] at this
        exact this
    repeat (first | ((with_reducible apply ap_rc); rfl) | ((with_reducible apply ap_nn)) | ((with_reducible apply ap_rR); rfl) | ((with_reducible apply M_ofOrder); rfl; (exact bz_lit _); omega; (first | omega | decide)) | ((with_reducible apply M_ofRider); rfl; (exact bz_lit _); omega; (first | omega | decide)) | ((with_reducible apply ap_rI); exact kd_ord _ (by omega) _ (by decide)) | ((with_reducible apply ap_wI); exact kd_ord _ (by omega) _ (by decide)) | ((with_reducible apply ap_rI); exact kd_rid _ (by omega) _ (by decide)) | ((with_reducible apply ap_wI); exact kd_rid _ (by omega) _ (by decide)) | ((with_reducible apply ap_rc); exact (kd_clO _ (by omega)).1) | ((with_reducible apply ap_rc); exact (kd_clR _ (by omega)).1) | ((with_reducible apply ap_rc); exact (kd_clR _ (by omega)).2.2.1) | ((with_reducible apply ap_rR); exact (kd_ridA _ (by omega)).1) | ((with_reducible apply ap_rN); rfl) | ((with_reducible apply M_in)) | ((with_reducible apply X_isWithin)) | ((with_reducible apply ap_rI); rfl) | ((with_reducible apply ap_wI); rfl) | ((with_reducible apply ap_iA); rfl; (try simp only [bz_lit, pk_mul, nI_add]); rfl; omega) | ((with_reducible apply ap_iW); rfl; (try simp only [bz_lit, pk_mul, nI_add]); rfl; omega))
    refine M_isSign (c := 60) rfl (by decide) p1 (by omega) ?_
    refine ⟨fun c1 => ?_, fun c1 => ?_⟩
    · have c' : t_tk b N R1.2.1 = (4, 60) := Classical.byContradiction (fun z => c1 (ite_01.mpr z))
      repeat (first | ((with_reducible apply ap_rc); rfl) | ((with_reducible apply ap_nn)) | ((with_reducible apply ap_rR); rfl) | ((with_reducible apply M_ofOrder); rfl; (exact bz_lit _); omega; (first | omega | decide)) | ((with_reducible apply M_ofRider); rfl; (exact bz_lit _); omega; (first | omega | decide)) | ((with_reducible apply ap_rI); exact kd_ord _ (by omega) _ (by decide)) | ((with_reducible apply ap_wI); exact kd_ord _ (by omega) _ (by decide)) | ((with_reducible apply ap_rI); exact kd_rid _ (by omega) _ (by decide)) | ((with_reducible apply ap_wI); exact kd_rid _ (by omega) _ (by decide)) | ((with_reducible apply ap_rc); exact (kd_clO _ (by omega)).1) | ((with_reducible apply ap_rc); exact (kd_clR _ (by omega)).1) | ((with_reducible apply ap_rc); exact (kd_clR _ (by omega)).2.2.1) | ((with_reducible apply ap_rR); exact (kd_ridA _ (by omega)).1) | ((with_reducible apply ap_rN); rfl) | ((with_reducible apply M_in)) | ((with_reducible apply X_isWithin)) | ((with_reducible apply ap_rI); rfl) | ((with_reducible apply ap_wI); rfl) | ((with_reducible apply ap_iA); rfl; (try simp only [bz_lit, pk_mul, nI_add]); rfl; omega) | ((with_reducible apply ap_iW); rfl; (try simp only [bz_lit, pk_mul, nI_add]); rfl; omega))
      rw [p1.2.1 (Or.inr (by rw [c']))]
      exact go (Or.inl c')
    · have n1 := ite_01.mp c1
      repeat (first | ((with_reducible apply ap_rc); rfl) | ((with_reducible apply ap_nn)) | ((with_reducible apply ap_rR); rfl) | ((with_reducible apply M_ofOrder); rfl; (exact bz_lit _); omega; (first | omega | decide)) | ((with_reducible apply M_ofRider); rfl; (exact bz_lit _); omega; (first | omega | decide)) | ((with_reducible apply ap_rI); exact kd_ord _ (by omega) _ (by decide)) | ((with_reducible apply ap_wI); exact kd_ord _ (by omega) _ (by decide)) | ((with_reducible apply ap_rI); exact kd_rid _ (by omega) _ (by decide)) | ((with_reducible apply ap_wI); exact kd_rid _ (by omega) _ (by decide)) | ((with_reducible apply ap_rc); exact (kd_clO _ (by omega)).1) | ((with_reducible apply ap_rc); exact (kd_clR _ (by omega)).1) | ((with_reducible apply ap_rc); exact (kd_clR _ (by omega)).2.2.1) | ((with_reducible apply ap_rR); exact (kd_ridA _ (by omega)).1) | ((with_reducible apply ap_rN); rfl) | ((with_reducible apply M_in)) | ((with_reducible apply X_isWithin)) | ((with_reducible apply ap_rI); rfl) | ((with_reducible apply ap_wI); rfl) | ((with_reducible apply ap_iA); rfl; (try simp only [bz_lit, pk_mul, nI_add]); rfl; omega) | ((with_reducible apply ap_iW); rfl; (try simp only [bz_lit, pk_mul, nI_add]); rfl; omega))
      refine M_isSign (c := 61) rfl (by decide) p1 (by omega) ?_
      refine ⟨fun c2 => ?_, fun c2 => ?_⟩
      · have n2 := ite_01.mp c2
        rw [if_neg (fun z => z.elim n1 n2)] at hP
        exact ⟨_, rfl, hP S1 r1 t1 p1 (fun _ => s1 hR)⟩
      · have c' : t_tk b N R1.2.1 = (4, 61) := Classical.byContradiction (fun z => c2 (ite_01.mpr z))
        repeat (first | ((with_reducible apply ap_rc); rfl) | ((with_reducible apply ap_nn)) | ((with_reducible apply ap_rR); rfl) | ((with_reducible apply M_ofOrder); rfl; (exact bz_lit _); omega; (first | omega | decide)) | ((with_reducible apply M_ofRider); rfl; (exact bz_lit _); omega; (first | omega | decide)) | ((with_reducible apply ap_rI); exact kd_ord _ (by omega) _ (by decide)) | ((with_reducible apply ap_wI); exact kd_ord _ (by omega) _ (by decide)) | ((with_reducible apply ap_rI); exact kd_rid _ (by omega) _ (by decide)) | ((with_reducible apply ap_wI); exact kd_rid _ (by omega) _ (by decide)) | ((with_reducible apply ap_rc); exact (kd_clO _ (by omega)).1) | ((with_reducible apply ap_rc); exact (kd_clR _ (by omega)).1) | ((with_reducible apply ap_rc); exact (kd_clR _ (by omega)).2.2.1) | ((with_reducible apply ap_rR); exact (kd_ridA _ (by omega)).1) | ((with_reducible apply ap_rN); rfl) | ((with_reducible apply M_in)) | ((with_reducible apply X_isWithin)) | ((with_reducible apply ap_rI); rfl) | ((with_reducible apply ap_wI); rfl) | ((with_reducible apply ap_iA); rfl; (try simp only [bz_lit, pk_mul, nI_add]); rfl; omega) | ((with_reducible apply ap_iW); rfl; (try simp only [bz_lit, pk_mul, nI_add]); rfl; omega))
        rw [p1.2.1 (Or.inr (by rw [c']))]
        exact go (Or.inr c')
  · rw [if_neg hR]
    rw [t_bF hR] at hP
    refine ⟨fun z => absurd rfl z, fun _ => ⟨_, rfl, ?_⟩⟩
    have := hP S1 r1 t1 p1 (fun z => absurd z hR)
    rw [if_neg hR] at this
    exact this
theorem M_all {b : Nat → Nat} {N : Nat} (hN : N ≤ 80) (hb : ∀ j, b j < 256) : ∀ f, spM b N f 5 6 2 kX12_one ∧ spM b N f 3 7 3 kX12_term ∧ lpM b N f 4 6 5 kX12_term ∧ spM b N f 1 8 4 kX12_sum ∧ lpM b N f 2 7 5 kX12_sum ∧ spM b N f 0 9 5 kX12_whole
  | 0 => ⟨fun _ _ _ _ _ _ _ _ _ _ _ _ h => by omega, fun _ _ _ _ _ _ _ _ _ _ _ _ h => by omega, fun _ _ _ _ _ _ _ _ _ _ _ _ _ _ _ _ _ h => by omega, fun _ _ _ _ _ _ _ _ _ _ _ _ h => by omega, fun _ _ _ _ _ _ _ _ _ _ _ _ _ _ _ _ _ h => by omega, fun _ _ _ _ _ _ _ _ _ _ _ _ h => by omega⟩
  | f + 1 => by
    obtain ⟨h1, h2, h3, h4, h5, h6⟩ := M_all hN hb f
    exact ⟨M_one_s hN hb h1 h6, M_term_s h1 h3, M_rest_term hN hb h1 h3, M_sum_s h2 h5, M_rest_sum hN hb h2 h5, M_whole_s hN hb h4⟩
