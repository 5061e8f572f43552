/-! a text is added -/
theorem gd_4 {s s' : Nat → Int32} (h : gd s) (hb : gd_b s') (e : ∀ i, i < 976 → ¬ i = 4 → s' i = s i) (hu : gd_u s') : gd s' := by
  obtain ⟨h1, h2, h3, h4, h5, h6⟩ := h
  obtain ⟨q2, q3, q4, q1, q10⟩ := n_lt h1
  have e1 : s' 1 = s 1 := e 1 (by omega) (by omega)
  have e2 : s' 2 = s 2 := e 2 (by omega) (by omega)
  have e3 : s' 3 = s 3 := e 3 (by omega) (by omega)
  refine ⟨hb, fun r hr => ?_, fun o ho => ?_, ⟨fun r hr h12 => ?_, fun r hr o ho h24 => ?_⟩, ?_, hu⟩
  · rw [e2, e _ (by omega) (by omega), f_cnt_c (fun o ho => f_his_c (e _ (by omega) (by omega)) (e _ (by omega) (by omega)))]
    exact h2 r hr
  · rw [e2] at ho
    rw [e1, e _ (by omega) (by omega)]
    exact h3 o ho
  · rw [e3] at hr
    rw [e _ (by omega) (by omega), e _ (by omega) (by omega), e _ (by omega) (by omega)]
    exact h4.1 r hr h12
  · rw [e2] at ho
    rw [e _ (by omega) (by omega)]
    exact h4.2 r hr o ho h24
  · unfold gd_t
    rw [e2, e 10 (by omega) (by omega)]
    have : f_gn s' (s 2).toNatClampNeg = f_gn s (s 2).toNatClampNeg := by
      unfold f_gn
      exact fb_ct_cong (fun o ho => by rw [e _ (by omega) (by omega)])
    rw [this]
    exact h5
theorem tx_T {q : Nat → Option Nat} {T : List (Nat × (Nat → Int32))} {s : Nat → Int32} {x : Nat × (Nat → Int32)} (h : tx q T s) : tx q (T ++ [x]) s := by
  intro t ht
  obtain ⟨i, n, fu, g, q1, q2, q3, q4, q5⟩ := h t ht
  exact ⟨i, n, fu, g, q1, get_ap q2, q3, q4, q5⟩
theorem inv_text {S S1 S2 : bz_S} {n t : Nat} {f' : Nat → Int32} {g : Nat → Nat} (hI : Inv S) (t8 : t < 8) (e4 : S.1 187 4 = nI t) (a1 : ∀ c k, ¬ ((c = 162 ∧ (3 ≤ k ∨ k = 1)) ∨ c = 164 ∨ (c = 6 ∧ k = 11)) → S1.1 c k = S.1 c k) (a2 : S1.1 162 1 = 0) (a3 : S1.1 6 11 = nI t + 1) (a4 : S1.2.2 = S.2.2 ++ [(n, f')]) (a5 : ∀ c, ¬ c = 16 → S1.2.1 c = S.2.1 c) (a6 : ∀ k, ¬ k = t → S1.2.1 16 k = S.2.1 16 k) (a7 : S1.2.1 16 t = some (205 + 2 * S.2.2.length)) (hf : ∀ k, k < n → f' k = nI (g k)) (hw : wfm g n) (b0 : S2.2 = S1.2) (b1 : ∀ c k, ¬ ((c = 186 ∧ 14 ≤ k ∧ k ≤ 20) ∨ c = 194 ∨ c = 187) → S2.1 c k = S1.1 c k) (b2 : S2.1 186 14 = 0) (b3 : S2.1 187 4 = nI t + 1) (b4 : tg (S2.1 187) t n g) (b5 : ∀ i, ¬ i = 4 → ¬ (976 + 165 * t ≤ i ∧ i < 976 + 165 * t + 165) → S2.1 187 i = S.1 187 i) : Inv S2 := by
  obtain ⟨⟨w1, w2, w3, w4⟩, h2, h3, h4, h5, h6, h7, h8⟩ := hI
  have f : ∀ c k, ¬ ((c = 162 ∧ (3 ≤ k ∨ k = 1)) ∨ c = 164 ∨ (c = 6 ∧ k = 11) ∨ (c = 186 ∧ 14 ≤ k ∧ k ≤ 20) ∨ c = 194 ∨ c = 187) → S2.1 c k = S.1 c k := fun c k h => (b1 c k (by omega)).trans (a1 c k (by omega))
  have es : ∀ i, i < 976 → ¬ i = 4 → S2.1 187 i = S.1 187 i := fun i hi hi4 => b5 i hi4 (by omega)
  have e4' : nI t + 1 = nI (t + 1) := nI_1 t
  have c4 : (S.1 187 4).toNatClampNeg = t := by rw [e4, nI_clamp (by omega)]
  have c4' : (S2.1 187 4).toNatClampNeg = t + 1 := by rw [b3, e4', nI_clamp (by omega)]
  have hb' : gd_b (S2.1 187) := by
    intro i hi h5 h6
    by_cases q : i = 4
    · subst q
      rw [b3]
      exact ⟨t + 1, by show t + 1 < 9; omega, e4'⟩
    · rw [es i (by omega) q]
      exact w1.1 i hi h5 h6
  have hT : S2.2.2 = S.2.2 ++ [(n, f')] := by rw [b0]; exact a4
  refine ⟨⟨?_, ?_, ?_, ?_⟩, ?_, fun r hr => ?_, ?_, ?_, fun k hk => ?_, fun i hi => ?_, ?_⟩
  · refine gd_4 w1 hb' es ⟨fun i hi => ?_, fun j hj => ?_⟩
    · rw [es _ (by omega) (by omega), c4']
      rcases w1.2.2.2.2.2.1 i hi with z | ⟨m, z1, z2⟩
      · exact Or.inl z
      · exact Or.inr ⟨m, by omega, z2⟩
    · rw [es _ (by omega) (by omega), es 3 (by omega) (by omega)]
      exact w1.2.2.2.2.2.2 j hj
  · have y1 : wo (wv (bz_u S.1 6 11 (nI t + 1)) 6) (S2.1 187) := by
      refine wo_n2 (S := S) (S1 := (bz_u S.1 6 11 (nI t + 1), S.2)) w1.1 w2 (fr_u (S := S) (by omega)) ?_ (fun i hi => es i (by unfold dR at hi; omega) (by unfold dR at hi; omega))
      intro i hi a k hc
      have q := sy_uu (v := nI t + 1) w2.1 (by decide) (show tb_c 4 = some (0, 11) from rfl) (show 6 = 6 + 0 from rfl) i hi a k hc
      rw [q]
      by_cases z : i = 4
      · subst z
        rw [pk_us, b3]
      · rw [pk_un z, es i hi z]
    refine wo_f hb' y1 (fun a ha => funext (fun k => ?_))
    unfold wv
    by_cases z : 6 + a = 6 ∧ k = 11
    · rw [z.1, z.2, bz_u_same, b1 _ _ (by omega)]
      exact a3
    · rw [bz_u_ne _ _ (by omega)]
      exact f _ _ (by omega)
  · intro t' ht'
    rw [c4'] at ht'
    rw [hT, b0]
    by_cases z : t' = t
    · subst z
      exact ⟨S.2.2.length, n, f', g, a7, get_ln _ _ _, hf, hw, b4⟩
    · obtain ⟨i, m, fu, g', q1, q2, q3, q4, q5⟩ := w3 t' (by omega)
      have := q4.2.1
      refine ⟨i, m, fu, g', by rw [a6 t' z]; exact q1, get_ap q2, q3, q4, ?_⟩
      unfold tg at q5 ⊢
      rw [b5 _ (by omega) (by omega)]
      exact ⟨q5.1, fun k hk => by rw [b5 _ (by omega) (by omega), b5 _ (by omega) (by omega)]; exact q5.2 k hk⟩
  · exact ry_c w4 (fun i hi => es i (by omega) (by omega))
  · exact fd_s h2 (f _ _ (by omega)) (funext (fun k => f _ _ (by omega))) (fun i hi => es i (by omega) (by omega))
  · rw [f _ _ (by omega), f _ _ (by omega)]
    exact h3 r hr
  · unfold rs_k
    rw [f 5 2 (by omega), f 186 2 (by omega), show S2.1 188 = S.1 188 from funext (fun k => f _ _ (by omega))]
    rcases h4 with h4 | ⟨k1, k2, v1, v2, v3, v4⟩
    · exact Or.inl h4
    · refine Or.inr ⟨k1, k2, v1, wo_f v1.1 v2 (fun a ha => funext (fun k => f _ _ (by omega))), ?_, v4⟩
      rw [hT, b0, a5 94 (by decide)]
      exact tx_T v3
  · obtain ⟨b, N, q1, q2, q3, q4⟩ := h5
    refine ⟨b, 0, by decide, q2, ⟨?_, fun j hj => absurd hj (by omega)⟩, ⟨?_, fun j hj => absurd hj (by omega)⟩⟩
    · rw [b1 _ _ (by omega)]
      exact a2
    · exact b2
  · rw [f 174 k (by omega), f 189 k (by omega)]
    exact h6 k hk
  · obtain ⟨q1, q2, q3, q4, q5⟩ := h7 i hi
    rw [f _ _ (by omega), f 201 i (by omega), f _ _ (by omega), f 202 i (by omega)]
    refine ⟨q1, q2, fun j hj => ?_, q4, q5⟩
    rw [f _ _ (by omega), f 203 _ (by omega)]
    exact q3 j hj
  · have ex : ∀ (q : Option Nat), (q = none ∨ ∃ i x, q = some (205 + 2 * i) ∧ S.2.2[i]? = some x) → (q = none ∨ ∃ i x, q = some (205 + 2 * i) ∧ S2.2.2[i]? = some x) := by
      intro q hq
      rcases hq with z | ⟨i, x, z1, z2⟩
      · exact Or.inl z
      · refine Or.inr ⟨i, x, z1, ?_⟩
        rw [hT]
        exact get_ap z2
    intro c hc t' ht'
    rw [b0] at ex ⊢
    by_cases z : c = 16
    · subst z
      by_cases z' : t' = t
      · subst z'
        exact Or.inr ⟨S.2.2.length, (n, f'), a7, by rw [a4]; exact get_ln _ _ _⟩
      · rw [a6 t' z']
        exact ex _ (h8 16 hc t' ht')
    · rw [a5 c z]
      exact ex _ (h8 c hc t' ht')
theorem t_b_le {N : Nat} {r : t_R} {k : Nat → List Nat → t_R} (h : r.2.1 ≤ N) (hk : (k r.2.1 r.2.2).2.1 ≤ N) : (t_b r k).2.1 ≤ N := by
  unfold t_b
  split
  · exact hk
  · exact h
theorem t_p_le (b : Nat → Nat) (N : Nat) : ∀ (f nt k p : Nat) (st : List Nat), nt ≤ 5 → p ≤ N → (t_p b N f nt k p st).2.1 ≤ N
  | 0, nt, k, p, st, _, hp => hp
  | f + 1, nt, k, p, st, hnt, hp => by
    have ih := t_p_le b N f
    have hn := (t_nx_b (b := b) hp).2.1
    rcases (by omega : nt = 0 ∨ nt = 1 ∨ nt = 2 ∨ nt = 3 ∨ nt = 4 ∨ nt = 5) with q | q | q | q | q | q <;> subst q
    · rw [t_p]
      have h1 := ih 1 k p st (by decide) hp
      refine t_b_le h1 ?_
      split
      · refine t_b_le (ih _ _ _ _ (by decide) (t_nx_b h1).2.1) ?_
        exact ih _ _ _ _ (by decide) (t_nx_b h1).2.1
      · exact h1
    · rw [t_p]
      exact t_b_le (ih _ _ _ _ (by decide) hp) (ih _ _ _ _ (by decide) (ih _ _ _ _ (by decide) hp))
    · rw [t_p]
      split
      · exact t_b_le (ih _ _ _ _ (by decide) hn) (ih _ _ _ _ (by decide) (ih _ _ _ _ (by decide) hn))
      · exact hp
    · rw [t_p]
      exact t_b_le (ih _ _ _ _ (by decide) hp) (ih _ _ _ _ (by decide) (ih _ _ _ _ (by decide) hp))
    · rw [t_p]
      split
      · exact t_b_le (ih _ _ _ _ (by decide) hn) (ih _ _ _ _ (by decide) (ih _ _ _ _ (by decide) hn))
      · exact hp
    · rw [t_p]
      · split
        · exact hn
        · split
          · split
            · exact t_b_le (ih _ _ _ _ (by decide) hn) (ih _ _ _ _ (by decide) hn)
            · exact hp
          · split
            · split
              · have h1 := ih 0 (k + 1) (t_nx b N p) st (by decide) hn
                refine t_b_le h1 ?_
                split
                · exact (t_nx_b h1).2.1
                · exact h1
              · exact hp
            · exact hp
      all_goals (intro z; exact absurd z (by decide))
theorem pr_text : bz_pr Inv kX11_text kX12_text 2 81 0 := by
  intro G l E d S as has hI
  match as, has with
  | [], _ =>
    have ht := inv_tw hI
    have hg := inv_b hI
    have hgg := tw_g ht
    have hn0 := hI.2.2.1
    generalize hs : S.1 187 = s at ht hg hgg
    refine m_X11_text _ _ ?_
    unfold w_X11_text_0
    obtain ⟨t, ht9, e4⟩ : bz_lt (s 4) 9 := hg 4 (by decide) (by decide) (by decide)
    obtain ⟨b, N, q1, q2, q3, q4⟩ := hI.2.2.2.2.1
    have e11 : S.1 6 11 = nI t := ((tw_s ht) 4 (by decide) 0 11 rfl).trans e4
    refine ap_rR rfl (ap_nn (ap_rI rfl ?_))
    rw [e11]
    refine ⟨fun c0 => ?_, fun c0 => ?_⟩
    · have t8 : t < 8 := (nI_ltI (b := 8) (by omega) (by decide)).mp c0
      refine ap_rR rfl (ap_nn (ap_rc rfl ?_))
      refine X_readAll q1 q2 q3 (fun S1 r1 => ⟨fun ok hx => ?_, fun no => ?_⟩)
      · obtain ⟨hl80, hwf⟩ := t_ok_w q1 ok
        refine ap_rR rfl (ap_nn (ap_wI rfl ⟨fun _ => ?_, fun z => absurd rfl z⟩))
        refine ap_rR rfl ?_
        refine X_newText (n := (t_all b N).2.2.length) hl80 ?_ (fun f' hf => ?_)
        · dsimp only
          rw [bz_u_ne _ _ (by omega)]
          exact hx.1
        dsimp only at hf ⊢
        refine ap_nn (ap_rc rfl ?_)
        refine m_X10_addText _ _ _ ?_
        unfold w_X10_addText_0
        have e11' : S1.1 6 11 = nI t := (r1.2 _ _ (by omega)).trans e11
        refine ap_rR rfl (ap_rI rfl (ap_nn ?_))
        dsimp only
        rw [bz_u_ne _ _ (by omega), e11']
        refine ap_wQ rfl t8 (Or.inr ⟨_, _, rfl, get_ln _ _ _⟩) ?_
        refine ap_rI rfl (ap_wI rfl ⟨rfl, ap_rR rfl (ap_nn (ap_rI rfl ?_))⟩)
        dsimp only
        rw [bz_u_same, bz_u_ne _ _ (by omega), e11']
        refine ⟨_, rfl, _, rfl, ?_⟩
        refine M_text (b := b) (N := N) (t := t) q1 q2 ⟨?_, fun j hj => ?_⟩ t8 ?_ (fun S2 u1 u2 u3 => ⟨fun _ u4 u5 u6 => ⟨rfl, S2, rfl, ?_⟩, fun no => absurd ok no⟩)
        · dsimp only
          rw [bz_u_ne _ _ (by omega), bz_u_ne _ _ (by omega), r1.2 _ _ (by omega)]
          exact q4.1
        · dsimp only
          rw [bz_u_ne _ _ (by omega), bz_u_ne _ _ (by omega), r1.2 _ _ (by omega)]
          exact q4.2 j hj
        · dsimp only
          rw [bz_u_ne _ _ (by omega), bz_u_ne _ _ (by omega), r1.2 _ _ (by omega), hs]
          exact e4
        · dsimp only at u1 u2 u6
          have r12 : S1.2 = S.2 := r1.1
          refine inv_text (S1 := (bz_u (bz_u S1.1 162 1 0) 6 11 (nI t + 1), (fun c => if c = 16 then va_up (S1.2.1 16) t (some (205 + 2 * S1.2.2.length)) else S1.2.1 c), S1.2.2 ++ [((t_all b N).2.2.length, f')])) (n := (t_all b N).2.2.length) (t := t) (f' := f') (g := fun k => (t_all b N).2.2.getD k 0) hI t8 (by rw [hs]; exact e4) (fun c k h => ?_) ?_ ?_ ?_ (fun c hc => ?_) (fun k hk => ?_) ?_ (fun k hk => ?_) hwf u1 u2 u3 u4 u5 (fun i h4 hi => ?_)
          · dsimp only
            rw [bz_u_ne _ _ (by omega), bz_u_ne _ _ (by omega)]
            exact r1.2 _ _ (by omega)
          · dsimp only
            rw [bz_u_ne _ _ (by omega), bz_u_same]
          · dsimp only
            rw [bz_u_same]
          · dsimp only
            rw [r12]
          · dsimp only
            rw [if_neg hc, r12]
          · dsimp only
            rw [if_pos rfl, r12]
            unfold va_up
            rw [if_neg hk]
          · dsimp only
            rw [if_pos rfl, r12]
            unfold va_up
            rw [if_pos rfl]
          · rw [hf k hk, bz_u_ne _ _ (by omega)]
            exact hx.2 k hk
          · rw [u6 i h4 hi, bz_u_ne _ _ (by omega), bz_u_ne _ _ (by omega), r1.2 _ _ (by omega)]
      · have hp : t_pl b N (t_all b N).2.1 ≤ N := by
          have := t_p_le b N (8 * N + 5) 0 0 0 [] (by decide) (Nat.zero_le _)
          exact (t_sk_b b N _ _ this).2
        refine ap_rR rfl (ap_nn (ap_wI rfl ⟨fun z => ?_, fun _ => ?_⟩))
        · exact absurd z (nI_nn (by omega))
        refine ⟨_, rfl, _, rfl, ?_⟩
        refine M_text (b := b) (N := N) (t := t) q1 q2 ⟨?_, fun j hj => ?_⟩ t8 ?_ (fun S2 u1 u2 u3 => ⟨fun ok => absurd ok no, fun _ u4 => ⟨rfl, S2, rfl, ?_⟩⟩)
        · dsimp only
          rw [bz_u_ne _ _ (by omega), r1.2 _ _ (by omega)]
          exact q4.1
        · dsimp only
          rw [bz_u_ne _ _ (by omega), r1.2 _ _ (by omega)]
          exact q4.2 j hj
        · dsimp only
          rw [bz_u_ne _ _ (by omega), r1.2 _ _ (by omega), hs]
          exact e4
        · dsimp only at u1 u2 u4
          have u : fr (fun c k => XT c k ∨ (c = 162 ∧ k = 1) ∨ (c = 186 ∧ 14 ≤ k ∧ k ≤ 20) ∨ c = 194) S S2 := by
            refine ⟨u1.trans r1.1, fun c k h => ?_⟩
            by_cases z : c = 187
            · subst z
              rw [u4, bz_u_ne _ _ (by omega)]
              exact r1.2 _ _ (by omega)
            · rw [u2 _ _ (by omega), bz_u_ne _ _ (by omega)]
              exact r1.2 _ _ (by omega)
          have v : S2.1 162 1 = 0 := by rw [u2 _ _ (by omega), bz_u_same]
          refine inv_e (inv_q (S' := (fun c k => if (c = 162 ∧ k = 1) ∨ (c = 186 ∧ k = 14) then S.1 c k else S2.1 c k, S2.2)) hI ⟨u.1, fun c k h => ?_⟩ (fd_f hI.2.1 (X := fun c k => XT c k ∨ (c = 186 ∧ 15 ≤ k ∧ k ≤ 20) ∨ c = 194) ⟨u.1, fun c k h => ?_⟩ (by intro c k h; first | omega | (dsimp only at h ⊢; omega) | (dsimp only at h; omega) | (dsimp only; omega)))) ⟨rfl, fun c k h => ?_⟩ ⟨b, 0, by decide, q2, ⟨v, fun j hj => absurd hj (by omega)⟩, ⟨u3, fun j hj => absurd hj (by omega)⟩⟩ (rs_s_f hI.2.2.2.2.2.2.1 u (by intro c k h; first | omega | (dsimp only at h ⊢; omega) | (dsimp only at h; omega) | (dsimp only; omega)))
          · dsimp only
            split
            · rfl
            · exact u.2 c k (by omega)
          · dsimp only
            split
            · rfl
            · exact u.2 c k (by omega)
          · dsimp only
            rw [if_neg (by omega)]
    · have t8 : t = 8 := by
        rcases Nat.lt_or_ge t 8 with z | z
        · exact absurd ((nI_ltI (b := 8) (by omega) (by decide)).mpr z) c0
        · omega
      subst t8
      refine ap_rc rfl ?_
      refine X_fi 1 (by decide) (by decide) (fun S1 r1 v1 => ⟨_, rfl, S1, rfl, ?_⟩)
      have es1 : S1.1 187 = s := (fi_s r1).trans hs
      refine m_X12_text _ _ (fun κ bc bs hl => ?_)
      unfold w_X12_text_0
      refine ap_rR rfl (ap_nn (ap_iA (i := 4) (n := 2296) rfl rfl (by decide) ?_))
      rw [es1, e4]
      refine ⟨fun z => absurd rfl z, fun _ => ap_rc rfl ?_⟩
      exact M_fi 1 hI (by decide) r1 v1 (fr_r _ S1) (fi_fd hI r1) rfl (by decide)
