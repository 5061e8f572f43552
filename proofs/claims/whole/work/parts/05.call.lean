/-- what a call begins with, and what it ends with -/
def bz_P (G : bz_G) (as : List bz_V) (h : bz_H) : Array Value → State → Prop := fun a U => a = (as.map (bz_v G)).toArray ∧ G.1 ≤ U.heap.size ∧ bz_W G h U.heap ∧ va_K G.2.2.1 vwCl (bz_tys G) U ∧ bz_old G U U.heap
def bz_Q (G : bz_G) (F : Option bz_V → bz_H → Prop) : Array Value → State → Outcome → State → Prop := fun _ st oc t => (∃ (v : Option bz_V) (h' : bz_H), oc = .returned (v.map (bz_v G)) ∧ F v h' ∧ bz_W G h' t.heap) ∧ va_F (bz_A G) st t
abbrev bz_ws (y : bz_M) : List Cond := .code y.1 y.2.1 y.2.2.1 y.2.2.2 :: bz_tbl
def bz_Call (G : bz_G) (l : Launch) (d : Nat) (y : bz_M) (as : List bz_V) (h : bz_H) (mc ms : Nat) (F : Option bz_V → bz_H → Prop) : Prop :=
  ∃ F0 : Option bz_V → bz_H → Prop, (∀ v h, F0 v h → F v h) ∧ Met l y.1 (bz_ws y) { frames := d, cells := mc, slots := ms, locals := 64 * d } (bz_P G as h) (bz_Q G F0) mc ms (bz_A G)
theorem bz_Call.mono {G : bz_G} {l : Launch} {d : Nat} {y : bz_M} {as : List bz_V} {h : bz_H} {mc ms : Nat} {F F' : Option bz_V → bz_H → Prop} (hC : bz_Call G l d y as h mc ms F) (hF : ∀ v h, F v h → F' v h) : bz_Call G l d y as h mc ms F' := by
  obtain ⟨F0, h1, h2⟩ := hC
  exact ⟨F0, fun v h q => hF v h (h1 v h q), h2⟩
theorem bz_lp_args (G : bz_G) : ∀ (as : List bz_V) (i n : Nat) (q : Nat × Value), q ∈ bz_lp G i (as.map some ++ List.replicate n none) → q ∈ lv_args i (as.map (bz_v G))
  | [], i, n, q, h => by
    obtain ⟨k, v, h1, -⟩ := (bz_lp_mem G _ i q).mp h
    simp only [List.map_nil, List.nil_append, List.getElem?_replicate] at h1
    split at h1 <;> simp at h1
  | a :: as, i, n, q, h => by
    rw [List.map_cons, List.cons_append, bz_lp, List.mem_cons] at h
    rw [List.map_cons, lv_args, if_neg (by rw [bz_cat]; decide), List.mem_cons]
    exact h.imp id (bz_lp_args G as (i + 1) n q)
theorem bz_sl (G : bz_G) : ∀ as : List bz_V, (lg_sl (as.map (bz_v G))).length = as.length
  | [] => rfl
  | a :: as => by
    have h := bz_sl G as
    unfold lg_sl at h ⊢
    rw [List.map_cons, List.flatMap_cons, List.length_append, h, if_neg (by rw [bz_cat]; decide)]
    simp only [List.length_cons, List.length_nil]
    omega
/-- a method's contract out of its body -/
theorem bz_body {G : bz_G} {l : Launch} {d : Nat} {y : bz_M} {as : List bz_V} {h : bz_H} {mc ms : Nat} {F : Option bz_V → bz_H → Prop} (hy : plainName y.1.cls = true) (hn : as.length ≤ y.2.2.1)
    (k : ∀ κ : bz_K, κ.2.1 = l → bz_J G κ y d F mc ms 0 (as.map some ++ List.replicate (y.2.2.1 - as.length) none) [] h) : bz_Call G l d y as h mc ms F := by
  refine ⟨F, fun _ _ q => q, ?_⟩
  refine Met.ofW (cc := y.2.1) (maxL := y.2.2.1) (ret := y.2.2.2) hy rfl ?_
  intro p e s m args below meth c s₁ B hml hv
  obtain ⟨rfl, hsz, hW, hK, hold⟩ := hv
  have hts := atoms_spec (ws := bz_ws y) B.pre
  have hown : s.vm.findClass y.1.cls = some m.cls := findClass_of_methodNamed B.named
  have hnm : meth.name = y.1.name := (name_of_methodNamed B.named B.method).1
  have hlocks := B.notSynchronized
  have hr := B.returns
  have hl := lv_entry (as.map (bz_v G)) (n := y.2.2.1) (by rw [bz_sl]; exact hn)
  rw [lg_entry_eq]
  generalize (lg_sl (as.map (bz_v G)) ++ List.replicate (y.2.2.1 - (lg_sl (as.map (bz_v G))).length) Slot.unset).toArray = ls at hl ⊢
  refine k (p, l, e, _, s, m, _, below, meth, c, _) rfl ⟨B.exec, B.bytes, hml, hown, fun w hw => hts w (List.mem_cons_of_mem _ hw), (fun e9 => hnm.trans e9), hK, ⟨Nat.le_refl _, Nat.le_refl _⟩, hsz, hold, ?_⟩ s.heap [] 0 0 ls hW ⟨hl.1, hl.2.1, fun q hq => hl.2.2 q (bz_lp_args G as 0 _ q hq)⟩ va_S.rf (by show 0 + mc ≤ mc; omega) (by show 0 + ms ≤ ms; omega)
  intro v h' H locs cells slots lsC pc hF hW' hS hc hs hret
  refine W.widen (k := mc) (n := ms) hc hs ?_
  match v, hret with
  | none, hret => exact W.vret B.exec B.bytes (hr.trans hret.1) (fun t ht hWm => ⟨⟨none, h', rfl, hF, by rw [ht]; exact hW'⟩, hS.F ht⟩) hS.2.2 hret.2
  | some (.inl x), hret =>
    obtain ⟨⟨ty, e1, e2⟩, e3⟩ := hret
    exact W.zret B.exec B.bytes (hr.trans e1) e2 (fun t ht hWm => ⟨⟨some (.inl x), h', rfl, hF, by rw [ht]; exact hW'⟩, hS.F ht⟩) hS.2.2 e3
  | some (.inr r), hret =>
    obtain ⟨⟨ty, e1, e2⟩, e3⟩ := hret
    exact W.aret B.exec B.bytes (hr.trans e1) e2 (by cases r with | none => exact Or.inl rfl | some a => exact Or.inr ⟨_, rfl⟩) (fun t ht hWm => ⟨⟨some (.inr r), h', rfl, hF, by rw [ht]; exact hW'⟩, hS.F ht⟩) hS.2.2 e3
/-- behind a call -/
theorem bz_back {p : Program} {l : Launch} {e : Env} {R : Room} {s : State} {m : MethodId} {args : Array Value} {below : List Frame} {meth : Method} {c : Code} {H : Heap} {locs : List Loc} {cells slots : Nat} {Q : State → Prop} {pc : Nat} {lsC : Array Slot} {rest st0 : List Value} {a : Array Value} {mc ms : Nat} {G : bz_G} {F : Option bz_V → bz_H → Prop}
    (hr : va_Run p l e R s m args below meth c H locs cells slots mc ms (F0 m pc lsC st0) rest (bz_Q G F a) (bz_A G)) (hS : va_S (bz_A G) s.heap H locs)
    (kk : ∀ (v : Option bz_V) (h' : bz_H) (H1 : Heap) (locs1 : List Loc), F v h' → bz_W G h' H1 → va_S (bz_A G) s.heap H1 locs1 → W p l e R s m args below meth c H1 locs1 (cells + mc) (slots + ms) Q (F0 m (pc + 3) lsC (v.toList.map (bz_v G) ++ rest))) : W p l e R s m args below meth c H locs cells slots Q (F0 m pc lsC st0) := by
  intro T hT X
  obtain ⟨v, st₀, t, T', L, h0, X', hL, e1, e2, ⟨⟨r, u, hv, hp, hb⟩, hz, hk⟩, st⟩ := hr T hT X
  cases hv
  rw [h0] at hz hk
  obtain ⟨t2, a1, b1⟩ := kk r u T'.heap (locs ++ L) hp (by rw [e1]; exact hb)
    ⟨Nat.le_trans hS.1 (by rw [e1]; exact hz), fun q h1 h2 => by rw [e1, hk q (Nat.lt_of_lt_of_le h1 hS.1) h2]; exact hS.2.1 q h1 h2, fun q hq => by
      rcases List.mem_append.mp hq with h | h
      · exact hS.2.2 q h
      · exact hL q h⟩ T' rfl X'
  refine ⟨t2, st t2 ?_, b1⟩
  have ee : (Option.map (bz_v G) r).toList = r.toList.map (bz_v G) := by cases r <;> rfl
  show Steps _ _ _ (T'.setTop { method := m, pc := pc + 3, locals := lsC, stack := (Option.map (bz_v G) r).toList ++ rest, locked := none }) _
  rw [ee]
  exact a1
theorem bz_blind (G : bz_G) (as : List bz_V) (h : bz_H) : FrameBlind (bz_P G as h) := by
  intro a U g mk q
  obtain ⟨q1, q2, q3, q4, q5⟩ := q
  exact ⟨q1, q2, q3, va_K.moved (u := U) (U := U.calling g mk a) (Vm.Alike.refl U.vm) q4, bz_old.same (s := U) (U := U.calling g mk a) rfl q5⟩
theorem bz_pre {G : bz_G} {as : List bz_V} {h : bz_H} {s : State} {H : Heap} {locs : List Loc} (hsz : G.1 ≤ s.heap.size) (hK : va_K G.2.2.1 vwCl (bz_tys G) s) (hold : bz_old G s s.heap) (hW : bz_W G h H) (hS : va_S (bz_A G) s.heap H locs) : ∀ U : State, U.heap = H → s.WarmedH U.vm → bz_P G as h (as.map (bz_v G)).toArray U := by
  intro U hU hWm
  refine ⟨rfl, by rw [hU]; exact Nat.le_trans hsz hS.1, by rw [hU]; exact hW, va_K.moved hWm.alike hK, ?_⟩
  rw [hU]
  exact (hold.kept hS.2.1).warm hWm
section BZC
variable {G : bz_G} {κ : bz_K} {y : bz_M} {d : Nat} {F : Option bz_V → bz_H → Prop} {bc bs pc : Nat} {ls : List (Option bz_V)} {st : List bz_V} {h : bz_H}
def bz_SC (yc : bz_M) (n : Nat) : Prop := Cond.initialized yc.1.cls ∈ bz_tbl ∧ Cond.code yc.1 yc.2.1 yc.2.2.1 yc.2.2.2 ∈ bz_tbl ∧ (yc.1.cls ≠ "java/lang/invoke/MethodHandle" ∧ yc.1.cls ≠ "java/lang/invoke/VarHandle" ∧ (parseMethodDescriptor yc.1.desc).map (fun d => d.parameters.length) = some n) ∧ yc.2.2.1 ≤ 45
theorem bz_gws {yc : bz_M} {n : Nat} (h : bz_SC yc n) : GoodIn bz_tbl (bz_ws yc) := by
  intro w hw
  rcases List.mem_cons.mp hw with rfl | hw
  · exact bz_gd h.2.1
  · exact bz_gd hw
theorem bz_callV {ix n mc ms : Nat} {yc : bz_M} {as : List bz_V} {FC : Option bz_V → bz_H → Prop} {b ci : Nat} {q : vw_C} {fs : List bz_V} (hd : decode y.2.1 pc = .ok (.invokevirtual ix, 3)) (hsc : bz_SC yc n) (hw1 : Cond.methodLink y.1.cls ix yc.1 ∈ bz_tbl) (hw2 : Cond.instanceMethod yc.1 ∈ bz_tbl) (hw3 : Cond.selects yc.1.cls yc.1 yc.1 ∈ bz_tbl) (hc1 : vwCl[ci]? = some q) (hcq : q.1 = yc.1.cls) (hb : bz_nb ≤ b) (hh : h[b]? = some (bz_co ci fs)) (hn : as.length = n) (hst : st.length ≤ 8) (hM : bz_Call G κ.2.1 d yc (.inr (some b) :: as) h mc ms FC) (k : ∀ (v : Option bz_V) (h' : bz_H), FC v h' → bz_J G κ y (d + 1) F bc bs (pc + 3) ls (v.toList ++ st) h') : bz_J G κ y (d + 1) F (bc + mc) (bs + ms) (pc) ls (as.reverse ++ .inr (some b) :: st) h := by
  obtain ⟨p, l, e, R, s, m, args, below, meth, c, Q⟩ := κ
  intro X H locs cells slots lsC hW hL hS hc hs
  obtain ⟨F0', hFF, hM⟩ := hM
  obtain ⟨r', hr', cellV, g1, g2, g3, -⟩ := hW.2.2 b _ hb hh
  have hrecv : ∃ cellB : Cell, H[bz_adr G b]? = some cellB ∧ cellB.vm.isStatics = false ∧ s.vm.findClass yc.1.cls = some cellB.cls := ⟨cellV, g1, by rw [g3]; rfl, by rw [g2, ← hcq]; exact (X.2.2.2.2.2.2.1.1 ci q hc1).2.1⟩
  have hrun := va_runV (As := as.map (bz_v G)) (rest := st.map (bz_v G)) (g := F0 m pc lsC ((as.reverse ++ .inr (some b) :: st).map (bz_v G))) (H := H) (below := below) (meth := meth) (locs := locs) (cells := cells) (slots := slots) (l := l) (e := e) ⟨X.1, X.2.1, X.2.2.1, X.2.2.2.1, X.2.2.2.2.1⟩ hM ⟨callB_of n X.2.2.2.2.1 (bz_gws hsc) rfl rfl rfl (X.2.2.2.2.1 _ hsc.1) (X.2.2.2.2.1 _ hw1) hsc.2.2.1 ⟨by have := X.2.2.2.2.2.2.2.1.1; show d + 1 ≤ _; omega, by have := X.2.2.2.2.2.2.2.1.2; have := hsc.2.2.2; show 8 + (yc.2.2.1 + 11) + 64 * d ≤ _; omega⟩, X.2.2.2.2.1 _ hw2, X.2.2.2.2.1 _ hw3⟩ ⟨bz_blind G _ h, hrecv, bz_pre (as := .inr (some b) :: as) X.2.2.2.2.2.2.2.2.1 X.2.2.2.2.2.2.1 X.2.2.2.2.2.2.2.2.2.1 hW hS⟩ rfl ((List.length_map _).trans hn) hL.1 (by simp [bz_v]) (by show 2 * 0 + _ ≤ 8; rw [bz_sum]; omega) hd ⟨by omega, by omega⟩
  refine bz_back hrun hS fun v h' H1 locs1 hF hW1 hS1 => ?_
  have hk := k v h' (hFF v h' hF) X H1 locs1 (cells + mc) (slots + ms) lsC hW1 hL hS1 (by omega) (by omega)
  rw [List.map_append] at hk
  exact hk
theorem bz_callS {ix n mc ms : Nat} {yc : bz_M} {as : List bz_V} {FC : Option bz_V → bz_H → Prop} (hd : decode y.2.1 pc = .ok (.invokestatic ix, 3)) (hsc : bz_SC yc n) (hw1 : Cond.methodLink y.1.cls ix yc.1 ∈ bz_tbl) (hw2 : Cond.static yc.1 ∈ bz_tbl) (hn : as.length = n) (hst : st.length ≤ 8) (hM : bz_Call G κ.2.1 d yc as h mc ms FC) (k : ∀ (v : Option bz_V) (h' : bz_H), FC v h' → bz_J G κ y (d + 1) F bc bs (pc + 3) ls (v.toList ++ st) h') : bz_J G κ y (d + 1) F (bc + mc) (bs + ms) (pc) ls (as.reverse ++ st) h := by
  obtain ⟨p, l, e, R, s, m, args, below, meth, c, Q⟩ := κ
  intro X H locs cells slots lsC hW hL hS hc hs
  obtain ⟨F0', hFF, hM⟩ := hM
  have hrun := va_runS (As := as.map (bz_v G)) (rest := st.map (bz_v G)) (g := F0 m pc lsC ((as.reverse ++ st).map (bz_v G))) (H := H) (below := below) (meth := meth) (locs := locs) (cells := cells) (slots := slots) (l := l) (e := e) ⟨X.1, X.2.1, X.2.2.1, X.2.2.2.1, X.2.2.2.2.1⟩ hM ⟨callB_of n X.2.2.2.2.1 (bz_gws hsc) rfl rfl rfl (X.2.2.2.2.1 _ hsc.1) (X.2.2.2.2.1 _ hw1) hsc.2.2.1 ⟨by have := X.2.2.2.2.2.2.2.1.1; show d + 1 ≤ _; omega, by have := X.2.2.2.2.2.2.2.1.2; have := hsc.2.2.2; show 8 + (yc.2.2.1 + 11) + 64 * d ≤ _; omega⟩, X.2.2.2.2.1 _ hw2⟩ ⟨bz_blind G _ h, bz_pre X.2.2.2.2.2.2.2.2.1 X.2.2.2.2.2.2.1 X.2.2.2.2.2.2.2.2.2.1 hW hS⟩ rfl ((List.length_map _).trans hn) hL.1 (by simp) (by show 2 * 0 + _ ≤ 8; rw [bz_sum]; omega) hd ⟨by omega, by omega⟩
  refine bz_back hrun hS fun v h' H1 locs1 hF hW1 hS1 => ?_
  have hk := k v h' (hFF v h' hF) X H1 locs1 (cells + mc) (slots + ms) lsC hW1 hL hS1 (by omega) (by omega)
  rw [List.map_append] at hk
  exact hk
theorem bz_callI {ix n mc ms : Nat} {yc : bz_M} {as : List bz_V} {FC : Option bz_V → bz_H → Prop} {b : Nat} (hd : decode y.2.1 pc = .ok (.invokespecial ix, 3)) (hsc : bz_SC yc n) (hret : yc.2.2.2 = none) (hw1 : Cond.methodLink y.1.cls ix yc.1 ∈ bz_tbl) (hw2 : Cond.instanceMethod yc.1 ∈ bz_tbl) (hnm : yc.1.name = "<init>") (hn : as.length = n) (hst : st.length ≤ 8) (hM : bz_Call G κ.2.1 d yc (.inr (some b) :: as) h mc ms FC) (k : ∀ (v : Option bz_V) (h' : bz_H), FC v h' → bz_J G κ y (d + 1) F bc bs (pc + 3) ls (v.toList ++ st) h') : bz_J G κ y (d + 1) F (bc + mc) (bs + ms) (pc) ls (as.reverse ++ .inr (some b) :: st) h := by
  obtain ⟨p, l, e, R, s, m, args, below, meth, c, Q⟩ := κ
  intro X H locs cells slots lsC hW hL hS hc hs
  obtain ⟨F0', hFF, hM⟩ := hM
  obtain ⟨y1, y2, y3, y4⟩ := yc
  dsimp only at hret
  subst hret
  have hrun := va_runI (As := as.map (bz_v G)) (rest := st.map (bz_v G)) (g := F0 m pc lsC ((as.reverse ++ .inr (some b) :: st).map (bz_v G))) (H := H) (below := below) (meth := meth) (locs := locs) (cells := cells) (slots := slots) (l := l) (e := e) ⟨X.1, X.2.1, X.2.2.1, X.2.2.2.1, X.2.2.2.2.1⟩ hM ⟨callB_of n X.2.2.2.2.1 (bz_gws hsc) rfl rfl rfl (X.2.2.2.2.1 _ hsc.1) (X.2.2.2.2.1 _ hw1) hsc.2.2.1 ⟨by have := X.2.2.2.2.2.2.2.1.1; show d + 1 ≤ _; omega, by have := X.2.2.2.2.2.2.2.1.2; have h9 : y3 ≤ 45 := hsc.2.2.2; show 8 + (y3 + 11) + 64 * d ≤ _; omega⟩, hnm, X.2.2.2.2.1 _ hw2⟩ ⟨bz_blind G _ h, bz_pre (as := .inr (some b) :: as) X.2.2.2.2.2.2.2.2.1 X.2.2.2.2.2.2.1 X.2.2.2.2.2.2.2.2.2.1 hW hS⟩ rfl ((List.length_map _).trans hn) hL.1 (by simp [bz_v]) (by show 2 * 0 + _ ≤ 8; rw [bz_sum]; omega) hd ⟨by omega, by omega⟩
  refine bz_back hrun hS fun v h' H1 locs1 hF hW1 hS1 => ?_
  have hk := k v h' (hFF v h' hF) X H1 locs1 (cells + mc) (slots + ms) lsC hW1 hL hS1 (by omega) (by omega)
  rw [List.map_append] at hk
  exact hk
theorem bz_callVN {ix n mc ms : Nat} {host : String} {yc : bz_M} {as : List bz_V} {FC : Option bz_V → bz_H → Prop} {b ci : Nat} {q : vw_C} {fs : List bz_V} (hd : decode y.2.1 pc = .ok (.invokevirtual ix, 3)) (hsc : bz_SC yc n) (hw1 : (y.1.cls, ix, yc.1, host) ∈ bz_nwM) (hw2 : Cond.instanceMethod yc.1 ∈ bz_tbl) (hw3 : Cond.selects yc.1.cls yc.1 yc.1 ∈ bz_tbl) (hc1 : vwCl[ci]? = some q) (hcq : q.1 = yc.1.cls) (hb : bz_nb ≤ b) (hh : h[b]? = some (bz_co ci fs)) (hn : as.length = n) (hst : st.length ≤ 8) (hM : bz_Call G κ.2.1 d yc (.inr (some b) :: as) h mc ms FC) (k : ∀ (v : Option bz_V) (h' : bz_H), FC v h' → bz_J G κ y (d + 1) F bc bs (pc + 3) ls (v.toList ++ st) h') : bz_J G κ y (d + 1) F (bc + mc) (bs + ms) (pc) ls (as.reverse ++ .inr (some b) :: st) h := by
  obtain ⟨p, l, e, R, s, m, args, below, meth, c, Q⟩ := κ
  intro X H locs cells slots lsC hW hL hS hc hs
  obtain ⟨F0', hFF, hM⟩ := hM
  obtain ⟨r', hr', cellV, g1, g2, g3, -⟩ := hW.2.2 b _ hb hh
  have hrecv : ∃ cellB : Cell, H[bz_adr G b]? = some cellB ∧ cellB.vm.isStatics = false ∧ s.vm.findClass yc.1.cls = some cellB.cls := ⟨cellV, g1, by rw [g3]; rfl, by rw [g2, ← hcq]; exact (X.2.2.2.2.2.2.1.1 ci q hc1).2.1⟩
  have hrun := va_runVN (As := as.map (bz_v G)) (rest := st.map (bz_v G)) (g := F0 m pc lsC ((as.reverse ++ .inr (some b) :: st).map (bz_v G))) (H := H) (below := below) (meth := meth) (locs := locs) (cells := cells) (slots := slots) (l := l) (e := e) ⟨X.1, X.2.1, X.2.2.1, X.2.2.2.1, X.2.2.2.2.1⟩ hM ⟨va_cnB n X.2.2.2.2.1 (bz_gws hsc) rfl rfl rfl (X.2.2.2.2.2.2.2.2.2.1.2.2.2.2.1 _ hw1) (X.2.2.2.2.1 _ hsc.1) hsc.2.2.1 ⟨by have := X.2.2.2.2.2.2.2.1.1; show d + 1 ≤ _; omega, by have := X.2.2.2.2.2.2.2.1.2; have := hsc.2.2.2; show 8 + (yc.2.2.1 + 11) + 64 * d ≤ _; omega⟩, X.2.2.2.2.1 _ hw2, X.2.2.2.2.1 _ hw3⟩ ⟨bz_blind G _ h, hrecv, bz_pre (as := .inr (some b) :: as) X.2.2.2.2.2.2.2.2.1 X.2.2.2.2.2.2.1 X.2.2.2.2.2.2.2.2.2.1 hW hS⟩ rfl ((List.length_map _).trans hn) hL.1 (by simp [bz_v]) (by show 2 * 0 + _ ≤ 8; rw [bz_sum]; omega) hd ⟨by omega, by omega⟩
  refine bz_back hrun hS fun v h' H1 locs1 hF hW1 hS1 => ?_
  have hk := k v h' (hFF v h' hF) X H1 locs1 (cells + mc) (slots + ms) lsC hW1 hL hS1 (by omega) (by omega)
  rw [List.map_append] at hk
  exact hk
theorem bz_callSN {ix n mc ms : Nat} {host : String} {yc : bz_M} {as : List bz_V} {FC : Option bz_V → bz_H → Prop} (hd : decode y.2.1 pc = .ok (.invokestatic ix, 3)) (hsc : bz_SC yc n) (hw1 : (y.1.cls, ix, yc.1, host) ∈ bz_nwM) (hw2 : Cond.static yc.1 ∈ bz_tbl) (hn : as.length = n) (hst : st.length ≤ 8) (hM : bz_Call G κ.2.1 d yc as h mc ms FC) (k : ∀ (v : Option bz_V) (h' : bz_H), FC v h' → bz_J G κ y (d + 1) F bc bs (pc + 3) ls (v.toList ++ st) h') : bz_J G κ y (d + 1) F (bc + mc) (bs + ms) (pc) ls (as.reverse ++ st) h := by
  obtain ⟨p, l, e, R, s, m, args, below, meth, c, Q⟩ := κ
  intro X H locs cells slots lsC hW hL hS hc hs
  obtain ⟨F0', hFF, hM⟩ := hM
  have hrun := va_runSN (As := as.map (bz_v G)) (rest := st.map (bz_v G)) (g := F0 m pc lsC ((as.reverse ++ st).map (bz_v G))) (H := H) (below := below) (meth := meth) (locs := locs) (cells := cells) (slots := slots) (l := l) (e := e) ⟨X.1, X.2.1, X.2.2.1, X.2.2.2.1, X.2.2.2.2.1⟩ hM ⟨va_cnB n X.2.2.2.2.1 (bz_gws hsc) rfl rfl rfl (X.2.2.2.2.2.2.2.2.2.1.2.2.2.2.1 _ hw1) (X.2.2.2.2.1 _ hsc.1) hsc.2.2.1 ⟨by have := X.2.2.2.2.2.2.2.1.1; show d + 1 ≤ _; omega, by have := X.2.2.2.2.2.2.2.1.2; have := hsc.2.2.2; show 8 + (yc.2.2.1 + 11) + 64 * d ≤ _; omega⟩, X.2.2.2.2.1 _ hw2, trivial⟩ ⟨bz_blind G _ h, bz_pre X.2.2.2.2.2.2.2.2.1 X.2.2.2.2.2.2.1 X.2.2.2.2.2.2.2.2.2.1 hW hS⟩ rfl ((List.length_map _).trans hn) hL.1 (by simp) (by show 2 * 0 + _ ≤ 8; rw [bz_sum]; omega) hd ⟨by omega, by omega⟩
  refine bz_back hrun hS fun v h' H1 locs1 hF hW1 hS1 => ?_
  have hk := k v h' (hFF v h' hF) X H1 locs1 (cells + mc) (slots + ms) lsC hW1 hL hS1 (by omega) (by omega)
  rw [List.map_append] at hk
  exact hk
theorem bz_callIN {ix n mc ms : Nat} {host : String} {yc : bz_M} {as : List bz_V} {FC : Option bz_V → bz_H → Prop} {b : Nat} (hd : decode y.2.1 pc = .ok (.invokespecial ix, 3)) (hsc : bz_SC yc n) (hret : yc.2.2.2 = none) (hw1 : (y.1.cls, ix, yc.1, host) ∈ bz_nwM) (hw2 : Cond.instanceMethod yc.1 ∈ bz_tbl) (hnm : yc.1.name = "<init>") (hn : as.length = n) (hst : st.length ≤ 8) (hM : bz_Call G κ.2.1 d yc (.inr (some b) :: as) h mc ms FC) (k : ∀ (v : Option bz_V) (h' : bz_H), FC v h' → bz_J G κ y (d + 1) F bc bs (pc + 3) ls (v.toList ++ st) h') : bz_J G κ y (d + 1) F (bc + mc) (bs + ms) (pc) ls (as.reverse ++ .inr (some b) :: st) h := by
  obtain ⟨p, l, e, R, s, m, args, below, meth, c, Q⟩ := κ
  intro X H locs cells slots lsC hW hL hS hc hs
  obtain ⟨F0', hFF, hM⟩ := hM
  obtain ⟨y1, y2, y3, y4⟩ := yc
  dsimp only at hret
  subst hret
  have hrun := va_runIN (As := as.map (bz_v G)) (rest := st.map (bz_v G)) (g := F0 m pc lsC ((as.reverse ++ .inr (some b) :: st).map (bz_v G))) (H := H) (below := below) (meth := meth) (locs := locs) (cells := cells) (slots := slots) (l := l) (e := e) ⟨X.1, X.2.1, X.2.2.1, X.2.2.2.1, X.2.2.2.2.1⟩ hM ⟨va_cnB n X.2.2.2.2.1 (bz_gws hsc) rfl rfl rfl (X.2.2.2.2.2.2.2.2.2.1.2.2.2.2.1 _ hw1) (X.2.2.2.2.1 _ hsc.1) hsc.2.2.1 ⟨by have := X.2.2.2.2.2.2.2.1.1; show d + 1 ≤ _; omega, by have := X.2.2.2.2.2.2.2.1.2; have h9 : y3 ≤ 45 := hsc.2.2.2; show 8 + (y3 + 11) + 64 * d ≤ _; omega⟩, hnm, X.2.2.2.2.1 _ hw2⟩ ⟨bz_blind G _ h, bz_pre (as := .inr (some b) :: as) X.2.2.2.2.2.2.2.2.1 X.2.2.2.2.2.2.1 X.2.2.2.2.2.2.2.2.2.1 hW hS⟩ rfl ((List.length_map _).trans hn) hL.1 (by simp [bz_v]) (by show 2 * 0 + _ ≤ 8; rw [bz_sum]; omega) hd ⟨by omega, by omega⟩
  refine bz_back hrun hS fun v h' H1 locs1 hF hW1 hS1 => ?_
  have hk := k v h' (hFF v h' hF) X H1 locs1 (cells + mc) (slots + ms) lsC hW1 hL hS1 (by omega) (by omega)
  rw [List.map_append] at hk
  exact hk
theorem bz_retI {x : Int32} {ty : FieldType} (hd : decode y.2.1 pc = .ok (.ireturn, 1)) (hr : y.2.2.2 = some ty) (hn : narrow ty (.int x) = .int x) (hF : F (some (.inl x)) h) : bz_J G κ y d F bc bs (pc) ls [.inl x] h := by
  obtain ⟨p, l, e, R, s, m, args, below, meth, c, Q⟩ := κ
  intro X H locs cells slots lsC hW hL hS hc hs
  exact X.2.2.2.2.2.2.2.2.2.2 (some (.inl x)) h H locs cells slots lsC pc hF hW hS (by omega) (by omega) ⟨⟨ty, hr, hn⟩, hd⟩
theorem bz_retR {x : Option Nat} {ty : FieldType} (hd : decode y.2.1 pc = .ok (.areturn, 1)) (hr : y.2.2.2 = some ty) (hn : (∃ n, ty = .object n) ∨ ∃ t, ty = .array t) (hF : F (some (.inr x)) h) : bz_J G κ y d F bc bs (pc) ls [.inr x] h := by
  obtain ⟨p, l, e, R, s, m, args, below, meth, c, Q⟩ := κ
  intro X H locs cells slots lsC hW hL hS hc hs
  exact X.2.2.2.2.2.2.2.2.2.2 (some (.inr x)) h H locs cells slots lsC pc hF hW hS (by omega) (by omega) ⟨⟨ty, hr, hn⟩, hd⟩
theorem bz_retV (hd : decode y.2.1 pc = .ok (.return_, 1)) (hr : y.2.2.2 = none) (hF : F none h) : bz_J G κ y d F bc bs (pc) ls [] h := by
  obtain ⟨p, l, e, R, s, m, args, below, meth, c, Q⟩ := κ
  intro X H locs cells slots lsC hW hL hS hc hs
  exact X.2.2.2.2.2.2.2.2.2.2 none h H locs cells slots lsC pc hF hW hS (by omega) (by omega) ⟨hr, hd⟩
theorem bz_mmax {x z : Int32} {ix : Nat} (hd : decode y.2.1 pc = .ok (.invokestatic ix, 3)) (hw1 : Cond.methodLink y.1.cls ix Lib.Math.max.name ∈ bz_tbl) (hw2 : Cond.static Lib.Math.max.name ∈ bz_tbl) (hw3 : Cond.initialized "java/lang/Math" ∈ bz_tbl) (hw4 : Cond.code Lib.Math.max.name Lib.Math.max.code 2 (some .int) ∈ bz_tbl) (hd0 : 0 < d) (hst : st.length ≤ 8) (k : bz_J G κ y d F bc bs (pc + 3) ls (.inl (if x < z then z else x) :: st) h) : bz_J G κ y d F bc bs (pc) ls (.inl z :: .inl x :: st) h := by
  obtain ⟨p, l, e, R, s, m, args, below, meth, c, Q⟩ := κ
  intro X H locs cells slots lsC hW hL hS hc hs
  exact va_mmax X.1 X.2.1 (X.2.2.1.trans hL.1.symm) X.2.2.2.1 (X.2.2.2.2.1 _ hw1) (X.2.2.2.2.1 _ hw2) (X.2.2.2.2.1 _ hw3) (X.2.2.2.2.1 _ hw4) (by have := X.2.2.2.2.2.2.2.1.1; omega) (by have := X.2.2.2.2.2.2.2.1.2; rw [bz_sum]; omega) (by omega) (by omega) hd (k X H locs cells slots lsC hW hL hS hc hs)
theorem bz_mmin {x z : Int32} {ix : Nat} (hd : decode y.2.1 pc = .ok (.invokestatic ix, 3)) (hw1 : Cond.methodLink y.1.cls ix Lib.Math.min.name ∈ bz_tbl) (hw2 : Cond.static Lib.Math.min.name ∈ bz_tbl) (hw3 : Cond.initialized "java/lang/Math" ∈ bz_tbl) (hw4 : Cond.code Lib.Math.min.name Lib.Math.min.code 2 (some .int) ∈ bz_tbl) (hd0 : 0 < d) (hst : st.length ≤ 8) (k : bz_J G κ y d F bc bs (pc + 3) ls (.inl (if z < x then z else x) :: st) h) : bz_J G κ y d F bc bs (pc) ls (.inl z :: .inl x :: st) h := by
  obtain ⟨p, l, e, R, s, m, args, below, meth, c, Q⟩ := κ
  intro X H locs cells slots lsC hW hL hS hc hs
  exact va_mmin X.1 X.2.1 (X.2.2.1.trans hL.1.symm) X.2.2.2.1 (X.2.2.2.2.1 _ hw1) (X.2.2.2.2.1 _ hw2) (X.2.2.2.2.1 _ hw3) (X.2.2.2.2.1 _ hw4) (by have := X.2.2.2.2.2.2.2.1.1; omega) (by have := X.2.2.2.2.2.2.2.1.2; rw [bz_sum]; omega) (by omega) (by omega) hd (k X H locs cells slots lsC hW hL hS hc hs)
theorem bz_mabs {x : Int32} {ix : Nat} (hd : decode y.2.1 pc = .ok (.invokestatic ix, 3)) (hw1 : Cond.methodLink y.1.cls ix Lib.Math.abs.name ∈ bz_tbl) (hw2 : Cond.static Lib.Math.abs.name ∈ bz_tbl) (hw3 : Cond.initialized "java/lang/Math" ∈ bz_tbl) (hw4 : Cond.code Lib.Math.abs.name Lib.Math.abs.code 1 (some .int) ∈ bz_tbl) (hd0 : 0 < d) (hst : st.length ≤ 8) (k : bz_J G κ y d F bc bs (pc + 3) ls (.inl (if 0 ≤ x then x else 0 - x) :: st) h) : bz_J G κ y d F bc bs (pc) ls (.inl x :: st) h := by
  obtain ⟨p, l, e, R, s, m, args, below, meth, c, Q⟩ := κ
  intro X H locs cells slots lsC hW hL hS hc hs
  exact va_mabs X.1 X.2.1 (X.2.2.1.trans hL.1.symm) X.2.2.2.1 (X.2.2.2.2.1 _ hw1) (X.2.2.2.2.1 _ hw2) (X.2.2.2.2.1 _ hw3) (X.2.2.2.2.1 _ hw4) (by have := X.2.2.2.2.2.2.2.1.1; omega) (by have := X.2.2.2.2.2.2.2.1.2; rw [bz_sum]; omega) (by omega) (by omega) hd (k X H locs cells slots lsC hW hL hS hc hs)
end BZC
