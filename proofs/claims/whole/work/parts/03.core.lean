/-! the abstract world: values, cells, heaps -/
abbrev bz_V : Type := Int32 ⊕ Option Nat
abbrev bz_C : Type := (Nat × (Nat → Int32)) ⊕ ((Nat × Nat × (Nat → Option Nat)) ⊕ (Nat × List bz_V))
abbrev bz_H : Type := List bz_C
abbrev bz_i (x : Int32) : bz_V := .inl x
abbrev bz_r (k : Nat) : bz_V := .inr (some k)
abbrev bz_n : bz_V := .inr none
abbrev bz_ci (n : Nat) (f : Nat → Int32) : bz_C := .inl (n, f)
abbrev bz_cr (t n : Nat) (f : Nat → Option Nat) : bz_C := .inr (.inl (t, n, f))
abbrev bz_co (c : Nat) (fs : List bz_V) : bz_C := .inr (.inr (c, fs))
abbrev bz_nb : Nat := 5
/-- where the new cells begin, where the old ones lie, classes and slots, array classes, what the old cells hold -/
abbrev bz_G : Type := Nat × (Nat → Nat) × va_G × (Nat → ClassId) × (Nat → bz_C)
def bz_adr (G : bz_G) (k : Nat) : Nat := if k < bz_nb then G.2.1 k else G.1 + (k - bz_nb)
def bz_v (G : bz_G) : bz_V → Value
  | .inl x => .int x
  | .inr none => .null
  | .inr (some k) => .ref (bz_adr G k)
def bz_e (G : bz_G) : bz_C → va_E
  | .inl (n, f) => .inl (G.2.2.2.1 0, n, .inl f)
  | .inr (.inl (t, n, f)) => .inl (G.2.2.2.1 t, n, .inr (.inr (.inr (.inr (fun j => (f j).map (bz_adr G))))))
  | .inr (.inr (c, fs)) => .inr (c, fs.map (bz_v G))
def bz_tys (G : bz_G) : List (ClassId × FieldType) := [(G.2.2.2.1 0, .int), (G.2.2.2.1 1, .object RX2), (G.2.2.2.1 2, .object RX3), (G.2.2.2.1 3, .object RX7), (G.2.2.2.1 4, .object RX5)]
def bz_A (G : bz_G) : Nat → Prop := fun q => G.1 ≤ q
def bz_W (G : bz_G) (h : bz_H) (H : Heap) : Prop := H.size + bz_nb = G.1 + h.length ∧ (∀ k, k < bz_nb → h[k]? = some (G.2.2.2.2 k)) ∧ ∀ (k : Nat) (c : bz_C), bz_nb ≤ k → h[k]? = some c → va_at G.2.2.1 vwCl (bz_adr G k, bz_e G c) H
def bz_nwM : List (String × Nat × MethodName × String) := [(RX10, 65, yX2_init, RX11), (RX11, 25, yX6_init, RX11), (RX11, 36, yX5_init, RX11), (RX11, 56, yX0_init, RX11), (RX4, 23, yX11_isWithin, RX11), (RX10, 76, yX11_isWithin, RX11), (RX9, 85, yX11_legFor, RX11), (RX0, 30, yX11_legFor, RX11), (RX0, 54, yX11_isWithin, RX11)]
/-- words that calls keep, but not as the others do -/
def bz_nst (U : State) : Prop := (∀ q ∈ bz_nwM, va_Nw (.methodLinkNest q.1 q.2.1 q.2.2.1 q.2.2.2) U) ∧ va_Nw (.fieldLinkNest RX9 63 RX11 "LINE_STOPS" "[I" RX11) U ∧ va_Nw (.castable "[I" "java/lang/Cloneable") U ∧ ∀ C ∈ [RX2, RX3, RX7, RX5], va_AO C U
theorem bz_nst.warm {s U : State} (hW : s.WarmedH U.vm) (h : bz_nst s) : bz_nst U := ⟨fun q hq => va_Nw.warmM hW (h.1 q hq), va_Nw.warmF hW h.2.1, va_Nw.warmC hW h.2.2.1, fun C hC => va_AO.moved hW.alike (h.2.2.2 C hC)⟩
theorem bz_nst.same {s U : State} (hv : U.vm = s.vm) (h : bz_nst s) : bz_nst U := ⟨fun q hq => va_Nw.same rfl hv.symm (h.1 q hq), va_Nw.same rfl hv.symm h.2.1, va_Nw.same rfl hv.symm h.2.2.1, fun C hC => va_AO.moved (by rw [hv]; exact Vm.Alike.refl _) (h.2.2.2 C hC)⟩
/-- the words that calls keep -/
def bz_tbl : List Cond := lw_tbl.filter goodWord
theorem bz_mem {w : Cond} (i : Nat) (h : lw_tbl[i]? = some w) (g : goodWord w = true) : w ∈ bz_tbl := List.mem_filter.mpr ⟨List.mem_of_getElem? h, g⟩
theorem bz_gd {w : Cond} (h : w ∈ bz_tbl) : w ∈ bz_tbl ∧ ((w.onTables && w.keeps) = true ∨ ∃ ty, w = .arrayClass ty) := ⟨h, good_of_word (List.mem_filter.mp h).2⟩
/-- what the old cells are: two static arrays, the script, the names' text and its bytes -/
def bz_old (G : bz_G) (U : State) (H : Heap) : Prop :=
  (∀ k, k < 3 → ∃ (n : Nat) (f : Nat → Int32), G.2.2.2.2 k = bz_ci n f ∧ va_T .int (G.2.1 k) n (fun j => .int (f j)) (bz_A G) U H) ∧
  va_Z "BagRiders" "UNDER" "[I" (.ref (G.2.1 0)) (bz_A G) U H ∧ va_Z "BagRiders" "LINE_STOPS" "[I" (.ref (G.2.1 1)) (bz_A G) U H ∧
  (vk_R RX6 59 "dwhrlcn" (G.2.1 3) U ∧ vk_S 1 [7] [[100, 119, 104, 114, 108, 99, 110]] (fun _ => G.2.1 3) (fun _ => G.2.1 4) (bz_A G) U H ∧ va_Z "java/lang/String" "COMPACT_STRINGS" "Z" (.int 1) (bz_A G) U H) ∧ bz_nst U
theorem bz_old.warm {G : bz_G} {s U : State} {H : Heap} (hW : s.WarmedH U.vm) (h : bz_old G s H) : bz_old G U H := by
  obtain ⟨h1, h2, h3, ⟨h4, h5, h6⟩, h7⟩ := h
  refine ⟨fun k hk => ?_, h2.moved hW.alike, h3.moved hW.alike, ⟨h4.warm hW, h5.moved hW.alike, h6.moved hW.alike⟩, h7.warm hW⟩
  obtain ⟨n, f, e, t⟩ := h1 k hk
  exact ⟨n, f, e, t.moved hW.alike⟩
theorem bz_old.same {G : bz_G} {s U : State} {H : Heap} (hv : U.vm = s.vm) (h : bz_old G s H) : bz_old G U H := by
  have hA : s.vm.Alike U.vm := by rw [hv]; exact Vm.Alike.refl _
  obtain ⟨h1, h2, h3, ⟨h4, h5, h6⟩, h7⟩ := h
  refine ⟨fun k hk => ?_, h2.moved hA, h3.moved hA, ⟨h4.same hv, h5.moved hA, h6.moved hA⟩, h7.same hv⟩
  obtain ⟨n, f, e, t⟩ := h1 k hk
  exact ⟨n, f, e, t.moved hA⟩
theorem bz_old.kept {G : bz_G} {U : State} {H H1 : Heap} (h : bz_old G U H) (hq : ∀ a : Nat, a < H.size → ¬ bz_A G a → H1[a]? = H[a]?) : bz_old G U H1 := by
  obtain ⟨h1, h2, h3, ⟨h4, h5, h6⟩, h7⟩ := h
  refine ⟨fun k hk => ?_, h2.kept hq, h3.kept hq, ⟨h4, h5.kept hq, h6.kept hq⟩, h7⟩
  obtain ⟨n, f, e, t⟩ := h1 k hk
  exact ⟨n, f, e, t.kept hq⟩
theorem bz_cat (G : bz_G) (v : bz_V) : (bz_v G v).category = 1 := by
  obtain x | (_ | k) := v <;> rfl
theorem bz_W.len {G : bz_G} {h : bz_H} {H : Heap} (w : bz_W G h H) : bz_nb ≤ h.length := by
  have h4 := w.2.1 4 (by decide)
  have := (List.getElem?_eq_some_iff.mp h4).1
  show 5 ≤ _
  omega
theorem bz_adr_hi (G : bz_G) {k : Nat} (hk : bz_nb ≤ k) : bz_adr G k = G.1 + (k - bz_nb) := by
  unfold bz_adr
  rw [if_neg (by omega)]
theorem bz_W.set {G : bz_G} {h : bz_H} {H H1 : Heap} {k : Nat} {c : bz_C} (w : bz_W G h H) (hk : bz_nb ≤ k) (hl : k < h.length) (he : va_at G.2.2.1 vwCl (bz_adr G k, bz_e G c) H1) (z : H1.size = H.size) (oq : ∀ q : Nat, q ≠ bz_adr G k → H1[q]? = H[q]?) : bz_W G (h.set k c) H1 := by
  refine ⟨by rw [z, List.length_set]; exact w.1, fun j hj => ?_, fun j c' hj hc => ?_⟩
  · rw [List.getElem?_set_ne (by omega)]
    exact w.2.1 j hj
  · by_cases hjk : j = k
    · subst hjk
      rw [List.getElem?_set_self hl] at hc
      cases hc
      exact he
    · rw [List.getElem?_set_ne (Ne.symm hjk)] at hc
      refine (w.2.2 j c' hj hc).kept (oq _ ?_)
      show bz_adr G j ≠ _
      rw [bz_adr_hi G hj, bz_adr_hi G hk]
      omega
theorem bz_W.next {G : bz_G} {h : bz_H} {H : Heap} (w : bz_W G h H) : bz_adr G h.length = H.size := by
  have h1 := w.len
  have h2 := w.1
  rw [bz_adr_hi G h1]
  have : bz_nb = 5 := rfl
  omega
theorem bz_W.push {G : bz_G} {h : bz_H} {H H1 : Heap} {c : bz_C} (w : bz_W G h H) (he : va_at G.2.2.1 vwCl (H.size, bz_e G c) H1) (z : H1.size = H.size + 1) (oq : ∀ q : Nat, q < H.size → H1[q]? = H[q]?) : bz_W G (h ++ [c]) H1 := by
  have hl := w.len
  refine ⟨by rw [z, List.length_append]; have := w.1; simp only [List.length_cons, List.length_nil]; omega, fun j hj => ?_, fun j c' hj hc => ?_⟩
  · rw [List.getElem?_append_left (by omega)]
    exact w.2.1 j hj
  · by_cases hjl : j < h.length
    · rw [List.getElem?_append_left hjl] at hc
      have h1 := w.2.2 j c' hj hc
      exact h1.kept (oq _ h1.lt)
    · rw [List.getElem?_append_right (by omega)] at hc
      have hz : j - h.length < 1 := (List.getElem?_eq_some_iff.mp hc).1
      have hj0 : j = h.length := by omega
      subst hj0
      rw [Nat.sub_self] at hc
      cases hc
      rw [w.next]
      exact he
/-- locals -/
def bz_lp (G : bz_G) : Nat → List (Option bz_V) → List (Nat × Value)
  | _, [] => []
  | i, none :: r => bz_lp G (i + 1) r
  | i, some v :: r => (i, bz_v G v) :: bz_lp G (i + 1) r
theorem bz_lp_mem (G : bz_G) : ∀ (ls : List (Option bz_V)) (i : Nat) (q : Nat × Value), q ∈ bz_lp G i ls ↔ ∃ (k : Nat) (v : bz_V), ls[k]? = some (some v) ∧ q = (i + k, bz_v G v)
  | [], i, q => by simp [bz_lp]
  | none :: r, i, q => by
    rw [bz_lp, bz_lp_mem G r (i + 1) q]
    constructor
    · rintro ⟨k, v, h1, h2⟩
      exact ⟨k + 1, v, by simpa using h1, by rw [h2]; congr 1; omega⟩
    · rintro ⟨k, v, h1, h2⟩
      cases k with
      | zero => simp at h1
      | succ k => exact ⟨k, v, by simpa using h1, by rw [h2]; congr 1; omega⟩
  | some w :: r, i, q => by
    rw [bz_lp, List.mem_cons, bz_lp_mem G r (i + 1) q]
    constructor
    · rintro (h | ⟨k, v, h1, h2⟩)
      · exact ⟨0, w, by simp, by rw [h]; rfl⟩
      · exact ⟨k + 1, v, by simpa using h1, by rw [h2]; congr 1; omega⟩
    · rintro ⟨k, v, h1, h2⟩
      cases k with
      | zero =>
        left
        simp at h1
        rw [h2, h1]
        rfl
      | succ k => exact Or.inr ⟨k, v, by simpa using h1, by rw [h2]; congr 1; omega⟩
theorem bz_lget {G : bz_G} {lsC : Array Slot} {nL : Nat} {ls : List (Option bz_V)} {i : Nat} {v : bz_V} (h : lv_has lsC nL (bz_lp G 0 ls)) (hv : ls[i]? = some (some v)) : lsC[i]? = some (.val (bz_v G v)) := by
  have h1 := h.2.2 (0 + i, bz_v G v) ((bz_lp_mem G ls 0 _).mpr ⟨i, v, hv, rfl⟩)
  simpa using h1
theorem bz_lset {G : bz_G} {lsC : Array Slot} {nL : Nat} {ls : List (Option bz_V)} {i : Nat} {v : bz_V} (h : lv_has lsC nL ((i, bz_v G v) :: (bz_lp G 0 ls).filter (fun q => !(q.1 == i) && !(q.1 + 1 == i && q.2.category == 2)))) : lv_has lsC nL (bz_lp G 0 (ls.set i (some v))) := by
  refine ⟨h.1, h.2.1, fun q hq => ?_⟩
  obtain ⟨k, w, h1, rfl⟩ := (bz_lp_mem G _ 0 q).mp hq
  by_cases hk : k = i
  · subst hk
    have hl : k < ls.length := by
      have := (List.getElem?_eq_some_iff.mp h1).1
      simpa using this
    rw [List.getElem?_set_self hl] at h1
    cases h1
    refine h.2.2 _ ?_
    rw [Nat.zero_add]
    exact List.mem_cons_self
  · rw [List.getElem?_set_ne (Ne.symm hk)] at h1
    refine h.2.2 _ (List.mem_cons_of_mem _ (List.mem_filter.mpr ⟨(bz_lp_mem G ls 0 _).mpr ⟨k, w, h1, rfl⟩, ?_⟩))
    rw [bz_cat]
    simp [hk]
/-! methods, the judgement -/
abbrev bz_M : Type := MethodName × ByteArray × Nat × Option FieldType
abbrev bz_K : Type := Program × Launch × Env × Room × State × MethodId × Array Value × List Frame × Method × Code × (State → Prop)
def bz_ret (y : bz_M) (pc : Nat) : Option bz_V → Prop
  | none => y.2.2.2 = none ∧ decode y.2.1 pc = .ok (.return_, 1)
  | some (.inl x) => (∃ ty, y.2.2.2 = some ty ∧ narrow ty (.int x) = .int x) ∧ decode y.2.1 pc = .ok (.ireturn, 1)
  | some (.inr _) => (∃ ty, y.2.2.2 = some ty ∧ ((∃ n, ty = .object n) ∨ ∃ t, ty = .array t)) ∧ decode y.2.1 pc = .ok (.areturn, 1)
def bz_End (G : bz_G) (p : Program) (l : Launch) (e : Env) (R : Room) (s : State) (m : MethodId) (args : Array Value) (below : List Frame) (meth : Method) (c : Code) (Q : State → Prop) (y : bz_M) (F : Option bz_V → bz_H → Prop) : Prop :=
  ∀ (v : Option bz_V) (h : bz_H) (H : Heap) (locs : List Loc) (cells slots : Nat) (lsC : Array Slot) (pc : Nat), F v h → bz_W G h H → va_S (bz_A G) s.heap H locs → cells ≤ R.cells → slots ≤ R.slots → bz_ret y pc v → W p l e R s m args below meth c H locs cells slots Q (F0 m pc lsC (v.toList.map (bz_v G)))
def bz_X (G : bz_G) (p : Program) (l : Launch) (e : Env) (R : Room) (s : State) (m : MethodId) (args : Array Value) (below : List Frame) (meth : Method) (c : Code) (Q : State → Prop) (y : bz_M) (d : Nat) (F : Option bz_V → bz_H → Prop) : Prop :=
  p.tables.exec = Jvm.exec ∧ c.code = y.2.1 ∧ c.maxLocals = y.2.2.1 ∧ s.vm.findClass y.1.cls = some m.cls ∧ (∀ w ∈ bz_tbl, w.before args s = true) ∧ (y.1.name = "<init>" → meth.name = "<init>") ∧ va_K G.2.2.1 vwCl (bz_tys G) s ∧ (d ≤ R.frames ∧ 64 * d ≤ R.locals) ∧ G.1 ≤ s.heap.size ∧ bz_old G s s.heap ∧ bz_End G p l e R s m args below meth c Q y F
def bz_J (G : bz_G) (κ : bz_K) (y : bz_M) (d : Nat) (F : Option bz_V → bz_H → Prop) (bc bs pc : Nat) (ls : List (Option bz_V)) (st : List bz_V) (h : bz_H) : Prop :=
  match κ with
  | (p, l, e, R, s, m, args, below, meth, c, Q) => bz_X G p l e R s m args below meth c Q y d F → ∀ (H : Heap) (locs : List Loc) (cells slots : Nat) (lsC : Array Slot), bz_W G h H → lv_has lsC y.2.2.1 (bz_lp G 0 ls) → va_S (bz_A G) s.heap H locs → cells + bc ≤ R.cells → slots + bs ≤ R.slots →
    W p l e R s m args below meth c H locs cells slots Q (F0 m pc lsC (st.map (bz_v G)))
section BZ
variable {G : bz_G} {κ : bz_K} {y : bz_M} {d : Nat} {F : Option bz_V → bz_H → Prop} {bc bs pc : Nat} {ls : List (Option bz_V)} {st : List bz_V} {h : bz_H}
theorem bz_iadd {x z : Int32} (hd : decode y.2.1 pc = .ok (.iadd, 1)) (k : bz_J G κ y d F bc bs (pc + 1) ls (.inl (x + z) :: st) h) : bz_J G κ y d F bc bs (pc) ls (.inl z :: .inl x :: st) h := by
  obtain ⟨p, l, e, R, s, m, args, below, meth, c, Q⟩ := κ
  intro X H locs cells slots lsC hW hL hS hc hs
  exact lv_iadd X.1 X.2.1 hd (k X H locs cells slots lsC hW hL hS hc hs)
theorem bz_isub {x z : Int32} (hd : decode y.2.1 pc = .ok (.isub, 1)) (k : bz_J G κ y d F bc bs (pc + 1) ls (.inl (x - z) :: st) h) : bz_J G κ y d F bc bs (pc) ls (.inl z :: .inl x :: st) h := by
  obtain ⟨p, l, e, R, s, m, args, below, meth, c, Q⟩ := κ
  intro X H locs cells slots lsC hW hL hS hc hs
  exact lv_isub X.1 X.2.1 hd (k X H locs cells slots lsC hW hL hS hc hs)
theorem bz_imul {x z : Int32} (hd : decode y.2.1 pc = .ok (.imul, 1)) (k : bz_J G κ y d F bc bs (pc + 1) ls (.inl (x * z) :: st) h) : bz_J G κ y d F bc bs (pc) ls (.inl z :: .inl x :: st) h := by
  obtain ⟨p, l, e, R, s, m, args, below, meth, c, Q⟩ := κ
  intro X H locs cells slots lsC hW hL hS hc hs
  exact lv_imul X.1 X.2.1 hd (k X H locs cells slots lsC hW hL hS hc hs)
theorem bz_iand {x z : Int32} (hd : decode y.2.1 pc = .ok (.iand, 1)) (k : bz_J G κ y d F bc bs (pc + 1) ls (.inl (x &&& z) :: st) h) : bz_J G κ y d F bc bs (pc) ls (.inl z :: .inl x :: st) h := by
  obtain ⟨p, l, e, R, s, m, args, below, meth, c, Q⟩ := κ
  intro X H locs cells slots lsC hW hL hS hc hs
  exact lv_iand X.1 X.2.1 hd (k X H locs cells slots lsC hW hL hS hc hs)
theorem bz_ior {x z : Int32} (hd : decode y.2.1 pc = .ok (.ior, 1)) (k : bz_J G κ y d F bc bs (pc + 1) ls (.inl (x ||| z) :: st) h) : bz_J G κ y d F bc bs (pc) ls (.inl z :: .inl x :: st) h := by
  obtain ⟨p, l, e, R, s, m, args, below, meth, c, Q⟩ := κ
  intro X H locs cells slots lsC hW hL hS hc hs
  exact lv_ior X.1 X.2.1 hd (k X H locs cells slots lsC hW hL hS hc hs)
theorem bz_ixor {x z : Int32} (hd : decode y.2.1 pc = .ok (.ixor, 1)) (k : bz_J G κ y d F bc bs (pc + 1) ls (.inl (x ^^^ z) :: st) h) : bz_J G κ y d F bc bs (pc) ls (.inl z :: .inl x :: st) h := by
  obtain ⟨p, l, e, R, s, m, args, below, meth, c, Q⟩ := κ
  intro X H locs cells slots lsC hW hL hS hc hs
  exact lv_ixor X.1 X.2.1 hd (k X H locs cells slots lsC hW hL hS hc hs)
theorem bz_ishl {x z : Int32} (hd : decode y.2.1 pc = .ok (.ishl, 1)) (k : bz_J G κ y d F bc bs (pc + 1) ls (.inl (x <<< (z &&& 31)) :: st) h) : bz_J G κ y d F bc bs (pc) ls (.inl z :: .inl x :: st) h := by
  obtain ⟨p, l, e, R, s, m, args, below, meth, c, Q⟩ := κ
  intro X H locs cells slots lsC hW hL hS hc hs
  exact lv_ishl X.1 X.2.1 hd (k X H locs cells slots lsC hW hL hS hc hs)
theorem bz_ishr {x z : Int32} (hd : decode y.2.1 pc = .ok (.ishr, 1)) (k : bz_J G κ y d F bc bs (pc + 1) ls (.inl (x >>> (z &&& 31)) :: st) h) : bz_J G κ y d F bc bs (pc) ls (.inl z :: .inl x :: st) h := by
  obtain ⟨p, l, e, R, s, m, args, below, meth, c, Q⟩ := κ
  intro X H locs cells slots lsC hW hL hS hc hs
  exact lv_ishr X.1 X.2.1 hd (k X H locs cells slots lsC hW hL hS hc hs)
theorem bz_idiv {x z : Int32} (hd : decode y.2.1 pc = .ok (.idiv, 1)) (hz : ¬ z = 0) (k : bz_J G κ y d F bc bs (pc + 1) ls (.inl (x / z) :: st) h) : bz_J G κ y d F bc bs (pc) ls (.inl z :: .inl x :: st) h := by
  obtain ⟨p, l, e, R, s, m, args, below, meth, c, Q⟩ := κ
  intro X H locs cells slots lsC hW hL hS hc hs
  exact lv_idiv X.1 X.2.1 hd hz (k X H locs cells slots lsC hW hL hS hc hs)
theorem bz_irem {x z : Int32} (hd : decode y.2.1 pc = .ok (.irem, 1)) (hz : ¬ z = 0) (k : bz_J G κ y d F bc bs (pc + 1) ls (.inl (x - x / z * z) :: st) h) : bz_J G κ y d F bc bs (pc) ls (.inl z :: .inl x :: st) h := by
  obtain ⟨p, l, e, R, s, m, args, below, meth, c, Q⟩ := κ
  intro X H locs cells slots lsC hW hL hS hc hs
  exact lv_irem X.1 X.2.1 hd hz (k X H locs cells slots lsC hW hL hS hc hs)
theorem bz_iushr {x z : Int32} (hd : decode y.2.1 pc = .ok (.iushr, 1)) (k : bz_J G κ y d F bc bs (pc + 1) ls (.inl ((x.toUInt32 >>> (z.toUInt32 &&& Int32.toUInt32 31)).toInt32) :: st) h) : bz_J G κ y d F bc bs (pc) ls (.inl z :: .inl x :: st) h := by
  obtain ⟨p, l, e, R, s, m, args, below, meth, c, Q⟩ := κ
  intro X H locs cells slots lsC hW hL hS hc hs
  exact lv_iushr X.1 X.2.1 hd rfl (k X H locs cells slots lsC hW hL hS hc hs)
theorem bz_ineg {x : Int32} (hd : decode y.2.1 pc = .ok (.ineg, 1)) (k : bz_J G κ y d F bc bs (pc + 1) ls (.inl (-x) :: st) h) : bz_J G κ y d F bc bs (pc) ls (.inl x :: st) h := by
  obtain ⟨p, l, e, R, s, m, args, below, meth, c, Q⟩ := κ
  intro X H locs cells slots lsC hW hL hS hc hs
  exact lv_ineg X.1 X.2.1 hd (k X H locs cells slots lsC hW hL hS hc hs)
theorem bz_i2b {x : Int32} (hd : decode y.2.1 pc = .ok (.i2b, 1)) (k : bz_J G κ y d F bc bs (pc + 1) ls (.inl (x.toInt8.toInt32) :: st) h) : bz_J G κ y d F bc bs (pc) ls (.inl x :: st) h := by
  obtain ⟨p, l, e, R, s, m, args, below, meth, c, Q⟩ := κ
  intro X H locs cells slots lsC hW hL hS hc hs
  exact lv_i2b X.1 X.2.1 hd rfl (k X H locs cells slots lsC hW hL hS hc hs)
theorem bz_i2s {x : Int32} (hd : decode y.2.1 pc = .ok (.i2s, 1)) (k : bz_J G κ y d F bc bs (pc + 1) ls (.inl (x.toInt16.toInt32) :: st) h) : bz_J G κ y d F bc bs (pc) ls (.inl x :: st) h := by
  obtain ⟨p, l, e, R, s, m, args, below, meth, c, Q⟩ := κ
  intro X H locs cells slots lsC hW hL hS hc hs
  exact lv_i2s X.1 X.2.1 hd rfl (k X H locs cells slots lsC hW hL hS hc hs)
theorem bz_i2c {x : Int32} (hd : decode y.2.1 pc = .ok (.i2c, 1)) (k : bz_J G κ y d F bc bs (pc + 1) ls (.inl ((x.toUInt32 % 65536).toInt32) :: st) h) : bz_J G κ y d F bc bs (pc) ls (.inl x :: st) h := by
  obtain ⟨p, l, e, R, s, m, args, below, meth, c, Q⟩ := κ
  intro X H locs cells slots lsC hW hL hS hc hs
  exact lv_i2c X.1 X.2.1 hd rfl (k X H locs cells slots lsC hW hL hS hc hs)
theorem bz_iconst {n : Int} {v : Int32} (hd : decode y.2.1 pc = .ok (.iconst n, 1)) (hv : Int32.ofInt n = v) (k : bz_J G κ y d F bc bs (pc + 1) ls (.inl v :: st) h) : bz_J G κ y d F bc bs (pc) ls st h := by
  obtain ⟨p, l, e, R, s, m, args, below, meth, c, Q⟩ := κ
  intro X H locs cells slots lsC hW hL hS hc hs
  exact lv_iconst X.1 X.2.1 hd hv (k X H locs cells slots lsC hW hL hS hc hs)
theorem bz_bipush {n : Int} {v : Int32} (hd : decode y.2.1 pc = .ok (.bipush n, 2)) (hv : (Int8.ofInt n).toInt32 = v) (k : bz_J G κ y d F bc bs (pc + 2) ls (.inl v :: st) h) : bz_J G κ y d F bc bs (pc) ls st h := by
  obtain ⟨p, l, e, R, s, m, args, below, meth, c, Q⟩ := κ
  intro X H locs cells slots lsC hW hL hS hc hs
  exact lv_bipush X.1 X.2.1 hd hv (k X H locs cells slots lsC hW hL hS hc hs)
theorem bz_sipush {n : Int} {v : Int32} (hd : decode y.2.1 pc = .ok (.sipush n, 3)) (hv : (Int16.ofInt n).toInt32 = v) (k : bz_J G κ y d F bc bs (pc + 3) ls (.inl v :: st) h) : bz_J G κ y d F bc bs (pc) ls st h := by
  obtain ⟨p, l, e, R, s, m, args, below, meth, c, Q⟩ := κ
  intro X H locs cells slots lsC hW hL hS hc hs
  exact lv_sipush X.1 X.2.1 hd hv (k X H locs cells slots lsC hW hL hS hc hs)
theorem bz_ldc {ix : Nat} {v : Int32} (hd : decode y.2.1 pc = .ok (.ldc ix, 2)) (hw : Cond.constant y.1.cls ix v ∈ bz_tbl) (k : bz_J G κ y d F bc bs (pc + 2) ls (.inl v :: st) h) : bz_J G κ y d F bc bs (pc) ls st h := by
  obtain ⟨p, l, e, R, s, m, args, below, meth, c, Q⟩ := κ
  intro X H locs cells slots lsC hW hL hS hc hs
  exact lv_ldc X.1 X.2.1 X.2.2.2.1 (X.2.2.2.2.1 _ hw) hd (k X H locs cells slots lsC hW hL hS hc hs)
theorem bz_ldcw {ix : Nat} {v : Int32} (hd : decode y.2.1 pc = .ok (.ldc_w ix, 3)) (hw : Cond.constant y.1.cls ix v ∈ bz_tbl) (k : bz_J G κ y d F bc bs (pc + 3) ls (.inl v :: st) h) : bz_J G κ y d F bc bs (pc) ls st h := by
  obtain ⟨p, l, e, R, s, m, args, below, meth, c, Q⟩ := κ
  intro X H locs cells slots lsC hW hL hS hc hs
  exact lv_ldcw X.1 X.2.1 X.2.2.2.1 (X.2.2.2.2.1 _ hw) hd (k X H locs cells slots lsC hW hL hS hc hs)
theorem bz_null (hd : decode y.2.1 pc = .ok (.aconst_null, 1)) (k : bz_J G κ y d F bc bs (pc + 1) ls (.inr none :: st) h) : bz_J G κ y d F bc bs (pc) ls st h := by
  obtain ⟨p, l, e, R, s, m, args, below, meth, c, Q⟩ := κ
  intro X H locs cells slots lsC hW hL hS hc hs
  exact lv_null X.1 X.2.1 hd (k X H locs cells slots lsC hW hL hS hc hs)
theorem bz_iload_n {n : Fin 4} {i : Nat} {x : Int32} (hd : decode y.2.1 pc = .ok (.iload_n n, 1)) (hi : (n : Nat) = i) (hl : ls[i]? = some (some (.inl x))) (k : bz_J G κ y d F bc bs (pc + 1) ls (.inl x :: st) h) : bz_J G κ y d F bc bs (pc) ls st h := by
  obtain ⟨p, l, e, R, s, m, args, below, meth, c, Q⟩ := κ
  intro X H locs cells slots lsC hW hL hS hc hs
  exact lv_iload_n X.1 X.2.1 hd hi (bz_lget hL hl) (k X H locs cells slots lsC hW hL hS hc hs)
theorem bz_iload {i : Nat} {x : Int32} (hd : decode y.2.1 pc = .ok (.iload i, 2)) (hl : ls[i]? = some (some (.inl x))) (k : bz_J G κ y d F bc bs (pc + 2) ls (.inl x :: st) h) : bz_J G κ y d F bc bs (pc) ls st h := by
  obtain ⟨p, l, e, R, s, m, args, below, meth, c, Q⟩ := κ
  intro X H locs cells slots lsC hW hL hS hc hs
  exact lv_iload X.1 X.2.1 hd (bz_lget hL hl) (k X H locs cells slots lsC hW hL hS hc hs)
theorem bz_aload_n {n : Fin 4} {i : Nat} {x : Option Nat} (hd : decode y.2.1 pc = .ok (.aload_n n, 1)) (hi : (n : Nat) = i) (hl : ls[i]? = some (some (.inr x))) (k : bz_J G κ y d F bc bs (pc + 1) ls (.inr x :: st) h) : bz_J G κ y d F bc bs (pc) ls st h := by
  obtain ⟨p, l, e, R, s, m, args, below, meth, c, Q⟩ := κ
  intro X H locs cells slots lsC hW hL hS hc hs
  have hg := bz_lget hL hl
  cases x with
  | none => exact lv_aload_nN X.1 X.2.1 hd hi hg (k X H locs cells slots lsC hW hL hS hc hs)
  | some x => exact lv_aload_n X.1 X.2.1 hd hi hg (k X H locs cells slots lsC hW hL hS hc hs)
theorem bz_aload {i : Nat} {x : Option Nat} (hd : decode y.2.1 pc = .ok (.aload i, 2)) (hl : ls[i]? = some (some (.inr x))) (k : bz_J G κ y d F bc bs (pc + 2) ls (.inr x :: st) h) : bz_J G κ y d F bc bs (pc) ls st h := by
  obtain ⟨p, l, e, R, s, m, args, below, meth, c, Q⟩ := κ
  intro X H locs cells slots lsC hW hL hS hc hs
  have hg := bz_lget hL hl
  cases x with
  | none => exact lv_aloadN X.1 X.2.1 hd hg (k X H locs cells slots lsC hW hL hS hc hs)
  | some x => exact lv_aload X.1 X.2.1 hd hg (k X H locs cells slots lsC hW hL hS hc hs)
theorem bz_istore_n {n : Fin 4} {i : Nat} {x : Int32} (hd : decode y.2.1 pc = .ok (.istore_n n, 1)) (hi : (n : Nat) = i) (hn : i < y.2.2.1) (k : bz_J G κ y d F bc bs (pc + 1) (ls.set i (some (.inl x))) st h) : bz_J G κ y d F bc bs (pc) ls (.inl x :: st) h := by
  obtain ⟨p, l, e, R, s, m, args, below, meth, c, Q⟩ := κ
  intro X H locs cells slots lsC hW hL hS hc hs
  exact lv_istore_n X.1 X.2.1 hd hi hL hn rfl (fun ls1 h1 => k X H locs cells slots ls1 hW (bz_lset h1) hS hc hs)
theorem bz_istore {i : Nat} {x : Int32} (hd : decode y.2.1 pc = .ok (.istore i, 2)) (hn : i < y.2.2.1) (k : bz_J G κ y d F bc bs (pc + 2) (ls.set i (some (.inl x))) st h) : bz_J G κ y d F bc bs (pc) ls (.inl x :: st) h := by
  obtain ⟨p, l, e, R, s, m, args, below, meth, c, Q⟩ := κ
  intro X H locs cells slots lsC hW hL hS hc hs
  exact lv_istore X.1 X.2.1 hd hL hn rfl (fun ls1 h1 => k X H locs cells slots ls1 hW (bz_lset h1) hS hc hs)
theorem bz_astore_n {n : Fin 4} {i : Nat} {x : Option Nat} (hd : decode y.2.1 pc = .ok (.astore_n n, 1)) (hi : (n : Nat) = i) (hn : i < y.2.2.1) (k : bz_J G κ y d F bc bs (pc + 1) (ls.set i (some (.inr x))) st h) : bz_J G κ y d F bc bs (pc) ls (.inr x :: st) h := by
  obtain ⟨p, l, e, R, s, m, args, below, meth, c, Q⟩ := κ
  intro X H locs cells slots lsC hW hL hS hc hs
  cases x with
  | none => exact lv_astore_nN X.1 X.2.1 hd hi hL hn rfl (fun ls1 h1 => k X H locs cells slots ls1 hW (bz_lset h1) hS hc hs)
  | some x => exact lv_astore_n X.1 X.2.1 hd hi hL hn rfl (fun ls1 h1 => k X H locs cells slots ls1 hW (bz_lset h1) hS hc hs)
theorem bz_astore {i : Nat} {x : Option Nat} (hd : decode y.2.1 pc = .ok (.astore i, 2)) (hn : i < y.2.2.1) (k : bz_J G κ y d F bc bs (pc + 2) (ls.set i (some (.inr x))) st h) : bz_J G κ y d F bc bs (pc) ls (.inr x :: st) h := by
  obtain ⟨p, l, e, R, s, m, args, below, meth, c, Q⟩ := κ
  intro X H locs cells slots lsC hW hL hS hc hs
  cases x with
  | none => exact lv_astoreN X.1 X.2.1 hd hL hn rfl (fun ls1 h1 => k X H locs cells slots ls1 hW (bz_lset h1) hS hc hs)
  | some x => exact lv_astore X.1 X.2.1 hd hL hn rfl (fun ls1 h1 => k X H locs cells slots ls1 hW (bz_lset h1) hS hc hs)
theorem bz_iinc {i : Nat} {n : Int} {x v : Int32} (hd : decode y.2.1 pc = .ok (.iinc i n, 3)) (hn : i < y.2.2.1) (hl : ls[i]? = some (some (.inl x))) (hv : x + Int32.ofInt n = v) (k : bz_J G κ y d F bc bs (pc + 3) (ls.set i (some (.inl v))) st h) : bz_J G κ y d F bc bs (pc) ls st h := by
  obtain ⟨p, l, e, R, s, m, args, below, meth, c, Q⟩ := κ
  intro X H locs cells slots lsC hW hL hS hc hs
  have hm : (i, Value.int x) ∈ bz_lp G 0 ls := (bz_lp_mem G ls 0 _).mpr ⟨i, .inl x, hl, by rw [Nat.zero_add]; rfl⟩
  obtain ⟨j, hj⟩ := List.getElem?_of_mem hm
  exact lv_iinc X.1 X.2.1 hd hL hj hv hn rfl (fun ls1 h1 => k X H locs cells slots ls1 hW (bz_lset h1) hS hc hs)
theorem bz_dup {v : bz_V} (hd : decode y.2.1 pc = .ok (.dup, 1)) (k : bz_J G κ y d F bc bs (pc + 1) ls (v :: v :: st) h) : bz_J G κ y d F bc bs (pc) ls (v :: st) h := by
  obtain ⟨p, l, e, R, s, m, args, below, meth, c, Q⟩ := κ
  intro X H locs cells slots lsC hW hL hS hc hs
  exact lv_dup X.1 X.2.1 hd (bz_cat G v) (k X H locs cells slots lsC hW hL hS hc hs)
theorem bz_pop {v : bz_V} (hd : decode y.2.1 pc = .ok (.pop, 1)) (k : bz_J G κ y d F bc bs (pc + 1) ls st h) : bz_J G κ y d F bc bs (pc) ls (v :: st) h := by
  obtain ⟨p, l, e, R, s, m, args, below, meth, c, Q⟩ := κ
  intro X H locs cells slots lsC hW hL hS hc hs
  exact lv_pop X.1 X.2.1 hd (bz_cat G v) (k X H locs cells slots lsC hW hL hS hc hs)
theorem bz_dup2 {v w : bz_V} (hd : decode y.2.1 pc = .ok (.dup2, 1)) (k : bz_J G κ y d F bc bs (pc + 1) ls (v :: w :: v :: w :: st) h) : bz_J G κ y d F bc bs (pc) ls (v :: w :: st) h := by
  obtain ⟨p, l, e, R, s, m, args, below, meth, c, Q⟩ := κ
  intro X H locs cells slots lsC hW hL hS hc hs
  exact lv_dup2_11 X.1 X.2.1 hd (bz_cat G v) (bz_cat G w) (k X H locs cells slots lsC hW hL hS hc hs)
theorem bz_if_eq {x : Int32} {off : Int} {tgt : Nat} (hd : decode y.2.1 pc = .ok (.ifCond .eq off, 3)) (ht : (pc : Int) + off = (tgt : Int)) (kt : x = 0 → bz_J G κ y d F bc bs (tgt) ls st h) (kf : ¬ (x = 0) → bz_J G κ y d F bc bs (pc + 3) ls st h) : bz_J G κ y d F bc bs (pc) ls (.inl x :: st) h := by
  obtain ⟨p, l, e, R, s, m, args, below, meth, c, Q⟩ := κ
  intro X H locs cells slots lsC hW hL hS hc hs
  exact lv_if_eq X.1 X.2.1 hd ht (fun hx => kt hx X H locs cells slots lsC hW hL hS hc hs) (fun hx => kf hx X H locs cells slots lsC hW hL hS hc hs)
theorem bz_icmp_eq {x z : Int32} {off : Int} {tgt : Nat} (hd : decode y.2.1 pc = .ok (.if_icmp .eq off, 3)) (ht : (pc : Int) + off = (tgt : Int)) (kt : x = z → bz_J G κ y d F bc bs (tgt) ls st h) (kf : ¬ (x = z) → bz_J G κ y d F bc bs (pc + 3) ls st h) : bz_J G κ y d F bc bs (pc) ls (.inl z :: .inl x :: st) h := by
  obtain ⟨p, l, e, R, s, m, args, below, meth, c, Q⟩ := κ
  intro X H locs cells slots lsC hW hL hS hc hs
  exact lv_icmp_eq X.1 X.2.1 hd ht (fun hx => kt hx X H locs cells slots lsC hW hL hS hc hs) (fun hx => kf hx X H locs cells slots lsC hW hL hS hc hs)
theorem bz_if_ne {x : Int32} {off : Int} {tgt : Nat} (hd : decode y.2.1 pc = .ok (.ifCond .ne off, 3)) (ht : (pc : Int) + off = (tgt : Int)) (kt : ¬ x = 0 → bz_J G κ y d F bc bs (tgt) ls st h) (kf : x = 0 → bz_J G κ y d F bc bs (pc + 3) ls st h) : bz_J G κ y d F bc bs (pc) ls (.inl x :: st) h := by
  obtain ⟨p, l, e, R, s, m, args, below, meth, c, Q⟩ := κ
  intro X H locs cells slots lsC hW hL hS hc hs
  exact lv_if_ne X.1 X.2.1 hd ht (fun hx => kt hx X H locs cells slots lsC hW hL hS hc hs) (fun hx => kf hx X H locs cells slots lsC hW hL hS hc hs)
theorem bz_icmp_ne {x z : Int32} {off : Int} {tgt : Nat} (hd : decode y.2.1 pc = .ok (.if_icmp .ne off, 3)) (ht : (pc : Int) + off = (tgt : Int)) (kt : ¬ x = z → bz_J G κ y d F bc bs (tgt) ls st h) (kf : x = z → bz_J G κ y d F bc bs (pc + 3) ls st h) : bz_J G κ y d F bc bs (pc) ls (.inl z :: .inl x :: st) h := by
  obtain ⟨p, l, e, R, s, m, args, below, meth, c, Q⟩ := κ
  intro X H locs cells slots lsC hW hL hS hc hs
  exact lv_icmp_ne X.1 X.2.1 hd ht (fun hx => kt hx X H locs cells slots lsC hW hL hS hc hs) (fun hx => kf hx X H locs cells slots lsC hW hL hS hc hs)
theorem bz_if_lt {x : Int32} {off : Int} {tgt : Nat} (hd : decode y.2.1 pc = .ok (.ifCond .lt off, 3)) (ht : (pc : Int) + off = (tgt : Int)) (kt : x < 0 → bz_J G κ y d F bc bs (tgt) ls st h) (kf : ¬ (x < 0) → bz_J G κ y d F bc bs (pc + 3) ls st h) : bz_J G κ y d F bc bs (pc) ls (.inl x :: st) h := by
  obtain ⟨p, l, e, R, s, m, args, below, meth, c, Q⟩ := κ
  intro X H locs cells slots lsC hW hL hS hc hs
  exact lv_if_lt X.1 X.2.1 hd ht (fun hx => kt hx X H locs cells slots lsC hW hL hS hc hs) (fun hx => kf hx X H locs cells slots lsC hW hL hS hc hs)
theorem bz_icmp_lt {x z : Int32} {off : Int} {tgt : Nat} (hd : decode y.2.1 pc = .ok (.if_icmp .lt off, 3)) (ht : (pc : Int) + off = (tgt : Int)) (kt : x < z → bz_J G κ y d F bc bs (tgt) ls st h) (kf : ¬ (x < z) → bz_J G κ y d F bc bs (pc + 3) ls st h) : bz_J G κ y d F bc bs (pc) ls (.inl z :: .inl x :: st) h := by
  obtain ⟨p, l, e, R, s, m, args, below, meth, c, Q⟩ := κ
  intro X H locs cells slots lsC hW hL hS hc hs
  exact lv_icmp_lt X.1 X.2.1 hd ht (fun hx => kt hx X H locs cells slots lsC hW hL hS hc hs) (fun hx => kf hx X H locs cells slots lsC hW hL hS hc hs)
theorem bz_if_ge {x : Int32} {off : Int} {tgt : Nat} (hd : decode y.2.1 pc = .ok (.ifCond .ge off, 3)) (ht : (pc : Int) + off = (tgt : Int)) (kt : 0 ≤ x → bz_J G κ y d F bc bs (tgt) ls st h) (kf : ¬ (0 ≤ x) → bz_J G κ y d F bc bs (pc + 3) ls st h) : bz_J G κ y d F bc bs (pc) ls (.inl x :: st) h := by
  obtain ⟨p, l, e, R, s, m, args, below, meth, c, Q⟩ := κ
  intro X H locs cells slots lsC hW hL hS hc hs
  exact lv_if_ge X.1 X.2.1 hd ht (fun hx => kt hx X H locs cells slots lsC hW hL hS hc hs) (fun hx => kf hx X H locs cells slots lsC hW hL hS hc hs)
theorem bz_icmp_ge {x z : Int32} {off : Int} {tgt : Nat} (hd : decode y.2.1 pc = .ok (.if_icmp .ge off, 3)) (ht : (pc : Int) + off = (tgt : Int)) (kt : z ≤ x → bz_J G κ y d F bc bs (tgt) ls st h) (kf : ¬ (z ≤ x) → bz_J G κ y d F bc bs (pc + 3) ls st h) : bz_J G κ y d F bc bs (pc) ls (.inl z :: .inl x :: st) h := by
  obtain ⟨p, l, e, R, s, m, args, below, meth, c, Q⟩ := κ
  intro X H locs cells slots lsC hW hL hS hc hs
  exact lv_icmp_ge X.1 X.2.1 hd ht (fun hx => kt hx X H locs cells slots lsC hW hL hS hc hs) (fun hx => kf hx X H locs cells slots lsC hW hL hS hc hs)
theorem bz_if_gt {x : Int32} {off : Int} {tgt : Nat} (hd : decode y.2.1 pc = .ok (.ifCond .gt off, 3)) (ht : (pc : Int) + off = (tgt : Int)) (kt : 0 < x → bz_J G κ y d F bc bs (tgt) ls st h) (kf : ¬ (0 < x) → bz_J G κ y d F bc bs (pc + 3) ls st h) : bz_J G κ y d F bc bs (pc) ls (.inl x :: st) h := by
  obtain ⟨p, l, e, R, s, m, args, below, meth, c, Q⟩ := κ
  intro X H locs cells slots lsC hW hL hS hc hs
  exact lv_if_gt X.1 X.2.1 hd ht (fun hx => kt hx X H locs cells slots lsC hW hL hS hc hs) (fun hx => kf hx X H locs cells slots lsC hW hL hS hc hs)
theorem bz_icmp_gt {x z : Int32} {off : Int} {tgt : Nat} (hd : decode y.2.1 pc = .ok (.if_icmp .gt off, 3)) (ht : (pc : Int) + off = (tgt : Int)) (kt : z < x → bz_J G κ y d F bc bs (tgt) ls st h) (kf : ¬ (z < x) → bz_J G κ y d F bc bs (pc + 3) ls st h) : bz_J G κ y d F bc bs (pc) ls (.inl z :: .inl x :: st) h := by
  obtain ⟨p, l, e, R, s, m, args, below, meth, c, Q⟩ := κ
  intro X H locs cells slots lsC hW hL hS hc hs
  exact lv_icmp_gt X.1 X.2.1 hd ht (fun hx => kt hx X H locs cells slots lsC hW hL hS hc hs) (fun hx => kf hx X H locs cells slots lsC hW hL hS hc hs)
theorem bz_if_le {x : Int32} {off : Int} {tgt : Nat} (hd : decode y.2.1 pc = .ok (.ifCond .le off, 3)) (ht : (pc : Int) + off = (tgt : Int)) (kt : x ≤ 0 → bz_J G κ y d F bc bs (tgt) ls st h) (kf : ¬ (x ≤ 0) → bz_J G κ y d F bc bs (pc + 3) ls st h) : bz_J G κ y d F bc bs (pc) ls (.inl x :: st) h := by
  obtain ⟨p, l, e, R, s, m, args, below, meth, c, Q⟩ := κ
  intro X H locs cells slots lsC hW hL hS hc hs
  exact lv_if_le X.1 X.2.1 hd ht (fun hx => kt hx X H locs cells slots lsC hW hL hS hc hs) (fun hx => kf hx X H locs cells slots lsC hW hL hS hc hs)
theorem bz_icmp_le {x z : Int32} {off : Int} {tgt : Nat} (hd : decode y.2.1 pc = .ok (.if_icmp .le off, 3)) (ht : (pc : Int) + off = (tgt : Int)) (kt : x ≤ z → bz_J G κ y d F bc bs (tgt) ls st h) (kf : ¬ (x ≤ z) → bz_J G κ y d F bc bs (pc + 3) ls st h) : bz_J G κ y d F bc bs (pc) ls (.inl z :: .inl x :: st) h := by
  obtain ⟨p, l, e, R, s, m, args, below, meth, c, Q⟩ := κ
  intro X H locs cells slots lsC hW hL hS hc hs
  exact lv_icmp_le X.1 X.2.1 hd ht (fun hx => kt hx X H locs cells slots lsC hW hL hS hc hs) (fun hx => kf hx X H locs cells slots lsC hW hL hS hc hs)
theorem bz_goto {off : Int} {tgt : Nat} (hd : decode y.2.1 pc = .ok (.goto off, 3)) (ht : (pc : Int) + off = (tgt : Int)) (k : bz_J G κ y d F bc bs (tgt) ls st h) : bz_J G κ y d F bc bs (pc) ls st h := by
  obtain ⟨p, l, e, R, s, m, args, below, meth, c, Q⟩ := κ
  intro X H locs cells slots lsC hW hL hS hc hs
  exact lv_goto X.1 X.2.1 hd ht (k X H locs cells slots lsC hW hL hS hc hs)
theorem bz_ifnull {x : Option Nat} {off : Int} {tgt : Nat} (hd : decode y.2.1 pc = .ok (.ifnull off, 3)) (ht : (pc : Int) + off = (tgt : Int)) (kt : x = none → bz_J G κ y d F bc bs (tgt) ls st h) (kf : ∀ a, x = some a → bz_J G κ y d F bc bs (pc + 3) ls st h) : bz_J G κ y d F bc bs (pc) ls (.inr x :: st) h := by
  obtain ⟨p, l, e, R, s, m, args, below, meth, c, Q⟩ := κ
  intro X H locs cells slots lsC hW hL hS hc hs
  cases x with
  | none => exact lv_ifnullN X.1 X.2.1 hd ht (kt rfl X H locs cells slots lsC hW hL hS hc hs)
  | some a => exact lv_ifnull X.1 X.2.1 hd (kf a rfl X H locs cells slots lsC hW hL hS hc hs)
theorem bz_ifnonnull {x : Option Nat} {off : Int} {tgt : Nat} (hd : decode y.2.1 pc = .ok (.ifnonnull off, 3)) (ht : (pc : Int) + off = (tgt : Int)) (kt : ∀ a, x = some a → bz_J G κ y d F bc bs (tgt) ls st h) (kf : x = none → bz_J G κ y d F bc bs (pc + 3) ls st h) : bz_J G κ y d F bc bs (pc) ls (.inr x :: st) h := by
  obtain ⟨p, l, e, R, s, m, args, below, meth, c, Q⟩ := κ
  intro X H locs cells slots lsC hW hL hS hc hs
  cases x with
  | none => exact lv_ifnonnullN X.1 X.2.1 hd (kf rfl X H locs cells slots lsC hW hL hS hc hs)
  | some a => exact lv_ifnonnull X.1 X.2.1 hd ht (kt a rfl X H locs cells slots lsC hW hL hS hc hs)
end BZ
