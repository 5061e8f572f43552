/-- a switch: the first key that fits, else the default -/
def bz_sw (P : Nat → Prop) (pc : Nat) (dflt : Int) (x : Int32) : List (Int32 × Int) → Prop
  | [] => P ((pc : Int) + dflt).toNat
  | (a, o) :: r => (x = a → P ((pc : Int) + o).toNat) ∧ (¬ x = a → bz_sw P pc dflt x r)
theorem bz_swo {P : Nat → Prop} {pc : Nat} {dflt : Int} {x : Int32} : ∀ (ks : List (Int32 × Int)), bz_sw P pc dflt x ks → (∀ q ∈ ks, 0 ≤ (pc : Int) + q.2) → 0 ≤ (pc : Int) + dflt → ∃ (off : Int) (tgt : Nat), Op.lookupswitch.offset (ks.map fun q => (q.1.toInt, q.2)) dflt x.toInt = off ∧ (pc : Int) + off = (tgt : Int) ∧ P tgt
  | [], h, _, hd => ⟨dflt, _, by simp [Op.lookupswitch.offset], by omega, h⟩
  | (a, o) :: r, h, ha, hd => by
    by_cases hx : x = a
    · refine ⟨o, ((pc : Int) + o).toNat, ?_, ?_, h.1 hx⟩
      · rw [List.map_cons, Op.lookupswitch.offset_cons, if_pos (by rw [hx])]
      · have := ha _ List.mem_cons_self
        dsimp only at this
        omega
    · obtain ⟨off, tgt, h1, h2, h3⟩ := bz_swo r (h.2 hx) (fun q hq => ha q (List.mem_cons_of_mem _ hq)) hd
      refine ⟨off, tgt, ?_, h2, h3⟩
      rw [List.map_cons, Op.lookupswitch.offset_cons, if_neg (fun q => hx (Int32.toInt_inj.mp q.symm))]
      exact h1
theorem bz_swt {P : Nat → Prop} {pc : Nat} {dflt : Int} {x : Int32} : ∀ (ks : List (Int32 × Int)) (lo : Int), bz_sw P pc dflt x ks → (∀ (i : Nat) (q : Int32 × Int), ks[i]? = some q → q.1.toInt = lo + i) → (∀ q ∈ ks, 0 ≤ (pc : Int) + q.2) → 0 ≤ (pc : Int) + dflt →
    (∃ tgt : Nat, (x.toInt < lo ∨ lo + ks.length ≤ x.toInt) ∧ (pc : Int) + dflt = (tgt : Int) ∧ P tgt) ∨ ∃ (i : Nat) (q : Int32 × Int) (tgt : Nat), ks[i]? = some q ∧ x.toInt = lo + i ∧ (pc : Int) + q.2 = (tgt : Int) ∧ P tgt
  | [], lo, h, _, _, hd => Or.inl ⟨((pc : Int) + dflt).toNat, by simp; omega, by omega, h⟩
  | (a, o) :: r, lo, h, hk, ha, hd => by
    by_cases hx : x = a
    · refine Or.inr ⟨0, (a, o), ((pc : Int) + o).toNat, rfl, ?_, ?_, h.1 hx⟩
      · have := hk 0 (a, o) rfl
        rw [hx]
        exact this
      · have := ha _ List.mem_cons_self
        dsimp only at this ⊢
        omega
    · have h0 := hk 0 (a, o) rfl
      have hne : x.toInt ≠ lo := fun q => hx (Int32.toInt_inj.mp (by rw [q]; simpa using h0.symm))
      rcases bz_swt r (lo + 1) (h.2 hx) (fun i q hq => by have := hk (i + 1) q hq; push_cast at this; omega) (fun q hq => ha q (List.mem_cons_of_mem _ hq)) hd with ⟨tgt, h1, h2, h3⟩ | ⟨i, q, tgt, h1, h2, h3, h4⟩
      · refine Or.inl ⟨tgt, ?_, h2, h3⟩
        simp only [List.length_cons]
        push_cast
        omega
      · exact Or.inr ⟨i + 1, q, tgt, h1, by push_cast; omega, h3, h4⟩
section BZM
variable {G : bz_G} {κ : bz_K} {y : bz_M} {d : Nat} {F : Option bz_V → bz_H → Prop} {bc bs pc : Nat} {ls : List (Option bz_V)} {st : List bz_V} {h : bz_H}
theorem bz_lookup {dflt : Int} {ps : Array (Int × Int)} {len : Nat} {x : Int32} (ks : List (Int32 × Int)) (hd : decode y.2.1 pc = .ok (.lookupswitch dflt ps, len)) (hp : (ps.toList.zip (ps.toList.drop 1)).all (fun (a, next) => a.1 < next.1) = true) (hks : ps.toList = ks.map fun q => (q.1.toInt, q.2)) (h0 : ks.all (fun q => decide (0 ≤ (pc : Int) + q.2)) = true) (h1 : 0 ≤ (pc : Int) + dflt) (k : bz_sw (fun t => bz_J G κ y d F bc bs (t) ls st h) pc dflt x ks) : bz_J G κ y d F bc bs (pc) ls (.inl x :: st) h := by
  obtain ⟨p, l, e, R, s, m, args, below, meth, c, Q⟩ := κ
  intro X H locs cells slots lsC hW hL hS hc hs
  obtain ⟨off, tgt, e1, e2, e3⟩ := bz_swo ks k (fun q hq => of_decide_eq_true (List.all_eq_true.mp h0 q hq)) h1
  exact lv_lookup X.1 X.2.1 hd hp (by rw [hks]; exact e1) e2 (e3 X H locs cells slots lsC hW hL hS hc hs)
theorem bz_table {dflt lo hi : Int} {offs : Array Int} {len : Nat} {x : Int32} (ks : List (Int32 × Int)) (hd : decode y.2.1 pc = .ok (.tableswitch dflt lo hi offs, len)) (hks : offs.toList = ks.map fun q => q.2) (hlo : (List.range ks.length).all (fun i => decide ((ks[i]?.getD (0, 0)).1.toInt = lo + i)) = true) (hhi : hi + 1 = lo + ks.length) (h0 : ks.all (fun q => decide (0 ≤ (pc : Int) + q.2)) = true) (h1 : 0 ≤ (pc : Int) + dflt) (k : bz_sw (fun t => bz_J G κ y d F bc bs (t) ls st h) pc dflt x ks) : bz_J G κ y d F bc bs (pc) ls (.inl x :: st) h := by
  obtain ⟨p, l, e, R, s, m, args, below, meth, c, Q⟩ := κ
  intro X H locs cells slots lsC hW hL hS hc hs
  have hlo' : ∀ (i : Nat) (q : Int32 × Int), ks[i]? = some q → q.1.toInt = lo + i := by
    intro i q hq
    have hi := (List.getElem?_eq_some_iff.mp hq).1
    have := of_decide_eq_true (List.all_eq_true.mp hlo i (List.mem_range.mpr hi))
    rw [hq] at this
    exact this
  rcases bz_swt ks lo k hlo' (fun q hq => of_decide_eq_true (List.all_eq_true.mp h0 q hq)) h1 with ⟨tgt, e1, e2, e3⟩ | ⟨i, q, tgt, e1, e2, e3, e4⟩
  · exact lv_tableOut X.1 X.2.1 hd (by omega) e2 (e3 X H locs cells slots lsC hW hL hS hc hs)
  · have hi := (List.getElem?_eq_some_iff.mp e1).1
    refine lv_tableIn X.1 X.2.1 hd (by omega) (by omega) (off := q.2) ?_ e3 (e4 X H locs cells slots lsC hW hL hS hc hs)
    rw [show (x.toInt - lo).toNat = i by omega, ← Array.getElem?_toList, hks, List.getElem?_map, e1]
    rfl
theorem bz_copyi {a b n0 n1 ix : Nat} {f g : Nat → Int32} {sp dp n : Int32} (hd : decode y.2.1 pc = .ok (.invokestatic ix, 3)) (hw1 : Cond.methodLink y.1.cls ix arraycopyName ∈ bz_tbl) (hw2 : Cond.native arraycopyName ∈ bz_tbl) (hw3 : Cond.static arraycopyName ∈ bz_tbl) (hw4 : Cond.initialized "java/lang/System" ∈ bz_tbl) (ha : bz_nb ≤ a) (hha : h[a]? = some (bz_ci n0 f)) (hb : bz_nb ≤ b) (hhb : h[b]? = some (bz_ci n1 g)) (h1 : ¬ sp < 0) (h2 : ¬ dp < 0) (h3 : ¬ n < 0) (h4 : sp.toNatClampNeg + n.toNatClampNeg ≤ n0) (h5 : dp.toNatClampNeg + n.toNatClampNeg ≤ n1) (hd0 : 0 < d) (hst : st.length ≤ 8) (k : bz_J G κ y d F bc bs (pc + 3) ls st (h.set b (bz_ci n1 (va_cpy f g sp.toNatClampNeg dp.toNatClampNeg n.toNatClampNeg)))) : bz_J G κ y d F bc bs (pc) ls (.inl n :: .inl dp :: .inr (some b) :: .inl sp :: .inr (some a) :: st) h := by
  obtain ⟨p, l, e, R, s, m, args, below, meth, c, Q⟩ := κ
  intro X H locs cells slots lsC hW hL hS hc hs
  have nn : ∀ z : Int32, ¬ z < 0 → z.toInt = (z.toNatClampNeg : Int) := by
    intro z hz
    have hz0 : (0 : Int) ≤ z.toInt := by
      have := Int32.not_lt.mp hz
      simpa using Int32.le_iff_toInt_le.mp this
    show z.toInt = ((z.toInt.toNat : Nat) : Int)
    omega
  intro T hT Y
  have hc0 : H[bz_adr G a]? = some (vp_cell (G.2.2.2.1 0) (n0, .inl f)) := hW.2.2 a _ ha hha
  have hc1 : H[bz_adr G b]? = some (vp_cell (G.2.2.2.1 0) (n1, .inl g)) := hW.2.2 b _ hb hhb
  obtain ⟨-, k0, hk0, cm0, hkk0⟩ := (X.2.2.2.2.2.2.1.2 0 _ rfl).1 n0 (fun j => .int (f j))
  have hroom : nativeFrameWords "java/lang/System" "arraycopy" 5 = 7 := by decide
  obtain ⟨vm', X', step⟩ := Y.arraycopy X.1 X.2.2.2.1 (X.2.2.2.2.1 _ hw1) (X.2.2.2.2.1 _ hw2) (X.2.2.2.2.1 _ hw3) (X.2.2.2.2.1 _ hw4) (src := bz_adr G a) (dst := bz_adr G b) (cs := vp_cell (G.2.2.2.1 0) (n0, .inl f)) (cd := vp_cell (G.2.2.2.1 0) (n1, .inl g)) (srcPos := sp) (destPos := dp) (n := n) (by rw [hT]; exact hc0) (by rw [hT]; exact hc1)
    (fun _ h => by cases h) (fun _ h => by cases h) (fun h => by cases h) (fun h => by cases h) hk0 hk0 hkk0 hkk0 (by simp [refKind]) h1 h2 h3
    (by rw [nn sp h1, nn n h3]; show ¬ _ > ((arrV (G.2.2.2.1 0) n0 (fun j => .int (f j))).slots.size : Int); rw [arrV_size]; omega)
    (by rw [nn dp h2, nn n h3]; show ¬ _ > ((arrV (G.2.2.2.1 0) n1 (fun j => .int (g j))).slots.size : Int); rw [arrV_size]; omega)
    (fun vm₁ _ i hi => by
      have e : (vp_cell (G.2.2.2.1 0) (n0, .inl f)).slots.getD (sp.toNatClampNeg + i) .null = .int (f (sp.toNatClampNeg + i)) := by
        show (arrV (G.2.2.2.1 0) n0 (fun j => .int (f j))).slots.getD _ _ = _
        rw [Array.getD_eq_getD_getElem?, arrV_read _ _ (by omega)]
        rfl
      rw [e]
      exact ⟨rfl, trivial⟩)
    (g := F0 m pc lsC (.int n :: .int dp :: .ref (bz_adr G b) :: .int sp :: .ref (bz_adr G a) :: st.map (bz_v G))) rfl (by rw [X.2.2.1]; exact hL.1) (rest := st.map (bz_v G)) rfl (by rw [X.2.1]; exact hd) (by have := X.2.2.2.2.2.2.2.1.1; omega) (by show 2 * 0 + _ + _ ≤ _; rw [bz_sum, hroom]; have := X.2.2.2.2.2.2.2.1.2; omega)
  have e1 : copied (vp_cell (G.2.2.2.1 0) (n0, .inl f)) (vp_cell (G.2.2.2.1 0) (n1, .inl g)) sp dp n = vp_cell (G.2.2.2.1 0) (n1, .inl (va_cpy f g sp.toNatClampNeg dp.toNatClampNeg n.toNatClampNeg)) := va_copied (fun z => .int z) (G.2.2.2.1 0) (G.2.2.2.1 0) f g h4
  rw [e1] at X' step
  generalize hcell : vp_cell (G.2.2.2.1 0) (n1, .inl (va_cpy f g sp.toNatClampNeg dp.toNatClampNeg n.toNatClampNeg)) = cell at X' step
  have hl : bz_adr G b < H.size := (Array.getElem?_eq_some_iff.mp hc1).1
  have hheap : ((T.setVm vm').setCell (bz_adr G b) cell).heap = H.setIfInBounds (bz_adr G b) cell := by rw [← hT]; rfl
  have oq : ∀ q : Nat, q ≠ bz_adr G b → (H.setIfInBounds (bz_adr G b) cell)[q]? = H[q]? := fun q hq => by simp [Array.getElem?_setIfInBounds, Ne.symm hq]
  have hAb : bz_A G (bz_adr G b) := by
    show G.1 ≤ bz_adr G b
    rw [bz_adr_hi G hb]
    omega
  obtain ⟨t, a1, b1⟩ := k X _ _ cells slots lsC (hW.set hb (List.getElem?_eq_some_iff.mp hhb).1 (show (H.setIfInBounds (bz_adr G b) cell)[bz_adr G b]? = some (vp_cell _ _) by rw [hcell]; simp [Array.getElem?_setIfInBounds, hl]) (by simp) oq) hL ⟨by simp; exact hS.1, fun q g1 g2 => by
      rw [oq q (fun e => g2 (by rw [e]; exact hAb))]
      exact hS.2.1 q g1 g2, fun q hq => by
      rcases List.mem_append.mp hq with h | h
      · exact hS.2.2 q h
      · obtain ⟨z, -, hz⟩ := List.mem_map.mp h
        rw [← hz]
        exact hAb⟩ hc hs _ hheap X'
  exact ⟨t, step t a1, b1⟩
theorem bz_getsU {ix : Nat} (hd : decode y.2.1 pc = .ok (.getstatic ix, 3)) (hw : Cond.fieldLink y.1.cls ix "BagRiders" "UNDER" "[I" ∈ bz_tbl) (k : bz_J G κ y d F bc bs (pc + 3) ls (.inr (some 0) :: st) h) : bz_J G κ y d F bc bs (pc) ls st h := by
  obtain ⟨p, l, e, R, s, m, args, below, meth, c, Q⟩ := κ
  intro X H locs cells slots lsC hW hL hS hc hs
  exact va_gets X.1 X.2.1 X.2.2.2.2.2.2.2.2.2.1.2.1 hS X.2.2.2.1 (X.2.2.2.2.1 _ hw) (fun _ h9 => h9) hd (k X H locs cells slots lsC hW hL hS hc hs)
theorem bz_getsL {ix : Nat} (hd : decode y.2.1 pc = .ok (.getstatic ix, 3)) (hw : y.1.cls = RX9 ∧ ix = 63) (k : bz_J G κ y d F bc bs (pc + 3) ls (.inr (some 1) :: st) h) : bz_J G κ y d F bc bs (pc) ls st h := by
  obtain ⟨p, l, e, R, s, m, args, below, meth, c, Q⟩ := κ
  intro X H locs cells slots lsC hW hL hS hc hs
  obtain ⟨w1, rfl⟩ := hw
  exact va_getsN X.1 X.2.1 X.2.2.2.2.2.2.2.2.2.1.2.2.1 hS X.2.2.2.1 (by rw [w1]; exact va_Nw.use rfl X.2.2.2.2.2.2.2.2.2.1.2.2.2.2.2.1) (fun _ h9 => h9) hd (k X H locs cells slots lsC hW hL hS hc hs)
theorem bz_getsC {ix : Nat} (hd : decode y.2.1 pc = .ok (.getstatic ix, 3)) (hw : Cond.fieldLink y.1.cls ix "java/lang/String" "COMPACT_STRINGS" "Z" ∈ bz_tbl) (k : bz_J G κ y d F bc bs (pc + 3) ls (.inl 1 :: st) h) : bz_J G κ y d F bc bs (pc) ls st h := by
  obtain ⟨p, l, e, R, s, m, args, below, meth, c, Q⟩ := κ
  intro X H locs cells slots lsC hW hL hS hc hs
  exact va_gets X.1 X.2.1 X.2.2.2.2.2.2.2.2.2.1.2.2.2.1.2.2 hS X.2.2.2.1 (X.2.2.2.2.1 _ hw) (fun _ h9 => h9) hd (k X H locs cells slots lsC hW hL hS hc hs)
theorem bz_ldcS (hd : decode y.2.1 pc = .ok (.ldc 59, 2)) (hw : y.1.cls = RX6) (k : bz_J G κ y d F bc bs (pc + 2) ls (.inr (some 3) :: st) h) : bz_J G κ y d F bc bs (pc) ls st h := by
  obtain ⟨p, l, e, R, s, m, args, below, meth, c, Q⟩ := κ
  intro X H locs cells slots lsC hW hL hS hc hs
  exact va_ldcS X.1 X.2.1 (by rw [← hw]; exact X.2.2.2.1) X.2.2.2.2.2.2.2.2.2.1.2.2.2.1.1 hd (k X H locs cells slots lsC hW hL hS hc hs)
theorem bz_strV {ix : Nat} (hd : decode y.2.1 pc = .ok (.getfield ix, 3)) (hw : Cond.fieldLink y.1.cls ix "java/lang/String" "value" "[B" ∈ bz_tbl) (k : bz_J G κ y d F bc bs (pc + 3) ls (.inr (some 4) :: st) h) : bz_J G κ y d F bc bs (pc) ls (.inr (some 3) :: st) h := by
  obtain ⟨p, l, e, R, s, m, args, below, meth, c, Q⟩ := κ
  intro X H locs cells slots lsC hW hL hS hc hs
  exact vk_getf X.1 X.2.1 (X.2.2.2.2.2.2.2.2.2.1.2.2.2.1.2.1.1 0 (by decide)).2.2.1 hS X.2.2.2.1 (X.2.2.2.2.1 _ hw) (fun _ h9 => h9) hd (k X H locs cells slots lsC hW hL hS hc hs)
theorem bz_strC {ix : Nat} (hd : decode y.2.1 pc = .ok (.getfield ix, 3)) (hw : Cond.fieldLink y.1.cls ix "java/lang/String" "coder" "B" ∈ bz_tbl) (k : bz_J G κ y d F bc bs (pc + 3) ls (.inl 0 :: st) h) : bz_J G κ y d F bc bs (pc) ls (.inr (some 3) :: st) h := by
  obtain ⟨p, l, e, R, s, m, args, below, meth, c, Q⟩ := κ
  intro X H locs cells slots lsC hW hL hS hc hs
  exact vk_getf X.1 X.2.1 (X.2.2.2.2.2.2.2.2.2.1.2.2.2.1.2.1.1 0 (by decide)).2.1 hS X.2.2.2.1 (X.2.2.2.2.1 _ hw) (fun _ h9 => h9) hd (k X H locs cells slots lsC hW hL hS hc hs)
theorem bz_strL (hd : decode y.2.1 pc = .ok (.arraylength, 1)) (k : bz_J G κ y d F bc bs (pc + 1) ls (.inl 7 :: st) h) : bz_J G κ y d F bc bs (pc) ls (.inr (some 4) :: st) h := by
  obtain ⟨p, l, e, R, s, m, args, below, meth, c, Q⟩ := κ
  intro X H locs cells slots lsC hW hL hS hc hs
  exact va_tlen X.1 X.2.1 (X.2.2.2.2.2.2.2.2.2.1.2.2.2.1.2.1.1 0 (by decide)).2.2.2 hS (by decide) hd (k X H locs cells slots lsC hW hL hS hc hs)
theorem bz_strB {i v : Int32} (hd : decode y.2.1 pc = .ok (.baload, 1)) (hin : vp_in i 7) (hv : ([100, 119, 104, 114, 108, 99, 110] : List Int32).getD i.toNatClampNeg 0 = v) (k : bz_J G κ y d F bc bs (pc + 1) ls (.inl v :: st) h) : bz_J G κ y d F bc bs (pc) ls (.inl i :: .inr (some 4) :: st) h := by
  obtain ⟨p, l, e, R, s, m, args, below, meth, c, Q⟩ := κ
  intro X H locs cells slots lsC hW hL hS hc hs
  exact va_tb X.1 X.2.1 (X.2.2.2.2.2.2.2.2.2.1.2.2.2.1.2.1.1 0 (by decide)).2.2.2 hS hin (v := .int v) (congrArg Value.int hv) hd (k X H locs cells slots lsC hW hL hS hc hs)
theorem bz_callStr {ix n mc ms : Nat} {yc : bz_M} {as : List bz_V} {FC : Option bz_V → bz_H → Prop} (hd : decode y.2.1 pc = .ok (.invokevirtual ix, 3)) (hsc : bz_SC yc n) (hw1 : Cond.methodLink y.1.cls ix yc.1 ∈ bz_tbl) (hw2 : Cond.instanceMethod yc.1 ∈ bz_tbl) (hw3 : Cond.selects yc.1.cls yc.1 yc.1 ∈ bz_tbl) (hcq : yc.1.cls = "java/lang/String") (hn : as.length = n) (hst : st.length ≤ 8) (hM : bz_Call G κ.2.1 d yc (.inr (some 3) :: as) h mc ms FC) (k : ∀ (v : Option bz_V) (h' : bz_H), FC v h' → bz_J G κ y (d + 1) F bc bs (pc + 3) ls (v.toList ++ st) h') : bz_J G κ y (d + 1) F (bc + mc) (bs + ms) (pc) ls (as.reverse ++ .inr (some 3) :: st) h := by
  obtain ⟨p, l, e, R, s, m, args, below, meth, c, Q⟩ := κ
  intro X H locs cells slots lsC hW hL hS hc hs
  obtain ⟨F0', hFF, hM⟩ := hM
  have hrecv : ∃ cellB : Cell, H[bz_adr G 3]? = some cellB ∧ cellB.vm.isStatics = false ∧ s.vm.findClass yc.1.cls = some cellB.cls := by
    rw [hcq]
    exact vk_recv (i := 0) X.2.2.2.2.2.2.2.2.2.1.2.2.2.1.2.1 (by decide) hS
  have hrun := va_runV (As := as.map (bz_v G)) (rest := st.map (bz_v G)) (g := F0 m pc lsC ((as.reverse ++ .inr (some 3) :: st).map (bz_v G))) (H := H) (below := below) (meth := meth) (locs := locs) (cells := cells) (slots := slots) (l := l) (e := e) ⟨X.1, X.2.1, X.2.2.1, X.2.2.2.1, X.2.2.2.2.1⟩ hM ⟨callB_of n X.2.2.2.2.1 (bz_gws hsc) rfl rfl rfl (X.2.2.2.2.1 _ hsc.1) (X.2.2.2.2.1 _ hw1) hsc.2.2.1 ⟨by have := X.2.2.2.2.2.2.2.1.1; show d + 1 ≤ _; omega, by have := X.2.2.2.2.2.2.2.1.2; have := hsc.2.2.2; show 8 + (yc.2.2.1 + 11) + 64 * d ≤ _; omega⟩, X.2.2.2.2.1 _ hw2, X.2.2.2.2.1 _ hw3⟩ ⟨bz_blind G _ h, hrecv, bz_pre (as := .inr (some 3) :: as) X.2.2.2.2.2.2.2.2.1 X.2.2.2.2.2.2.1 X.2.2.2.2.2.2.2.2.2.1 hW hS⟩ rfl ((List.length_map _).trans hn) hL.1 (by simp [bz_v]) (by show 2 * 0 + _ ≤ 8; rw [bz_sum]; omega) hd ⟨by omega, by omega⟩
  refine bz_back hrun hS fun v h' H1 locs1 hF hW1 hS1 => ?_
  have hk := k v h' (hFF v h' hF) X H1 locs1 (cells + mc) (slots + ms) lsC hW1 hL hS1 (by omega) (by omega)
  rw [List.map_append] at hk
  exact hk
theorem bz_clone {ix a n : Nat} {f : Nat → Int32} (hd : decode y.2.1 pc = .ok (.invokevirtual ix, 3)) (hw1 : Cond.methodLink y.1.cls ix ⟨"[I", "clone", "()Ljava/lang/Object;"⟩ ∈ bz_tbl) (hw2 : Cond.sameMethod "[I" "java/lang/Object" "clone" "()Ljava/lang/Object;" ∈ bz_tbl) (hw3 : Cond.native ⟨"java/lang/Object", "clone", "()Ljava/lang/Object;"⟩ ∈ bz_tbl) (hw4 : Cond.instanceMethod ⟨"java/lang/Object", "clone", "()Ljava/lang/Object;"⟩ ∈ bz_tbl) (hw5 : Cond.selects "[I" ⟨"[I", "clone", "()Ljava/lang/Object;"⟩ ⟨"java/lang/Object", "clone", "()Ljava/lang/Object;"⟩ ∈ bz_tbl) (ha : bz_nb ≤ a) (hh : h[a]? = some (bz_ci n f)) (hd0 : 0 < d) (hst : st.length ≤ 8) (k : bz_J G κ y d F bc bs (pc + 3) ls (.inr (some h.length) :: st) (h ++ [bz_ci n f])) : bz_J G κ y d F (bc + 1) (bs + n) (pc) ls (.inr (some a) :: st) h := by
  obtain ⟨p, l, e, R, s, m, args, below, meth, c, Q⟩ := κ
  intro X H locs cells slots lsC hW hL hS hc hs
  have hnm : s.vm.findClass "[I" = some (G.2.2.2.1 0) := (X.2.2.2.2.2.2.1.2 0 _ rfl).2
  obtain ⟨c0, t0', f1, f2, f3⟩ := Cond.castable_spec (va_Nw.use (A := args) rfl X.2.2.2.2.2.2.2.2.2.1.2.2.2.2.2.2.1)
  cases hnm.symm.trans f1
  intro T hT Y
  have hcellT : T.heap[bz_adr G a]? = some (vp_cell (G.2.2.2.1 0) (n, .inl f)) := by rw [hT]; exact hW.2.2 a _ ha hh
  obtain ⟨-, kA, hkA, comp, hkind⟩ := State.isArrayOf_alike Y.warmed.alike ((X.2.2.2.2.2.2.1.2 0 _ rfl).1 0 (fun _ => .null))
  obtain ⟨-, kS, hkS, compS, hkindS⟩ := (X.2.2.2.2.2.2.1.2 0 _ rfl).1 0 (fun _ => .null)
  have hsz : (vp_cell (G.2.2.2.1 0) (n, .inl f)).slots.size = n := arrV_size _ _ _
  obtain ⟨vm', X', step⟩ := Y.cloneArray X.1 X.2.2.2.1 (X.2.2.2.2.1 _ hw1) (X.2.2.2.2.1 _ hw2) (X.2.2.2.2.1 _ hw3) (X.2.2.2.2.1 _ hw4) (X.2.2.2.2.1 _ hw5) (a := bz_adr G a) (cell := vp_cell (G.2.2.2.1 0) (n, .inl f)) hcellT (fun k h => by cases h) (fun h => by cases h) hnm f2 f3
    (fun i v hv => by
      have hk' : T.vm.classes[G.2.2.2.1 0]? = some kA := hkA
      have hi : i < n := by
        have := (Array.getElem?_eq_some_iff.mp hv).1
        rw [hsz] at this
        exact this
      have hv' : (arrV (G.2.2.2.1 0) n (fun j => .int (f j))).slots[i]? = some v := hv
      rw [arrV_read _ _ hi] at hv'
      cases hv'
      show T.fitsSlot (G.2.2.2.1 0) .none i (.int (f i)) = true
      simp [State.fitsSlot, State.slotType?, hk', hkind, fits])
    (g := F0 m pc lsC (.ref (bz_adr G a) :: st.map (bz_v G))) rfl (by rw [X.2.2.1]; exact hL.1) rfl (by rw [X.2.1]; exact hd) (by have := X.2.2.2.2.2.2.2.1.1; omega) (by show 2 * 0 + _ + 14 ≤ _; rw [bz_sum]; have := X.2.2.2.2.2.2.2.1.2; omega) (by omega) (by rw [hsz]; omega) (hloader := Vm.clonesLoader_of_array hkS hkindS)
  have hcellE : ({ cls := (vp_cell (G.2.2.2.1 0) (n, .inl f)).cls, slots := (vp_cell (G.2.2.2.1 0) (n, .inl f)).slots } : Cell) = vp_cell (G.2.2.2.1 0) (n, .inl f) := rfl
  rw [hcellE, hsz] at X'
  generalize hH1 : H.push (vp_cell (G.2.2.2.1 0) (n, .inl f)) = H1
  have z1 : H1.size = H.size + 1 := by rw [← hH1, Array.size_push]
  have e1 : H1[H.size]? = some (vp_cell (G.2.2.2.1 0) (n, .inl f)) := by rw [← hH1, Array.getElem?_push_size]
  have o1 : ∀ q : Nat, q < H.size → H1[q]? = H[q]? := fun q hq => by rw [← hH1, Array.getElem?_push, if_neg (Nat.ne_of_lt hq)]
  obtain ⟨t, b1, b2⟩ := k X H1 locs (cells + 1) (slots + n) lsC (hW.push (show H1[H.size]? = some (vp_cell _ _) from e1) z1 o1) hL ⟨Nat.le_trans hS.1 (by omega), fun y h1 h2 => (o1 y (Nat.lt_of_lt_of_le h1 hS.1)).trans (hS.2.1 y h1 h2), hS.2.2⟩ (by omega) (by omega)
    ((T.setVm vm').pushCell (vp_cell (G.2.2.2.1 0) (n, .inl f))) (by rw [← hH1, ← hT]; rfl) X'
  refine ⟨t, step t ?_, b2⟩
  rw [List.map_cons, show bz_v G (.inr (some h.length)) = .ref H.size by show Value.ref (bz_adr G h.length) = _; rw [hW.next]] at b1
  rw [hcellE, hT]
  exact b1
theorem bz_castI {ix a n : Nat} {f : Nat → Int32} (hd : decode y.2.1 pc = .ok (.checkcast ix, 3)) (hw : Cond.classLink y.1.cls ix "[I" ∈ bz_tbl) (ha : bz_nb ≤ a) (hh : h[a]? = some (bz_ci n f)) (k : bz_J G κ y d F bc bs (pc + 3) ls (.inr (some a) :: st) h) : bz_J G κ y d F bc bs (pc) ls (.inr (some a) :: st) h := by
  obtain ⟨p, l, e, R, s, m, args, below, meth, c, Q⟩ := κ
  intro X H locs cells slots lsC hW hL hS hc hs
  have hP : va_P G.2.2.1 vwCl [(bz_adr G a, .inl (G.2.2.2.1 0, n, .inl f))] H := by
    intro k q hk
    match k, hk with
    | 0, hk => cases hk; exact hW.2.2 a _ ha hh
    | n + 1, hk => simp at hk
  exact va_castA X.1 X.2.1 X.2.2.2.1 (X.2.2.2.2.1 _ hw) hP 0 rfl (X.2.2.2.2.2.2.1.2 0 _ rfl).2 hd (k X H locs cells slots lsC hW hL hS hc hs)
end BZM
