/-! cells that are made -/
def bz_al (h : bz_H) (c : bz_C) (P : Nat → bz_H → Prop) : Prop := P h.length (h ++ [c])
def bz_an (h : bz_H) (j : Int32) (N : Nat) (P : Nat → bz_H → Prop) : Prop := (¬ j < 0 ∧ j.toNatClampNeg ≤ N) ∧ P h.length (h ++ [bz_ci j.toNatClampNeg (fun _ => 0)])
def bz_aq (h : bz_H) (t : Nat) (j : Int32) (N : Nat) (P : Nat → bz_H → Prop) : Prop := (¬ j < 0 ∧ j.toNatClampNeg ≤ N) ∧ P h.length (h ++ [bz_cr t j.toNatClampNeg (fun _ => none)])
def bz_cn (h : bz_H) (a N : Nat) (P : Nat → bz_H → Prop) : Prop := ∃ (n : Nat) (f : Nat → Int32), bz_nb ≤ a ∧ h[a]? = some (bz_ci n f) ∧ n ≤ N ∧ P h.length (h ++ [bz_ci n f])
def bz_is (h : bz_H) (a : Nat) (P : Prop) : Prop := ∃ (n : Nat) (f : Nat → Int32), bz_nb ≤ a ∧ h[a]? = some (bz_ci n f) ∧ P
section BZA
variable {G : bz_G} {κ : bz_K} {y : bz_M} {d : Nat} {F : Option bz_V → bz_H → Prop} {bc bs pc : Nat} {ls : List (Option bz_V)} {st : List bz_V} {h : bz_H}
theorem bz_more {bc' bs' : Nat} (h1 : bc ≤ bc') (h2 : bs ≤ bs') (k : bz_J G κ y d F bc bs pc ls st h) : bz_J G κ y d F bc' bs' pc ls st h := by
  obtain ⟨p, l, e, R, s, m, args, below, meth, c, Q⟩ := κ
  intro X H locs cells slots lsC hW hL hS hc hs
  exact k X H locs cells slots lsC hW hL hS (by omega) (by omega)
theorem bz_rw_new {ix ci n : Nat} {q : vw_C} {fs : List bz_V} {P : Nat → bz_H → Prop} (hd : decode y.2.1 pc = .ok (.new ix, 3)) (hc1 : vwCl[ci]? = some q) (hw1 : Cond.classLink y.1.cls ix q.1 ∈ bz_tbl) (hw2 : Cond.instantiable q.1 q.2.2 ∈ bz_tbl) (hw3 : Cond.initialized q.1 ∈ bz_tbl) (hn : q.2.2 = n) (hfs : ∀ j, j < n → defaultValue (bz_tyOf ci j) = vp_V (fs.map (bz_v G)) j) (hP : bz_al h (bz_co ci fs) P) (k : ∀ a h', P a h' → bz_J G κ y d F bc bs (pc + 3) ls (.inr (some a) :: st) h') : bz_J G κ y d F (bc + 1) (bs + n) (pc) ls st h := bz_new hd hc1 hw1 hw2 hw3 hn hfs (k _ _ hP)
theorem bz_rw_an {j : Int32} {N : Nat} {P : Nat → bz_H → Prop} (hd : decode y.2.1 pc = .ok (.newarray .int, 2)) (hw : Cond.arrayClass .int ∈ bz_tbl) (hN : N ≤ 100000) (hP : bz_an h j N P) (k : ∀ a h', P a h' → bz_J G κ y d F bc bs (pc + 2) ls (.inr (some a) :: st) h') : bz_J G κ y d F (bc + 1) (bs + N) (pc) ls (.inl j :: st) h := by
  obtain ⟨⟨h1, h2⟩, h3⟩ := hP
  exact bz_more (Nat.le_refl _) (Nat.add_le_add_left h2 bs) (bz_newarr hd hw h1 rfl (Nat.le_trans h2 hN) (k _ _ h3))
theorem bz_rw_aq {ix t N : Nat} {C : String} {j : Int32} {P : Nat → bz_H → Prop} (hd : decode y.2.1 pc = .ok (.anewarray ix, 3)) (hw1 : Cond.classLink y.1.cls ix C ∈ bz_tbl) (hw2 : C ∈ [RX2, RX3, RX7, RX5]) (ht : (bz_tys G)[t]? = some (G.2.2.2.1 t, .object C)) (hN : N ≤ 100000) (hP : bz_aq h t j N P) (k : ∀ a h', P a h' → bz_J G κ y d F bc bs (pc + 3) ls (.inr (some a) :: st) h') : bz_J G κ y d F (bc + 1) (bs + N) (pc) ls (.inl j :: st) h := by
  obtain ⟨⟨h1, h2⟩, h3⟩ := hP
  exact bz_more (Nat.le_refl _) (Nat.add_le_add_left h2 bs) (bz_anew hd hw1 hw2 ht h1 rfl (Nat.le_trans h2 hN) (k _ _ h3))
theorem bz_rw_cn {ix a N : Nat} {P : Nat → bz_H → Prop} (hd : decode y.2.1 pc = .ok (.invokevirtual ix, 3)) (hw1 : Cond.methodLink y.1.cls ix ⟨"[I", "clone", "()Ljava/lang/Object;"⟩ ∈ bz_tbl) (hw2 : Cond.sameMethod "[I" "java/lang/Object" "clone" "()Ljava/lang/Object;" ∈ bz_tbl) (hw3 : Cond.native ⟨"java/lang/Object", "clone", "()Ljava/lang/Object;"⟩ ∈ bz_tbl) (hw4 : Cond.instanceMethod ⟨"java/lang/Object", "clone", "()Ljava/lang/Object;"⟩ ∈ bz_tbl) (hw5 : Cond.selects "[I" ⟨"[I", "clone", "()Ljava/lang/Object;"⟩ ⟨"java/lang/Object", "clone", "()Ljava/lang/Object;"⟩ ∈ bz_tbl) (hst : st.length ≤ 8) (hP : bz_cn h a N P) (k : ∀ a h', P a h' → bz_J G κ y (d + 1) F bc bs (pc + 3) ls (.inr (some a) :: st) h') : bz_J G κ y (d + 1) F (bc + 1) (bs + N) (pc) ls (.inr (some a) :: st) h := by
  obtain ⟨n, f, h1, h2, h3, h4⟩ := hP
  exact bz_more (Nat.le_refl _) (Nat.add_le_add_left h3 bs) (bz_clone hd hw1 hw2 hw3 hw4 hw5 h1 h2 (Nat.succ_pos d) hst (k _ _ h4))
theorem bz_rw_is {ix a : Nat} {P : Prop} (hd : decode y.2.1 pc = .ok (.checkcast ix, 3)) (hw : Cond.classLink y.1.cls ix "[I" ∈ bz_tbl) (hP : bz_is h a P) (k : P → bz_J G κ y d F bc bs (pc + 3) ls (.inr (some a) :: st) h) : bz_J G κ y d F bc bs (pc) ls (.inr (some a) :: st) h := by
  obtain ⟨n, f, h1, h2, h3⟩ := hP
  exact bz_castI hd hw h1 h2 (k h3)
theorem bz_kIStr {ix n mc ms : Nat} {yc : bz_M} {as : List bz_V} {P : Int32 → bz_H → Prop} (hd : decode y.2.1 pc = .ok (.invokevirtual ix, 3)) (hsc : bz_SC yc n) (hw1 : Cond.methodLink y.1.cls ix yc.1 ∈ bz_tbl) (hw2 : Cond.instanceMethod yc.1 ∈ bz_tbl) (hw3 : Cond.selects yc.1.cls yc.1 yc.1 ∈ bz_tbl) (hcq : yc.1.cls = "java/lang/String") (hn : as.length = n) (hst : st.length ≤ 8) (hM : bz_cI G κ.2.1 d yc (.inr (some 3) :: as) h mc ms P) (k : ∀ (x : Int32) (h' : bz_H), P x h' → bz_J G κ y (d + 1) F bc bs (pc + 3) ls (.inl x :: st) h') : bz_J G κ y (d + 1) F (bc + mc) (bs + ms) (pc) ls (as.reverse ++ .inr (some 3) :: st) h := bz_callStr hd hsc hw1 hw2 hw3 hcq hn hst hM (fun v h' q => by rcases q with ⟨x, rfl, q⟩; exact k x h' q)
end BZA
