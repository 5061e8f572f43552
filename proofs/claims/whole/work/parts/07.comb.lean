/-! what a method needs, in words: reads, writes, calls -/
def bz_rI (h : bz_H) (a ci k : Nat) (P : Int32 → Prop) : Prop := ∃ (fs : List bz_V) (x : Int32), bz_nb ≤ a ∧ h[a]? = some (bz_co ci fs) ∧ fs[k]? = some (.inl x) ∧ P x
def bz_rR (h : bz_H) (a ci k : Nat) (P : Option Nat → Prop) : Prop := ∃ (fs : List bz_V) (x : Option Nat), bz_nb ≤ a ∧ h[a]? = some (bz_co ci fs) ∧ fs[k]? = some (.inr x) ∧ P x
def bz_rA (h : bz_H) (a : Nat) (j : Int32) (P : Int32 → Prop) : Prop := ∃ (n : Nat) (f : Nat → Int32), (a < 3 ∨ bz_nb ≤ a) ∧ h[a]? = some (bz_ci n f) ∧ vp_in j n ∧ P (f j.toNatClampNeg)
def bz_rN (h : bz_H) (a : Nat) (P : Int32 → Prop) : Prop := ∃ (n : Nat) (f : Nat → Int32), (a < 3 ∨ bz_nb ≤ a) ∧ h[a]? = some (bz_ci n f) ∧ P (Int32.ofNat n)
def bz_rQ (h : bz_H) (a : Nat) (j : Int32) (P : Option Nat → Prop) : Prop := ∃ (t n : Nat) (f : Nat → Option Nat), bz_nb ≤ a ∧ h[a]? = some (bz_cr t n f) ∧ (1 ≤ t ∧ t ≤ 4) ∧ vp_in j n ∧ P (f j.toNatClampNeg)
def bz_wI (h : bz_H) (a ci k : Nat) (v : Int32) (P : bz_H → Prop) : Prop := ∃ fs : List bz_V, bz_nb ≤ a ∧ h[a]? = some (bz_co ci fs) ∧ k < fs.length ∧ P (h.set a (bz_co ci (fs.set k (.inl v))))
def bz_wR (h : bz_H) (a ci k : Nat) (v : Option Nat) (P : bz_H → Prop) : Prop := ∃ fs : List bz_V, bz_nb ≤ a ∧ h[a]? = some (bz_co ci fs) ∧ k < fs.length ∧ P (h.set a (bz_co ci (fs.set k (.inr v))))
def bz_wA (h : bz_H) (a : Nat) (j v : Int32) (P : bz_H → Prop) : Prop := ∃ (n : Nat) (f : Nat → Int32), bz_nb ≤ a ∧ h[a]? = some (bz_ci n f) ∧ vp_in j n ∧ P (h.set a (bz_ci n (upd f j.toNatClampNeg v)))
def bz_tcl (t : Nat) : Nat := match t with
  | 1 => 2 | 2 => 3 | 3 => 7 | _ => 5
def bz_wQ (h : bz_H) (a : Nat) (j : Int32) (v : Option Nat) (P : bz_H → Prop) : Prop := ∃ (t n : Nat) (f : Nat → Option Nat), bz_nb ≤ a ∧ h[a]? = some (bz_cr t n f) ∧ (1 ≤ t ∧ t ≤ 4) ∧ vp_in j n ∧ (∀ b, v = some b → bz_nb ≤ b ∧ ∃ fs, h[b]? = some (bz_co (bz_tcl t) fs)) ∧ P (h.set a (bz_cr t n (va_up f j.toNatClampNeg v)))
def bz_nn (r : Option Nat) (P : Nat → Prop) : Prop := ∃ a, r = some a ∧ P a
def bz_rc (h : bz_H) (a ci : Nat) (P : Prop) : Prop := ∃ fs : List bz_V, bz_nb ≤ a ∧ h[a]? = some (bz_co ci fs) ∧ P
def bz_b (x : Int32) (P : Prop) : Prop := (x = 0 ∨ x = 1) ∧ P
def bz_cp (h : bz_H) (a : Nat) (sp : Int32) (b : Nat) (dp n : Int32) (P : bz_H → Prop) : Prop := ∃ (n0 n1 : Nat) (f g : Nat → Int32), bz_nb ≤ a ∧ h[a]? = some (bz_ci n0 f) ∧ bz_nb ≤ b ∧ h[b]? = some (bz_ci n1 g) ∧ (¬ sp < 0 ∧ ¬ dp < 0 ∧ ¬ n < 0 ∧ sp.toNatClampNeg + n.toNatClampNeg ≤ n0 ∧ dp.toNatClampNeg + n.toNatClampNeg ≤ n1) ∧ P (h.set b (bz_ci n1 (va_cpy f g sp.toNatClampNeg dp.toNatClampNeg n.toNatClampNeg)))
def bz_cI (G : bz_G) (l : Launch) (d : Nat) (y : bz_M) (as : List bz_V) (h : bz_H) (mc ms : Nat) (P : Int32 → bz_H → Prop) : Prop := bz_Call G l d y as h mc ms (fun v h' => ∃ x, v = some (.inl x) ∧ P x h')
def bz_cR (G : bz_G) (l : Launch) (d : Nat) (y : bz_M) (as : List bz_V) (h : bz_H) (mc ms : Nat) (P : Option Nat → bz_H → Prop) : Prop := bz_Call G l d y as h mc ms (fun v h' => ∃ x, v = some (.inr x) ∧ P x h')
def bz_cV (G : bz_G) (l : Launch) (d : Nat) (y : bz_M) (as : List bz_V) (h : bz_H) (mc ms : Nat) (P : bz_H → Prop) : Prop := bz_Call G l d y as h mc ms (fun v h' => v = none ∧ P h')
theorem bz_cI.mono {G : bz_G} {l : Launch} {d : Nat} {y : bz_M} {as : List bz_V} {h : bz_H} {mc ms : Nat} {P P' : Int32 → bz_H → Prop} (hC : bz_cI G l d y as h mc ms P) (hP : ∀ x h', P x h' → P' x h') : bz_cI G l d y as h mc ms P' := bz_Call.mono hC (fun v h' ⟨x, e, q⟩ => ⟨x, e, hP x h' q⟩)
theorem bz_cR.mono {G : bz_G} {l : Launch} {d : Nat} {y : bz_M} {as : List bz_V} {h : bz_H} {mc ms : Nat} {P P' : Option Nat → bz_H → Prop} (hC : bz_cR G l d y as h mc ms P) (hP : ∀ x h', P x h' → P' x h') : bz_cR G l d y as h mc ms P' := bz_Call.mono hC (fun v h' ⟨x, e, q⟩ => ⟨x, e, hP x h' q⟩)
theorem bz_cV.mono {G : bz_G} {l : Launch} {d : Nat} {y : bz_M} {as : List bz_V} {h : bz_H} {mc ms : Nat} {P P' : bz_H → Prop} (hC : bz_cV G l d y as h mc ms P) (hP : ∀ h', P h' → P' h') : bz_cV G l d y as h mc ms P' := bz_Call.mono hC (fun v h' ⟨e, q⟩ => ⟨e, hP h' q⟩)
/-- what a return asks, by kinds -/
def bz_fI (P : Int32 → bz_H → Prop) : Option bz_V → bz_H → Prop := fun v h' => ∃ x, v = some (.inl x) ∧ P x h'
def bz_fR (P : Option Nat → bz_H → Prop) : Option bz_V → bz_H → Prop := fun v h' => ∃ x, v = some (.inr x) ∧ P x h'
def bz_fV (P : bz_H → Prop) : Option bz_V → bz_H → Prop := fun v h' => v = none ∧ P h'
theorem bz_tysO (G : bz_G) {t : Nat} (h : 1 ≤ t ∧ t ≤ 4) : ∃ q : vw_C, vwCl[bz_tcl t]? = some q ∧ (bz_tys G)[t]? = some (G.2.2.2.1 t, .object q.1) := by
  rcases (show t = 1 ∨ t = 2 ∨ t = 3 ∨ t = 4 by omega) with rfl | rfl | rfl | rfl <;> exact ⟨_, rfl, rfl⟩
section BZW
variable {G : bz_G} {κ : bz_K} {y : bz_M} {d : Nat} {F : Option bz_V → bz_H → Prop} {bc bs pc : Nat} {ls : List (Option bz_V)} {st : List bz_V} {h : bz_H}
theorem bz_rw_ldq {a : Nat} {j : Int32} {P : Option Nat → Prop} (hd : decode y.2.1 pc = .ok (.aaload, 1)) (hP : bz_rQ h a j P) (k : ∀ x, P x → bz_J G κ y d F bc bs (pc + 1) ls (.inr x :: st) h) : bz_J G κ y d F bc bs (pc) ls (.inl j :: .inr (some a) :: st) h := by
  obtain ⟨t, n, f, h1, h2, h3, h4, h5⟩ := hP
  obtain ⟨q, e1, e2⟩ := bz_tysO G h3
  exact bz_aaload hd h1 h2 e2 h4 (k _ h5)
theorem bz_rw_stq {a : Nat} {j : Int32} {v : Option Nat} {P : bz_H → Prop} (hd : decode y.2.1 pc = .ok (.aastore, 1)) (hP : bz_wQ h a j v P) (k : ∀ h', P h' → bz_J G κ y d F bc bs (pc + 1) ls st h') : bz_J G κ y d F bc bs (pc) ls (.inr v :: .inl j :: .inr (some a) :: st) h := by
  obtain ⟨t, n, f, h1, h2, h3, h4, h5, h6⟩ := hP
  obtain ⟨q, e1, e2⟩ := bz_tysO G h3
  cases v with
  | none => exact bz_aastoreN hd h1 h2 e2 h4 (k _ h6)
  | some b =>
    obtain ⟨b1, fs, b2⟩ := h5 b rfl
    exact bz_aastore hd h1 h2 e2 b1 b2 e1 h4 (k _ h6)
theorem bz_rw_rI {ix ci k0 a : Nat} {P : Int32 → Prop} (hd : decode y.2.1 pc = .ok (.getfield ix, 3)) (hf : bz_FL y.1.cls ix ci k0) (hP : bz_rI h a ci k0 P) (k : ∀ x, P x → bz_J G κ y d F bc bs (pc + 3) ls (.inl x :: st) h) : bz_J G κ y d F bc bs (pc) ls (.inr (some a) :: st) h := by
  obtain ⟨fs, x, h1, h2, h3, h4⟩ := hP
  exact bz_get hd hf h1 h2 h3 (k x h4)
theorem bz_rw_rR {ix ci k0 a : Nat} {P : Option Nat → Prop} (hd : decode y.2.1 pc = .ok (.getfield ix, 3)) (hf : bz_FL y.1.cls ix ci k0) (hP : bz_rR h a ci k0 P) (k : ∀ x, P x → bz_J G κ y d F bc bs (pc + 3) ls (.inr x :: st) h) : bz_J G κ y d F bc bs (pc) ls (.inr (some a) :: st) h := by
  obtain ⟨fs, x, h1, h2, h3, h4⟩ := hP
  exact bz_get hd hf h1 h2 h3 (k x h4)
theorem bz_rw_rA {a : Nat} {j : Int32} {P : Int32 → Prop} (hd : decode y.2.1 pc = .ok (.iaload, 1)) (hP : bz_rA h a j P) (k : ∀ x, P x → bz_J G κ y d F bc bs (pc + 1) ls (.inl x :: st) h) : bz_J G κ y d F bc bs (pc) ls (.inl j :: .inr (some a) :: st) h := by
  obtain ⟨n, f, h1, h2, h3, h4⟩ := hP
  exact bz_iaload hd h1 h2 h3 (k _ h4)
theorem bz_rw_rN {a : Nat} {P : Int32 → Prop} (hd : decode y.2.1 pc = .ok (.arraylength, 1)) (hP : bz_rN h a P) (k : ∀ x, P x → bz_J G κ y d F bc bs (pc + 1) ls (.inl x :: st) h) : bz_J G κ y d F bc bs (pc) ls (.inr (some a) :: st) h := by
  obtain ⟨n, f, h1, h2, h4⟩ := hP
  exact bz_alen hd h1 h2 (k _ h4)
theorem bz_rw_wA {a : Nat} {j v : Int32} {P : bz_H → Prop} (hd : decode y.2.1 pc = .ok (.iastore, 1)) (hP : bz_wA h a j v P) (k : ∀ h', P h' → bz_J G κ y d F bc bs (pc + 1) ls st h') : bz_J G κ y d F bc bs (pc) ls (.inl v :: .inl j :: .inr (some a) :: st) h := by
  obtain ⟨n, f, h1, h2, h3, h4⟩ := hP
  exact bz_iastore hd h1 h2 h3 (k _ h4)
theorem bz_rw_wI {ix ci k0 a : Nat} {v : Int32} {P : bz_H → Prop} (hd : decode y.2.1 pc = .ok (.putfield ix, 3)) (hf : bz_FL y.1.cls ix ci k0) (hfin : ∀ q, vwCl[ci]? = some q → (q.2.1 k0).2.2.2 = false) (hty : bz_tyOf ci k0 = .int) (hP : bz_wI h a ci k0 v P) (k : ∀ h', P h' → bz_J G κ y d F bc bs (pc + 3) ls st h') : bz_J G κ y d F bc bs (pc) ls (.inl v :: .inr (some a) :: st) h := by
  obtain ⟨fs, h1, h2, h3, h4⟩ := hP
  exact bz_put hd hf h1 h2 h3 hfin (by rw [hty]; rfl) (by rw [hty]; rfl) (k _ h4)
theorem bz_rw_wZ {ix ci k0 a : Nat} {v : Int32} {P : bz_H → Prop} (hd : decode y.2.1 pc = .ok (.putfield ix, 3)) (hf : bz_FL y.1.cls ix ci k0) (hfin : ∀ q, vwCl[ci]? = some q → (q.2.1 k0).2.2.2 = false) (hty : bz_tyOf ci k0 = .boolean) (hP : bz_b v (bz_wI h a ci k0 v P)) (k : ∀ h', P h' → bz_J G κ y d F bc bs (pc + 3) ls st h') : bz_J G κ y d F bc bs (pc) ls (.inl v :: .inr (some a) :: st) h := by
  obtain ⟨h0, fs, h1, h2, h3, h4⟩ := hP
  exact bz_put hd hf h1 h2 h3 hfin (by rw [hty]; rcases h0 with rfl | rfl <;> rfl) (by rw [hty]; rcases h0 with rfl | rfl <;> rfl) (k _ h4)
theorem bz_rw_wR {ix ci k0 a : Nat} {v : Option Nat} {P : bz_H → Prop} (hd : decode y.2.1 pc = .ok (.putfield ix, 3)) (hf : bz_FL y.1.cls ix ci k0) (hfin : ∀ q, vwCl[ci]? = some q → (q.2.1 k0).2.2.2 = false) (hty : (∃ n, bz_tyOf ci k0 = .object n) ∨ ∃ t, bz_tyOf ci k0 = .array t) (hP : bz_wR h a ci k0 v P) (k : ∀ h', P h' → bz_J G κ y d F bc bs (pc + 3) ls st h') : bz_J G κ y d F bc bs (pc) ls (.inr v :: .inr (some a) :: st) h := by
  obtain ⟨fs, h1, h2, h3, h4⟩ := hP
  refine bz_put hd hf h1 h2 h3 hfin ?_ ?_ (k _ h4)
  · rcases hty with ⟨n, e⟩ | ⟨n, e⟩ <;> rw [e] <;> cases v <;> rfl
  · rcases hty with ⟨n, e⟩ | ⟨n, e⟩ <;> rw [e] <;> cases v <;> rfl
theorem bz_rw_wIF {ix ci k0 a : Nat} {v : Int32} {P : bz_H → Prop} (hd : decode y.2.1 pc = .ok (.putfield ix, 3)) (hf : bz_FL y.1.cls ix ci k0) (hfin : ∀ q, vwCl[ci]? = some q → (q.2.1 k0).2.2.2 = true ∧ (q.2.1 k0).1 = y.1.cls) (hin : y.1.name = "<init>") (hty : bz_tyOf ci k0 = .int) (hP : bz_wI h a ci k0 v P) (k : ∀ h', P h' → bz_J G κ y d F bc bs (pc + 3) ls st h') : bz_J G κ y d F bc bs (pc) ls (.inl v :: .inr (some a) :: st) h := by
  obtain ⟨fs, h1, h2, h3, h4⟩ := hP
  exact bz_putF hd hf h1 h2 h3 hfin hin (by rw [hty]; rfl) (by rw [hty]; rfl) (k _ h4)
theorem bz_rw_wZF {ix ci k0 a : Nat} {v : Int32} {P : bz_H → Prop} (hd : decode y.2.1 pc = .ok (.putfield ix, 3)) (hf : bz_FL y.1.cls ix ci k0) (hfin : ∀ q, vwCl[ci]? = some q → (q.2.1 k0).2.2.2 = true ∧ (q.2.1 k0).1 = y.1.cls) (hin : y.1.name = "<init>") (hty : bz_tyOf ci k0 = .boolean) (hP : bz_b v (bz_wI h a ci k0 v P)) (k : ∀ h', P h' → bz_J G κ y d F bc bs (pc + 3) ls st h') : bz_J G κ y d F bc bs (pc) ls (.inl v :: .inr (some a) :: st) h := by
  obtain ⟨h0, fs, h1, h2, h3, h4⟩ := hP
  exact bz_putF hd hf h1 h2 h3 hfin hin (by rw [hty]; rcases h0 with rfl | rfl <;> rfl) (by rw [hty]; rcases h0 with rfl | rfl <;> rfl) (k _ h4)
theorem bz_rw_wRF {ix ci k0 a : Nat} {v : Option Nat} {P : bz_H → Prop} (hd : decode y.2.1 pc = .ok (.putfield ix, 3)) (hf : bz_FL y.1.cls ix ci k0) (hfin : ∀ q, vwCl[ci]? = some q → (q.2.1 k0).2.2.2 = true ∧ (q.2.1 k0).1 = y.1.cls) (hin : y.1.name = "<init>") (hty : (∃ n, bz_tyOf ci k0 = .object n) ∨ ∃ t, bz_tyOf ci k0 = .array t) (hP : bz_wR h a ci k0 v P) (k : ∀ h', P h' → bz_J G κ y d F bc bs (pc + 3) ls st h') : bz_J G κ y d F bc bs (pc) ls (.inr v :: .inr (some a) :: st) h := by
  obtain ⟨fs, h1, h2, h3, h4⟩ := hP
  refine bz_putF hd hf h1 h2 h3 hfin hin ?_ ?_ (k _ h4)
  · rcases hty with ⟨n, e⟩ | ⟨n, e⟩ <;> rw [e] <;> cases v <;> rfl
  · rcases hty with ⟨n, e⟩ | ⟨n, e⟩ <;> rw [e] <;> cases v <;> rfl
theorem bz_rw_cp {a b ix : Nat} {sp dp n : Int32} {P : bz_H → Prop} (hd : decode y.2.1 pc = .ok (.invokestatic ix, 3)) (hw1 : Cond.methodLink y.1.cls ix arraycopyName ∈ bz_tbl) (hw2 : Cond.native arraycopyName ∈ bz_tbl) (hw3 : Cond.static arraycopyName ∈ bz_tbl) (hw4 : Cond.initialized "java/lang/System" ∈ bz_tbl) (hst : st.length ≤ 8) (hP : bz_cp h a sp b dp n P) (k : ∀ h', P h' → bz_J G κ y (d + 1) F bc bs (pc + 3) ls st h') : bz_J G κ y (d + 1) F bc bs (pc) ls (.inl n :: .inl dp :: .inr (some b) :: .inl sp :: .inr (some a) :: st) h := by
  obtain ⟨n0, n1, f, g, h1, h2, h3, h4, ⟨h5, h6, h7, h8, h9⟩, h10⟩ := hP
  exact bz_copyi hd hw1 hw2 hw3 hw4 h1 h2 h3 h4 h5 h6 h7 h8 h9 (Nat.succ_pos d) hst (k _ h10)
theorem bz_kIV {ix n mc ms : Nat} {yc : bz_M} {as : List bz_V} {P : Int32 → bz_H → Prop} {b ci : Nat} {q : vw_C} (hd : decode y.2.1 pc = .ok (.invokevirtual ix, 3)) (hsc : bz_SC yc n) (hw1 : Cond.methodLink y.1.cls ix yc.1 ∈ bz_tbl) (hw2 : Cond.instanceMethod yc.1 ∈ bz_tbl) (hw3 : Cond.selects yc.1.cls yc.1 yc.1 ∈ bz_tbl) (hc1 : vwCl[ci]? = some q) (hcq : q.1 = yc.1.cls) (hn : as.length = n) (hst : st.length ≤ 8) (hM : bz_rc h b ci (bz_cI G κ.2.1 d yc (.inr (some b) :: as) h mc ms P)) (k : ∀ (x : Int32) (h' : bz_H), P x h' → bz_J G κ y (d + 1) F bc bs (pc + 3) ls (.inl x :: st) h') : bz_J G κ y (d + 1) F (bc + mc) (bs + ms) (pc) ls (as.reverse ++ .inr (some b) :: st) h := by
  obtain ⟨fs, h1, h2, hM⟩ := hM
  exact bz_callV hd hsc hw1 hw2 hw3 hc1 hcq h1 h2 hn hst hM (fun v h' q => by rcases q with ⟨x, rfl, q⟩; exact k x h' q)
theorem bz_kIS {ix n mc ms : Nat} {yc : bz_M} {as : List bz_V} {P : Int32 → bz_H → Prop} (hd : decode y.2.1 pc = .ok (.invokestatic ix, 3)) (hsc : bz_SC yc n) (hw1 : Cond.methodLink y.1.cls ix yc.1 ∈ bz_tbl) (hw2 : Cond.static yc.1 ∈ bz_tbl) (hn : as.length = n) (hst : st.length ≤ 8) (hM : bz_cI G κ.2.1 d yc as h mc ms P) (k : ∀ (x : Int32) (h' : bz_H), P x h' → bz_J G κ y (d + 1) F bc bs (pc + 3) ls (.inl x :: st) h') : bz_J G κ y (d + 1) F (bc + mc) (bs + ms) (pc) ls (as.reverse ++ st) h := bz_callS hd hsc hw1 hw2 hn hst hM (fun v h' q => by rcases q with ⟨x, rfl, q⟩; exact k x h' q)
theorem bz_kISN {ix n mc ms : Nat} {host : String} {yc : bz_M} {as : List bz_V} {P : Int32 → bz_H → Prop} (hd : decode y.2.1 pc = .ok (.invokestatic ix, 3)) (hsc : bz_SC yc n) (hw1 : (y.1.cls, ix, yc.1, host) ∈ bz_nwM) (hw2 : Cond.static yc.1 ∈ bz_tbl) (hn : as.length = n) (hst : st.length ≤ 8) (hM : bz_cI G κ.2.1 d yc as h mc ms P) (k : ∀ (x : Int32) (h' : bz_H), P x h' → bz_J G κ y (d + 1) F bc bs (pc + 3) ls (.inl x :: st) h') : bz_J G κ y (d + 1) F (bc + mc) (bs + ms) (pc) ls (as.reverse ++ st) h := bz_callSN hd hsc hw1 hw2 hn hst hM (fun v h' q => by rcases q with ⟨x, rfl, q⟩; exact k x h' q)
theorem bz_kRV {ix n mc ms : Nat} {yc : bz_M} {as : List bz_V} {P : Option Nat → bz_H → Prop} {b ci : Nat} {q : vw_C} (hd : decode y.2.1 pc = .ok (.invokevirtual ix, 3)) (hsc : bz_SC yc n) (hw1 : Cond.methodLink y.1.cls ix yc.1 ∈ bz_tbl) (hw2 : Cond.instanceMethod yc.1 ∈ bz_tbl) (hw3 : Cond.selects yc.1.cls yc.1 yc.1 ∈ bz_tbl) (hc1 : vwCl[ci]? = some q) (hcq : q.1 = yc.1.cls) (hn : as.length = n) (hst : st.length ≤ 8) (hM : bz_rc h b ci (bz_cR G κ.2.1 d yc (.inr (some b) :: as) h mc ms P)) (k : ∀ (x : Option Nat) (h' : bz_H), P x h' → bz_J G κ y (d + 1) F bc bs (pc + 3) ls (.inr x :: st) h') : bz_J G κ y (d + 1) F (bc + mc) (bs + ms) (pc) ls (as.reverse ++ .inr (some b) :: st) h := by
  obtain ⟨fs, h1, h2, hM⟩ := hM
  exact bz_callV hd hsc hw1 hw2 hw3 hc1 hcq h1 h2 hn hst hM (fun v h' q => by rcases q with ⟨x, rfl, q⟩; exact k x h' q)
theorem bz_kRS {ix n mc ms : Nat} {yc : bz_M} {as : List bz_V} {P : Option Nat → bz_H → Prop} (hd : decode y.2.1 pc = .ok (.invokestatic ix, 3)) (hsc : bz_SC yc n) (hw1 : Cond.methodLink y.1.cls ix yc.1 ∈ bz_tbl) (hw2 : Cond.static yc.1 ∈ bz_tbl) (hn : as.length = n) (hst : st.length ≤ 8) (hM : bz_cR G κ.2.1 d yc as h mc ms P) (k : ∀ (x : Option Nat) (h' : bz_H), P x h' → bz_J G κ y (d + 1) F bc bs (pc + 3) ls (.inr x :: st) h') : bz_J G κ y (d + 1) F (bc + mc) (bs + ms) (pc) ls (as.reverse ++ st) h := bz_callS hd hsc hw1 hw2 hn hst hM (fun v h' q => by rcases q with ⟨x, rfl, q⟩; exact k x h' q)
theorem bz_kRSN {ix n mc ms : Nat} {host : String} {yc : bz_M} {as : List bz_V} {P : Option Nat → bz_H → Prop} (hd : decode y.2.1 pc = .ok (.invokestatic ix, 3)) (hsc : bz_SC yc n) (hw1 : (y.1.cls, ix, yc.1, host) ∈ bz_nwM) (hw2 : Cond.static yc.1 ∈ bz_tbl) (hn : as.length = n) (hst : st.length ≤ 8) (hM : bz_cR G κ.2.1 d yc as h mc ms P) (k : ∀ (x : Option Nat) (h' : bz_H), P x h' → bz_J G κ y (d + 1) F bc bs (pc + 3) ls (.inr x :: st) h') : bz_J G κ y (d + 1) F (bc + mc) (bs + ms) (pc) ls (as.reverse ++ st) h := bz_callSN hd hsc hw1 hw2 hn hst hM (fun v h' q => by rcases q with ⟨x, rfl, q⟩; exact k x h' q)
theorem bz_kVV {ix n mc ms : Nat} {yc : bz_M} {as : List bz_V} {P : bz_H → Prop} {b ci : Nat} {q : vw_C} (hd : decode y.2.1 pc = .ok (.invokevirtual ix, 3)) (hsc : bz_SC yc n) (hw1 : Cond.methodLink y.1.cls ix yc.1 ∈ bz_tbl) (hw2 : Cond.instanceMethod yc.1 ∈ bz_tbl) (hw3 : Cond.selects yc.1.cls yc.1 yc.1 ∈ bz_tbl) (hc1 : vwCl[ci]? = some q) (hcq : q.1 = yc.1.cls) (hn : as.length = n) (hst : st.length ≤ 8) (hM : bz_rc h b ci (bz_cV G κ.2.1 d yc (.inr (some b) :: as) h mc ms P)) (k : ∀ (h' : bz_H), P h' → bz_J G κ y (d + 1) F bc bs (pc + 3) ls st h') : bz_J G κ y (d + 1) F (bc + mc) (bs + ms) (pc) ls (as.reverse ++ .inr (some b) :: st) h := by
  obtain ⟨fs, h1, h2, hM⟩ := hM
  exact bz_callV hd hsc hw1 hw2 hw3 hc1 hcq h1 h2 hn hst hM (fun v h' q => by rcases q with ⟨rfl, q⟩; exact k h' q)
theorem bz_kVS {ix n mc ms : Nat} {yc : bz_M} {as : List bz_V} {P : bz_H → Prop} (hd : decode y.2.1 pc = .ok (.invokestatic ix, 3)) (hsc : bz_SC yc n) (hw1 : Cond.methodLink y.1.cls ix yc.1 ∈ bz_tbl) (hw2 : Cond.static yc.1 ∈ bz_tbl) (hn : as.length = n) (hst : st.length ≤ 8) (hM : bz_cV G κ.2.1 d yc as h mc ms P) (k : ∀ (h' : bz_H), P h' → bz_J G κ y (d + 1) F bc bs (pc + 3) ls st h') : bz_J G κ y (d + 1) F (bc + mc) (bs + ms) (pc) ls (as.reverse ++ st) h := bz_callS hd hsc hw1 hw2 hn hst hM (fun v h' q => by rcases q with ⟨rfl, q⟩; exact k h' q)
theorem bz_kVI {ix n mc ms : Nat} {yc : bz_M} {as : List bz_V} {P : bz_H → Prop} {b : Nat} (hd : decode y.2.1 pc = .ok (.invokespecial ix, 3)) (hsc : bz_SC yc n) (hret : yc.2.2.2 = none) (hw1 : Cond.methodLink y.1.cls ix yc.1 ∈ bz_tbl) (hw2 : Cond.instanceMethod yc.1 ∈ bz_tbl) (hnm : yc.1.name = "<init>") (hn : as.length = n) (hst : st.length ≤ 8) (hM : bz_cV G κ.2.1 d yc (.inr (some b) :: as) h mc ms P) (k : ∀ (h' : bz_H), P h' → bz_J G κ y (d + 1) F bc bs (pc + 3) ls st h') : bz_J G κ y (d + 1) F (bc + mc) (bs + ms) (pc) ls (as.reverse ++ .inr (some b) :: st) h := bz_callI hd hsc hret hw1 hw2 hnm hn hst hM (fun v h' q => by rcases q with ⟨rfl, q⟩; exact k h' q)
theorem bz_kVSN {ix n mc ms : Nat} {host : String} {yc : bz_M} {as : List bz_V} {P : bz_H → Prop} (hd : decode y.2.1 pc = .ok (.invokestatic ix, 3)) (hsc : bz_SC yc n) (hw1 : (y.1.cls, ix, yc.1, host) ∈ bz_nwM) (hw2 : Cond.static yc.1 ∈ bz_tbl) (hn : as.length = n) (hst : st.length ≤ 8) (hM : bz_cV G κ.2.1 d yc as h mc ms P) (k : ∀ (h' : bz_H), P h' → bz_J G κ y (d + 1) F bc bs (pc + 3) ls st h') : bz_J G κ y (d + 1) F (bc + mc) (bs + ms) (pc) ls (as.reverse ++ st) h := bz_callSN hd hsc hw1 hw2 hn hst hM (fun v h' q => by rcases q with ⟨rfl, q⟩; exact k h' q)
theorem bz_kVIN {ix n mc ms : Nat} {host : String} {yc : bz_M} {as : List bz_V} {P : bz_H → Prop} {b : Nat} (hd : decode y.2.1 pc = .ok (.invokespecial ix, 3)) (hsc : bz_SC yc n) (hret : yc.2.2.2 = none) (hw1 : (y.1.cls, ix, yc.1, host) ∈ bz_nwM) (hw2 : Cond.instanceMethod yc.1 ∈ bz_tbl) (hnm : yc.1.name = "<init>") (hn : as.length = n) (hst : st.length ≤ 8) (hM : bz_cV G κ.2.1 d yc (.inr (some b) :: as) h mc ms P) (k : ∀ (h' : bz_H), P h' → bz_J G κ y (d + 1) F bc bs (pc + 3) ls st h') : bz_J G κ y (d + 1) F (bc + mc) (bs + ms) (pc) ls (as.reverse ++ .inr (some b) :: st) h := bz_callIN hd hsc hret hw1 hw2 hnm hn hst hM (fun v h' q => by rcases q with ⟨rfl, q⟩; exact k h' q)
theorem bz_s_istore_n {n : Fin 4} {i : Nat} {x : Int32} (hd : decode y.2.1 pc = .ok (.istore_n n, 1)) (hi : (n : Nat) = i) (hn : i < y.2.2.1) (ls' : List (Option bz_V)) (e : ls.set i (some (.inl x)) = ls') (k : bz_J G κ y d F bc bs (pc + 1) ls' st h) : bz_J G κ y d F bc bs (pc) ls (.inl x :: st) h := bz_istore_n hd hi hn (by rw [e]; exact k)
theorem bz_s_istore {i : Nat} {x : Int32} (hd : decode y.2.1 pc = .ok (.istore i, 2)) (hn : i < y.2.2.1) (ls' : List (Option bz_V)) (e : ls.set i (some (.inl x)) = ls') (k : bz_J G κ y d F bc bs (pc + 2) ls' st h) : bz_J G κ y d F bc bs (pc) ls (.inl x :: st) h := bz_istore hd hn (by rw [e]; exact k)
theorem bz_s_astore_n {n : Fin 4} {i : Nat} {x : Option Nat} (hd : decode y.2.1 pc = .ok (.astore_n n, 1)) (hi : (n : Nat) = i) (hn : i < y.2.2.1) (ls' : List (Option bz_V)) (e : ls.set i (some (.inr x)) = ls') (k : bz_J G κ y d F bc bs (pc + 1) ls' st h) : bz_J G κ y d F bc bs (pc) ls (.inr x :: st) h := bz_astore_n hd hi hn (by rw [e]; exact k)
theorem bz_s_astore {i : Nat} {x : Option Nat} (hd : decode y.2.1 pc = .ok (.astore i, 2)) (hn : i < y.2.2.1) (ls' : List (Option bz_V)) (e : ls.set i (some (.inr x)) = ls') (k : bz_J G κ y d F bc bs (pc + 2) ls' st h) : bz_J G κ y d F bc bs (pc) ls (.inr x :: st) h := bz_astore hd hn (by rw [e]; exact k)
theorem bz_s_iinc {i : Nat} {n : Int} {x v : Int32} (hd : decode y.2.1 pc = .ok (.iinc i n, 3)) (hn : i < y.2.2.1) (hl : ls[i]? = some (some (.inl x))) (hv : x + Int32.ofInt n = v) (ls' : List (Option bz_V)) (e : ls.set i (some (.inl v)) = ls') (k : bz_J G κ y d F bc bs (pc + 3) ls' st h) : bz_J G κ y d F bc bs (pc) ls st h := bz_iinc hd hn hl hv (by rw [e]; exact k)
end BZW
