/-! THE CLAIM OUT OF ONE WALK OF THE LAW'S BODY. Your part is whole_start (and what it stands on); all else here is the same for every law, but numbers. -/
def R_law : String := "BagRidersLaw"
def lw_P (b : Addr) (xs : List Int32) (args : Array Value) (s : State) : Prop := args = #[.ref b] ∧ s.IntsAt b xs ∧ xs.length ≤ 384 ∧ (Jvm.Cond.and given_1 narrow_1).before args s = true
def lw_Q (_ : Array Value) (s : State) (o : Outcome) (t : State) : Prop := o = .returned (some (.int 1)) ∧ Framed s o t [] 600000 7302250
def lw_Z (below : List Frame) (a : Array Value) (s : State) : State → Prop := fun t => ∃ o, t.status = .running ∧ Ended t below o ∧ lw_Q a s o t
/-- the law's own end, with 1 on the stack, nothing written that was there before, its room as the claim has it -/
theorem lw_ret {p : Program} {l : Launch} {e : Env} {s : State} {m : MethodId} {below : List Frame} {meth : Method} {c : Code} {b : Nat} (hx : p.tables.exec = Jvm.exec) (hb : c.code = code) (hr : meth.sig.returnType = ret) (hlocks : meth.locks = false) {pc : Nat} {H : Heap} {ls : Array Slot} (hdg : decode code pc = .ok (.ireturn, 1)) : W p l e room_1 s m #[Value.ref b] below meth c H [] 600000 7302250 (lw_Z below #[Value.ref b] s) (F0 m pc ls [.int 1]) := by
  intro T hT X
  obtain ⟨fs, hret, hrun, hended, hW, hframe⟩ := X.leave (v := some (.int 1)) (hlocks := hlocks) (fun h => by rw [hr] at h; cases h)
  have hmeth' : T.vm.method? m = some meth := X.method'
  refine ⟨T.setFrames fs, ?_, .returned (some (.int 1)), hrun, hended, rfl, ⟨_, rfl⟩, hW, hframe⟩
  jvm_step X.here [X.here.top, hx, hb, hdg, hmeth', hr, ret, narrow_b1]
  (try refine ⟨rfl, ?_⟩); (try refine ⟨rfl, ?_⟩)
  first | (intro acts; rw [hret _ acts rfl rfl rfl]) | rw [hret _ _ rfl rfl rfl]
  exact Steps.refl _
/-- what holds at the law's entry: the machine, the code, the tables' words (any of lw_tbl by 'hts w (by decide +kernel)'), the script of L ints xs at the cell b, what the Statement gives of the start (any of its parts by flat_of_before) -/
def lw_At (p : Program) (s : State) (m : MethodId) (meth : Method) (c : Code) (b L : Nat) (xs : Nat → Int32) : Prop :=
  p.tables.exec = Jvm.exec ∧ c.code = code ∧ meth.sig.returnType = ret ∧ c.maxLocals = 4 ∧ s.vm.findClass R_law = some m.cls ∧ (∀ w ∈ lw_tbl, w.before #[Value.ref b] s = true) ∧ va_X b L xs s s.heap ∧ b < s.heap.size ∧ meth.locks = false ∧ (Jvm.Cond.and given_1 narrow_1).before #[Value.ref b] s = true
theorem lx_6 : ∀ L, L < 385 → (Int32.ofNat L - 6).toInt = (L : Int) - 6 := by decide +kernel
set_option maxRecDepth 20000 in
set_option maxHeartbeats 4000000 in
/-- the law's loop -/
theorem law_loop {Inv : bz_S → Prop} (hall : bz_all Inv) {G : bz_G} {κ : bz_K} {d : Nat} {E : Nat × (Nat → Int32)} (hE : E.1 ≤ 384) : ∀ (n i : Nat) (S : bz_S), 65 ≤ i + n → 6 * i ≤ E.1 → Inv S → bz_J G κ kL_law (d + 61) (fun v _ => v = some (.inl 1)) (2 * n) (81 * n) 18 [some (.inr (some 2)), some (.inr (some 5)), some (.inr (some 186)), some (.inl (nI (6 * i)))] [] (bz_hp E S) := by
  obtain ⟨q0, q1, q2, q3, q4, q5, q6, q7, q8, q9, q10, q11, q12, q13, q14, q15, q16, q17, q18, q19, q20, q21, q22, q23, q24, q25, q26, q27, q28, q29, q30, q31, q32, q33, q34, q35, q36, q37, q38, q39, q40, q41, q42, q43, q44, q45, q46⟩ := hall
  intro n
  induction n with
  | zero => intro i S h1 h2; exact absurd h2 (by omega)
  | succ n ih =>
    intro i S h1 h2 hI
    refine g_L_law_18 (κ := κ) (bc := 2 * n) (bs := 81 * n) rfl _ _ _ _ _ ?_
    unfold w_L_law_18
    refine ap_nn (ap_rN2 ⟨fun _ => rfl, fun c0 => ?_⟩)
    have hi : 6 * i + 6 ≤ E.1 := by
      have e1 := lx_6 E.1 (by omega)
      have e2 : (nI (6 * i)).toInt = ((6 * i : Nat) : Int) := nI_toInt (by omega)
      have e3 : ¬ (Int32.ofNat E.1 - 6).toInt < (nI (6 * i)).toInt := fun q => c0 (Int32.lt_iff_toInt_lt.mpr q)
      rw [e1, e2] at e3
      push_cast at e3
      omega
    have hb : ∀ k, k < 6 → vp_in (nI (6 * i + k)) E.1 := fun k hk => vp_in_nI (by omega) (by omega)
    have b0 := hb 0 (by decide)
    have b1 : vp_in (nI (6 * i) + 1) E.1 := by have := hb 1 (by decide); rwa [nI_succ] at this
    have b2 : vp_in (nI (6 * i) + 2) E.1 := by have := hb 2 (by decide); rwa [← nI_add] at this
    have b3 : vp_in (nI (6 * i) + 3) E.1 := by have := hb 3 (by decide); rwa [← nI_add] at this
    have b4 : vp_in (nI (6 * i) + 4) E.1 := by have := hb 4 (by decide); rwa [← nI_add] at this
    have b5 : vp_in (nI (6 * i) + 5) E.1 := by have := hb 5 (by decide); rwa [← nI_add] at this
    refine ap_rA2 b0 ?_
    have ih' : ∀ S', Inv S' → bz_J G κ kL_law (d + 61) (fun v _ => v = some (.inl 1)) (2 * n) (81 * n) 18 [some (.inr (some 2)), some (.inr (some 5)), some (.inr (some 186)), some (.inl (nI (6 * i) + 6))] [] (bz_hp E S') := by
      intro S' hI'
      have := ih (i + 1) S' (by omega) (by omega) hI'
      rw [show 6 * (i + 1) = 6 * i + 6 by omega, ← nI_add] at this
      exact this
    refine ⟨fun _ => ?_, fun _ => ?_⟩
    · refine ap_rA2 b1 ?_
      refine ap_rA2 b2 ?_
      refine ap_rA2 b3 ?_
      refine ap_nn (ap_rc rfl ?_)
      refine (q0 G κ.2.1 E d S [E.2 (nI (6 * i) + 1).toNatClampNeg, E.2 (nI (6 * i) + 2).toNatClampNeg, E.2 (nI (6 * i) + 3).toNatClampNeg] rfl hI).mono (fun x h hq => ?_)
      obtain ⟨S1, rfl, hM⟩ := hq
      refine ap_rA2 b1 ?_
      refine ap_rA2 b2 ?_
      refine ap_rA2 b3 ?_
      refine ap_nn (ap_rc rfl ?_)
      refine hM.mono (fun y h' hq => ?_)
      obtain ⟨rfl, S2, rfl, hI2⟩ := hq
      exact ⟨fun _ => ih' S2 hI2, fun c => absurd rfl c⟩
    refine ⟨fun _ => ?_, fun _ => ?_⟩
    · refine ap_rA2 b1 ?_
      refine ap_rA2 b2 ?_
      refine ap_rA2 b3 ?_
      refine ap_nn (ap_rc rfl ?_)
      refine (q1 G κ.2.1 E d S [E.2 (nI (6 * i) + 1).toNatClampNeg, E.2 (nI (6 * i) + 2).toNatClampNeg, E.2 (nI (6 * i) + 3).toNatClampNeg] rfl hI).mono (fun x h hq => ?_)
      obtain ⟨S1, rfl, hM⟩ := hq
      refine ap_rA2 b1 ?_
      refine ap_rA2 b2 ?_
      refine ap_rA2 b3 ?_
      refine ap_nn (ap_rc rfl ?_)
      refine hM.mono (fun y h' hq => ?_)
      obtain ⟨rfl, S2, rfl, hI2⟩ := hq
      exact ⟨fun _ => ih' S2 hI2, fun c => absurd rfl c⟩
    refine ⟨fun _ => ?_, fun _ => ?_⟩
    · refine ap_rA2 b1 ?_
      refine ap_rA2 b2 ?_
      refine ap_nn (ap_rc rfl ?_)
      refine (q2 G κ.2.1 E d S [E.2 (nI (6 * i) + 1).toNatClampNeg, E.2 (nI (6 * i) + 2).toNatClampNeg] rfl hI).mono (fun x h hq => ?_)
      obtain ⟨S1, rfl, hM⟩ := hq
      refine ap_rA2 b1 ?_
      refine ap_rA2 b2 ?_
      refine ap_nn (ap_rc rfl ?_)
      refine hM.mono (fun y h' hq => ?_)
      obtain ⟨rfl, S2, rfl, hI2⟩ := hq
      exact ⟨fun _ => ih' S2 hI2, fun c => absurd rfl c⟩
    refine ⟨fun _ => ?_, fun _ => ?_⟩
    · refine ap_rA2 b1 ?_
      refine ap_nn (ap_rc rfl ?_)
      refine (q3 G κ.2.1 E d S [E.2 (nI (6 * i) + 1).toNatClampNeg] rfl hI).mono (fun x h hq => ?_)
      obtain ⟨S1, rfl, hM⟩ := hq
      refine ap_rA2 b1 ?_
      refine ap_nn (ap_rc rfl ?_)
      refine hM.mono (fun y h' hq => ?_)
      obtain ⟨rfl, S2, rfl, hI2⟩ := hq
      exact ⟨fun _ => ih' S2 hI2, fun c => absurd rfl c⟩
    refine ⟨fun _ => ?_, fun _ => ?_⟩
    · refine ap_rA2 b1 ?_
      refine ap_rA2 b2 ?_
      refine ap_nn (ap_rc rfl ?_)
      refine (q4 G κ.2.1 E d S [E.2 (nI (6 * i) + 1).toNatClampNeg, E.2 (nI (6 * i) + 2).toNatClampNeg] rfl hI).mono (fun x h hq => ?_)
      obtain ⟨S1, rfl, hM⟩ := hq
      refine ap_rA2 b1 ?_
      refine ap_rA2 b2 ?_
      refine ap_nn (ap_rc rfl ?_)
      refine hM.mono (fun y h' hq => ?_)
      obtain ⟨rfl, S2, rfl, hI2⟩ := hq
      exact ⟨fun _ => ih' S2 hI2, fun c => absurd rfl c⟩
    refine ⟨fun _ => ?_, fun _ => ?_⟩
    · refine ap_rA2 b1 ?_
      refine ap_rA2 b2 ?_
      refine ap_rA2 b3 ?_
      refine ap_rA2 b4 ?_
      refine ap_nn (ap_rc rfl ?_)
      refine (q5 G κ.2.1 E d S [E.2 (nI (6 * i) + 1).toNatClampNeg, E.2 (nI (6 * i) + 2).toNatClampNeg, E.2 (nI (6 * i) + 3).toNatClampNeg, E.2 (nI (6 * i) + 4).toNatClampNeg] rfl hI).mono (fun x h hq => ?_)
      obtain ⟨S1, rfl, hM⟩ := hq
      refine ap_rA2 b1 ?_
      refine ap_rA2 b2 ?_
      refine ap_rA2 b3 ?_
      refine ap_rA2 b4 ?_
      refine ap_nn (ap_rc rfl ?_)
      refine hM.mono (fun y h' hq => ?_)
      obtain ⟨rfl, S2, rfl, hI2⟩ := hq
      exact ⟨fun _ => ih' S2 hI2, fun c => absurd rfl c⟩
    refine ⟨fun _ => ?_, fun _ => ?_⟩
    · refine ap_rA2 b1 ?_
      refine ap_rA2 b2 ?_
      refine ap_nn (ap_rc rfl ?_)
      refine (q6 G κ.2.1 E d S [E.2 (nI (6 * i) + 1).toNatClampNeg, E.2 (nI (6 * i) + 2).toNatClampNeg] rfl hI).mono (fun x h hq => ?_)
      obtain ⟨S1, rfl, hM⟩ := hq
      refine ap_rA2 b1 ?_
      refine ap_rA2 b2 ?_
      refine ap_nn (ap_rc rfl ?_)
      refine hM.mono (fun y h' hq => ?_)
      obtain ⟨rfl, S2, rfl, hI2⟩ := hq
      exact ⟨fun _ => ih' S2 hI2, fun c => absurd rfl c⟩
    refine ⟨fun _ => ?_, fun _ => ?_⟩
    · refine ap_rA2 b1 ?_
      refine ap_nn (ap_rc rfl ?_)
      refine (q7 G κ.2.1 E d S [E.2 (nI (6 * i) + 1).toNatClampNeg] rfl hI).mono (fun x h hq => ?_)
      obtain ⟨S1, rfl, hM⟩ := hq
      refine ap_rA2 b1 ?_
      refine ap_nn (ap_rc rfl ?_)
      refine hM.mono (fun y h' hq => ?_)
      obtain ⟨rfl, S2, rfl, hI2⟩ := hq
      exact ⟨fun _ => ih' S2 hI2, fun c => absurd rfl c⟩
    refine ⟨fun _ => ?_, fun _ => ?_⟩
    · refine ap_rA2 b1 ?_
      refine ap_rA2 b2 ?_
      refine ap_nn (ap_rc rfl ?_)
      refine (q8 G κ.2.1 E d S [E.2 (nI (6 * i) + 1).toNatClampNeg, E.2 (nI (6 * i) + 2).toNatClampNeg] rfl hI).mono (fun x h hq => ?_)
      obtain ⟨S1, rfl, hM⟩ := hq
      refine ap_rA2 b1 ?_
      refine ap_rA2 b2 ?_
      refine ap_nn (ap_rc rfl ?_)
      refine hM.mono (fun y h' hq => ?_)
      obtain ⟨rfl, S2, rfl, hI2⟩ := hq
      exact ⟨fun _ => ih' S2 hI2, fun c => absurd rfl c⟩
    refine ⟨fun _ => ?_, fun _ => ?_⟩
    · refine ap_rA2 b1 ?_
      refine ap_rA2 b2 ?_
      refine ap_nn (ap_rc rfl ?_)
      refine (q9 G κ.2.1 E d S [E.2 (nI (6 * i) + 1).toNatClampNeg, E.2 (nI (6 * i) + 2).toNatClampNeg] rfl hI).mono (fun x h hq => ?_)
      obtain ⟨S1, rfl, hM⟩ := hq
      refine ap_rA2 b1 ?_
      refine ap_rA2 b2 ?_
      refine ap_nn (ap_rc rfl ?_)
      refine hM.mono (fun y h' hq => ?_)
      obtain ⟨rfl, S2, rfl, hI2⟩ := hq
      exact ⟨fun _ => ih' S2 hI2, fun c => absurd rfl c⟩
    refine ⟨fun _ => ?_, fun _ => ?_⟩
    · refine ap_rA2 b1 ?_
      refine ap_rA2 b2 ?_
      refine ap_rA2 b3 ?_
      refine ap_nn (ap_rc rfl ?_)
      refine (q10 G κ.2.1 E d S [E.2 (nI (6 * i) + 1).toNatClampNeg, E.2 (nI (6 * i) + 2).toNatClampNeg, E.2 (nI (6 * i) + 3).toNatClampNeg] rfl hI).mono (fun x h hq => ?_)
      obtain ⟨S1, rfl, hM⟩ := hq
      refine ap_rA2 b1 ?_
      refine ap_rA2 b2 ?_
      refine ap_rA2 b3 ?_
      refine ap_nn (ap_rc rfl ?_)
      refine hM.mono (fun y h' hq => ?_)
      obtain ⟨rfl, S2, rfl, hI2⟩ := hq
      exact ⟨fun _ => ih' S2 hI2, fun c => absurd rfl c⟩
    refine ⟨fun _ => ?_, fun _ => ?_⟩
    · refine ap_rA2 b1 ?_
      refine ap_rA2 b2 ?_
      refine ap_rA2 b3 ?_
      refine ap_nn (ap_rc rfl ?_)
      refine (q11 G κ.2.1 E d S [E.2 (nI (6 * i) + 1).toNatClampNeg, E.2 (nI (6 * i) + 2).toNatClampNeg, E.2 (nI (6 * i) + 3).toNatClampNeg] rfl hI).mono (fun x h hq => ?_)
      obtain ⟨S1, rfl, hM⟩ := hq
      refine ap_rA2 b1 ?_
      refine ap_rA2 b2 ?_
      refine ap_rA2 b3 ?_
      refine ap_nn (ap_rc rfl ?_)
      refine hM.mono (fun y h' hq => ?_)
      obtain ⟨rfl, S2, rfl, hI2⟩ := hq
      exact ⟨fun _ => ih' S2 hI2, fun c => absurd rfl c⟩
    refine ⟨fun _ => ?_, fun _ => ?_⟩
    · refine ap_rA2 b1 ?_
      refine ap_rA2 b2 ?_
      refine ap_rA2 b3 ?_
      refine ap_rA2 b4 ?_
      refine ap_nn (ap_rc rfl ?_)
      refine (q12 G κ.2.1 E d S [E.2 (nI (6 * i) + 1).toNatClampNeg, E.2 (nI (6 * i) + 2).toNatClampNeg, E.2 (nI (6 * i) + 3).toNatClampNeg, E.2 (nI (6 * i) + 4).toNatClampNeg] rfl hI).mono (fun x h hq => ?_)
      obtain ⟨S1, rfl, hM⟩ := hq
      refine ap_rA2 b1 ?_
      refine ap_rA2 b2 ?_
      refine ap_rA2 b3 ?_
      refine ap_rA2 b4 ?_
      refine ap_nn (ap_rc rfl ?_)
      refine hM.mono (fun y h' hq => ?_)
      obtain ⟨rfl, S2, rfl, hI2⟩ := hq
      exact ⟨fun _ => ih' S2 hI2, fun c => absurd rfl c⟩
    refine ⟨fun _ => ?_, fun _ => ?_⟩
    · refine ap_rA2 b1 ?_
      refine ap_rA2 b2 ?_
      refine ap_nn (ap_rc rfl ?_)
      refine (q13 G κ.2.1 E d S [E.2 (nI (6 * i) + 1).toNatClampNeg, E.2 (nI (6 * i) + 2).toNatClampNeg] rfl hI).mono (fun x h hq => ?_)
      obtain ⟨S1, rfl, hM⟩ := hq
      refine ap_rA2 b1 ?_
      refine ap_rA2 b2 ?_
      refine ap_nn (ap_rc rfl ?_)
      refine hM.mono (fun y h' hq => ?_)
      obtain ⟨rfl, S2, rfl, hI2⟩ := hq
      exact ⟨fun _ => ih' S2 hI2, fun c => absurd rfl c⟩
    refine ⟨fun _ => ?_, fun _ => ?_⟩
    · refine ap_rA2 b1 ?_
      refine ap_rA2 b2 ?_
      refine ap_rA2 b3 ?_
      refine ap_nn (ap_rc rfl ?_)
      refine (q14 G κ.2.1 E d S [E.2 (nI (6 * i) + 1).toNatClampNeg, E.2 (nI (6 * i) + 2).toNatClampNeg, E.2 (nI (6 * i) + 3).toNatClampNeg] rfl hI).mono (fun x h hq => ?_)
      obtain ⟨S1, rfl, hM⟩ := hq
      refine ap_rA2 b1 ?_
      refine ap_rA2 b2 ?_
      refine ap_rA2 b3 ?_
      refine ap_nn (ap_rc rfl ?_)
      refine hM.mono (fun y h' hq => ?_)
      obtain ⟨rfl, S2, rfl, hI2⟩ := hq
      exact ⟨fun _ => ih' S2 hI2, fun c => absurd rfl c⟩
    refine ⟨fun _ => ?_, fun _ => ?_⟩
    · refine ap_rA2 b1 ?_
      refine ap_rA2 b2 ?_
      refine ap_nn (ap_rc rfl ?_)
      refine (q15 G κ.2.1 E d S [E.2 (nI (6 * i) + 1).toNatClampNeg, E.2 (nI (6 * i) + 2).toNatClampNeg] rfl hI).mono (fun x h hq => ?_)
      obtain ⟨S1, rfl, hM⟩ := hq
      refine ap_rA2 b1 ?_
      refine ap_rA2 b2 ?_
      refine ap_nn (ap_rc rfl ?_)
      refine hM.mono (fun y h' hq => ?_)
      obtain ⟨rfl, S2, rfl, hI2⟩ := hq
      exact ⟨fun _ => ih' S2 hI2, fun c => absurd rfl c⟩
    refine ⟨fun _ => ?_, fun _ => ?_⟩
    · refine ap_nn (ap_rc rfl ?_)
      refine (q16 G κ.2.1 E d S [] rfl hI).mono (fun x h hq => ?_)
      obtain ⟨S1, rfl, hM⟩ := hq
      refine ap_nn (ap_rc rfl ?_)
      refine hM.mono (fun y h' hq => ?_)
      obtain ⟨rfl, S2, rfl, hI2⟩ := hq
      exact ⟨fun _ => ih' S2 hI2, fun c => absurd rfl c⟩
    refine ⟨fun _ => ?_, fun _ => ?_⟩
    · refine ap_nn (ap_rc rfl ?_)
      refine (q17 G κ.2.1 E d S [] rfl hI).mono (fun x h hq => ?_)
      obtain ⟨S1, rfl, hM⟩ := hq
      refine ap_nn (ap_rc rfl ?_)
      refine hM.mono (fun y h' hq => ?_)
      obtain ⟨rfl, S2, rfl, hI2⟩ := hq
      exact ⟨fun _ => ih' S2 hI2, fun c => absurd rfl c⟩
    refine ⟨fun _ => ?_, fun _ => ?_⟩
    · refine ap_rA2 b1 ?_
      refine ap_rA2 b2 ?_
      refine ap_nn (ap_rc rfl ?_)
      refine (q18 G κ.2.1 E d S [E.2 (nI (6 * i) + 1).toNatClampNeg, E.2 (nI (6 * i) + 2).toNatClampNeg] rfl hI).mono (fun x h hq => ?_)
      obtain ⟨S1, rfl, hM⟩ := hq
      refine ap_rA2 b1 ?_
      refine ap_rA2 b2 ?_
      refine ap_nn (ap_rc rfl ?_)
      refine hM.mono (fun y h' hq => ?_)
      obtain ⟨rfl, S2, rfl, hI2⟩ := hq
      exact ⟨fun _ => ih' S2 hI2, fun c => absurd rfl c⟩
    refine ⟨fun _ => ?_, fun _ => ?_⟩
    · refine ap_rA2 b1 ?_
      refine ap_rA2 b2 ?_
      refine ap_rA2 b3 ?_
      refine ap_nn (ap_rc rfl ?_)
      refine (q19 G κ.2.1 E d S [E.2 (nI (6 * i) + 1).toNatClampNeg, E.2 (nI (6 * i) + 2).toNatClampNeg, E.2 (nI (6 * i) + 3).toNatClampNeg] rfl hI).mono (fun x h hq => ?_)
      obtain ⟨S1, rfl, hM⟩ := hq
      refine ap_rA2 b1 ?_
      refine ap_rA2 b2 ?_
      refine ap_rA2 b3 ?_
      refine ap_nn (ap_rc rfl ?_)
      refine hM.mono (fun y h' hq => ?_)
      obtain ⟨rfl, S2, rfl, hI2⟩ := hq
      exact ⟨fun _ => ih' S2 hI2, fun c => absurd rfl c⟩
    refine ⟨fun _ => ?_, fun _ => ?_⟩
    · refine ap_rA2 b1 ?_
      refine ap_nn (ap_rc rfl ?_)
      refine (q20 G κ.2.1 E d S [E.2 (nI (6 * i) + 1).toNatClampNeg] rfl hI).mono (fun x h hq => ?_)
      obtain ⟨S1, rfl, hM⟩ := hq
      refine ap_rA2 b1 ?_
      refine ap_nn (ap_rc rfl ?_)
      refine hM.mono (fun y h' hq => ?_)
      obtain ⟨rfl, S2, rfl, hI2⟩ := hq
      exact ⟨fun _ => ih' S2 hI2, fun c => absurd rfl c⟩
    refine ⟨fun _ => ?_, fun _ => ?_⟩
    · refine ap_rA2 b1 ?_
      refine ap_rA2 b2 ?_
      refine ap_nn (ap_rc rfl ?_)
      refine (q21 G κ.2.1 E d S [E.2 (nI (6 * i) + 1).toNatClampNeg, E.2 (nI (6 * i) + 2).toNatClampNeg] rfl hI).mono (fun x h hq => ?_)
      obtain ⟨S1, rfl, hM⟩ := hq
      refine ap_rA2 b1 ?_
      refine ap_rA2 b2 ?_
      refine ap_nn (ap_rc rfl ?_)
      refine hM.mono (fun y h' hq => ?_)
      obtain ⟨rfl, S2, rfl, hI2⟩ := hq
      exact ⟨fun _ => ih' S2 hI2, fun c => absurd rfl c⟩
    refine ⟨fun _ => ?_, fun _ => ?_⟩
    · refine ap_nn (ap_rc rfl ?_)
      refine (q22 G κ.2.1 E d S [] rfl hI).mono (fun x h hq => ?_)
      obtain ⟨S1, rfl, hM⟩ := hq
      refine ap_nn (ap_rc rfl ?_)
      refine hM.mono (fun y h' hq => ?_)
      obtain ⟨rfl, S2, rfl, hI2⟩ := hq
      exact ⟨fun _ => ih' S2 hI2, fun c => absurd rfl c⟩
    refine ⟨fun _ => ?_, fun _ => ?_⟩
    · refine ap_rA2 b1 ?_
      refine ap_rA2 b2 ?_
      refine ap_rA2 b3 ?_
      refine ap_nn (ap_rc rfl ?_)
      refine (q23 G κ.2.1 E d S [E.2 (nI (6 * i) + 1).toNatClampNeg, E.2 (nI (6 * i) + 2).toNatClampNeg, E.2 (nI (6 * i) + 3).toNatClampNeg] rfl hI).mono (fun x h hq => ?_)
      obtain ⟨S1, rfl, hM⟩ := hq
      refine ap_rA2 b1 ?_
      refine ap_rA2 b2 ?_
      refine ap_rA2 b3 ?_
      refine ap_nn (ap_rc rfl ?_)
      refine hM.mono (fun y h' hq => ?_)
      obtain ⟨rfl, S2, rfl, hI2⟩ := hq
      exact ⟨fun _ => ih' S2 hI2, fun c => absurd rfl c⟩
    refine ⟨fun _ => ?_, fun _ => ?_⟩
    · refine ap_rA2 b1 ?_
      refine ap_nn (ap_rc rfl ?_)
      refine (q24 G κ.2.1 E d S [E.2 (nI (6 * i) + 1).toNatClampNeg] rfl hI).mono (fun x h hq => ?_)
      obtain ⟨S1, rfl, hM⟩ := hq
      refine ap_rA2 b1 ?_
      refine ap_nn (ap_rc rfl ?_)
      refine hM.mono (fun y h' hq => ?_)
      obtain ⟨rfl, S2, rfl, hI2⟩ := hq
      exact ⟨fun _ => ih' S2 hI2, fun c => absurd rfl c⟩
    refine ⟨fun _ => ?_, fun _ => ?_⟩
    · refine ap_rA2 b1 ?_
      refine ap_rA2 b2 ?_
      refine ap_rA2 b3 ?_
      refine ap_nn (ap_rc rfl ?_)
      refine (q25 G κ.2.1 E d S [E.2 (nI (6 * i) + 1).toNatClampNeg, E.2 (nI (6 * i) + 2).toNatClampNeg, E.2 (nI (6 * i) + 3).toNatClampNeg] rfl hI).mono (fun x h hq => ?_)
      obtain ⟨S1, rfl, hM⟩ := hq
      refine ap_rA2 b1 ?_
      refine ap_rA2 b2 ?_
      refine ap_rA2 b3 ?_
      refine ap_nn (ap_rc rfl ?_)
      refine hM.mono (fun y h' hq => ?_)
      obtain ⟨rfl, S2, rfl, hI2⟩ := hq
      exact ⟨fun _ => ih' S2 hI2, fun c => absurd rfl c⟩
    refine ⟨fun _ => ?_, fun _ => ?_⟩
    · refine ap_rA2 b1 ?_
      refine ap_rA2 b2 ?_
      refine ap_nn (ap_rc rfl ?_)
      refine (q26 G κ.2.1 E d S [E.2 (nI (6 * i) + 1).toNatClampNeg, E.2 (nI (6 * i) + 2).toNatClampNeg] rfl hI).mono (fun x h hq => ?_)
      obtain ⟨S1, rfl, hM⟩ := hq
      refine ap_rA2 b1 ?_
      refine ap_rA2 b2 ?_
      refine ap_nn (ap_rc rfl ?_)
      refine hM.mono (fun y h' hq => ?_)
      obtain ⟨rfl, S2, rfl, hI2⟩ := hq
      exact ⟨fun _ => ih' S2 hI2, fun c => absurd rfl c⟩
    refine ⟨fun _ => ?_, fun _ => ?_⟩
    · refine ap_rA2 b1 ?_
      refine ap_rA2 b2 ?_
      refine ap_nn (ap_rc rfl ?_)
      refine (q27 G κ.2.1 E d S [E.2 (nI (6 * i) + 1).toNatClampNeg, E.2 (nI (6 * i) + 2).toNatClampNeg] rfl hI).mono (fun x h hq => ?_)
      obtain ⟨S1, rfl, hM⟩ := hq
      refine ap_rA2 b1 ?_
      refine ap_rA2 b2 ?_
      refine ap_nn (ap_rc rfl ?_)
      refine hM.mono (fun y h' hq => ?_)
      obtain ⟨rfl, S2, rfl, hI2⟩ := hq
      exact ⟨fun _ => ih' S2 hI2, fun c => absurd rfl c⟩
    refine ⟨fun _ => ?_, fun _ => ?_⟩
    · refine ap_rA2 b1 ?_
      refine ap_rA2 b2 ?_
      refine ap_rA2 b3 ?_
      refine ap_nn (ap_rc rfl ?_)
      refine (q28 G κ.2.1 E d S [E.2 (nI (6 * i) + 1).toNatClampNeg, E.2 (nI (6 * i) + 2).toNatClampNeg, E.2 (nI (6 * i) + 3).toNatClampNeg] rfl hI).mono (fun x h hq => ?_)
      obtain ⟨S1, rfl, hM⟩ := hq
      refine ap_rA2 b1 ?_
      refine ap_rA2 b2 ?_
      refine ap_rA2 b3 ?_
      refine ap_nn (ap_rc rfl ?_)
      refine hM.mono (fun y h' hq => ?_)
      obtain ⟨rfl, S2, rfl, hI2⟩ := hq
      exact ⟨fun _ => ih' S2 hI2, fun c => absurd rfl c⟩
    refine ⟨fun _ => ?_, fun _ => ?_⟩
    · refine ap_rA2 b1 ?_
      refine ap_rA2 b2 ?_
      refine ap_rA2 b3 ?_
      refine ap_nn (ap_rc rfl ?_)
      refine (q29 G κ.2.1 E d S [E.2 (nI (6 * i) + 1).toNatClampNeg, E.2 (nI (6 * i) + 2).toNatClampNeg, E.2 (nI (6 * i) + 3).toNatClampNeg] rfl hI).mono (fun x h hq => ?_)
      obtain ⟨S1, rfl, hM⟩ := hq
      refine ap_rA2 b1 ?_
      refine ap_rA2 b2 ?_
      refine ap_rA2 b3 ?_
      refine ap_nn (ap_rc rfl ?_)
      refine hM.mono (fun y h' hq => ?_)
      obtain ⟨rfl, S2, rfl, hI2⟩ := hq
      exact ⟨fun _ => ih' S2 hI2, fun c => absurd rfl c⟩
    refine ⟨fun _ => ?_, fun _ => ?_⟩
    · refine ap_rA2 b1 ?_
      refine ap_rA2 b2 ?_
      refine ap_nn (ap_rc rfl ?_)
      refine (q30 G κ.2.1 E d S [E.2 (nI (6 * i) + 1).toNatClampNeg, E.2 (nI (6 * i) + 2).toNatClampNeg] rfl hI).mono (fun x h hq => ?_)
      obtain ⟨S1, rfl, hM⟩ := hq
      refine ap_rA2 b1 ?_
      refine ap_rA2 b2 ?_
      refine ap_nn (ap_rc rfl ?_)
      refine hM.mono (fun y h' hq => ?_)
      obtain ⟨rfl, S2, rfl, hI2⟩ := hq
      exact ⟨fun _ => ih' S2 hI2, fun c => absurd rfl c⟩
    refine ⟨fun _ => ?_, fun _ => ?_⟩
    · refine ap_rA2 b1 ?_
      refine ap_rA2 b2 ?_
      refine ap_nn (ap_rc rfl ?_)
      refine (q31 G κ.2.1 E d S [E.2 (nI (6 * i) + 1).toNatClampNeg, E.2 (nI (6 * i) + 2).toNatClampNeg] rfl hI).mono (fun x h hq => ?_)
      obtain ⟨S1, rfl, hM⟩ := hq
      refine ap_rA2 b1 ?_
      refine ap_rA2 b2 ?_
      refine ap_nn (ap_rc rfl ?_)
      refine hM.mono (fun y h' hq => ?_)
      obtain ⟨rfl, S2, rfl, hI2⟩ := hq
      exact ⟨fun _ => ih' S2 hI2, fun c => absurd rfl c⟩
    refine ⟨fun _ => ?_, fun _ => ?_⟩
    · refine ap_rA2 b1 ?_
      refine ap_nn (ap_rc rfl ?_)
      refine (q32 G κ.2.1 E d S [E.2 (nI (6 * i) + 1).toNatClampNeg] rfl hI).mono (fun x h hq => ?_)
      obtain ⟨S1, rfl, hM⟩ := hq
      refine ap_rA2 b1 ?_
      refine ap_nn (ap_rc rfl ?_)
      refine hM.mono (fun y h' hq => ?_)
      obtain ⟨rfl, S2, rfl, hI2⟩ := hq
      exact ⟨fun _ => ih' S2 hI2, fun c => absurd rfl c⟩
    refine ⟨fun _ => ?_, fun _ => ?_⟩
    · refine ap_rA2 b1 ?_
      refine ap_rA2 b2 ?_
      refine ap_nn (ap_rc rfl ?_)
      refine (q33 G κ.2.1 E d S [E.2 (nI (6 * i) + 1).toNatClampNeg, E.2 (nI (6 * i) + 2).toNatClampNeg] rfl hI).mono (fun x h hq => ?_)
      obtain ⟨S1, rfl, hM⟩ := hq
      refine ap_rA2 b1 ?_
      refine ap_rA2 b2 ?_
      refine ap_nn (ap_rc rfl ?_)
      refine hM.mono (fun y h' hq => ?_)
      obtain ⟨rfl, S2, rfl, hI2⟩ := hq
      exact ⟨fun _ => ih' S2 hI2, fun c => absurd rfl c⟩
    refine ⟨fun _ => ?_, fun _ => ?_⟩
    · refine ap_rA2 b1 ?_
      refine ap_rA2 b2 ?_
      refine ap_nn (ap_rc rfl ?_)
      refine (q34 G κ.2.1 E d S [E.2 (nI (6 * i) + 1).toNatClampNeg, E.2 (nI (6 * i) + 2).toNatClampNeg] rfl hI).mono (fun x h hq => ?_)
      obtain ⟨S1, rfl, hM⟩ := hq
      refine ap_rA2 b1 ?_
      refine ap_rA2 b2 ?_
      refine ap_nn (ap_rc rfl ?_)
      refine hM.mono (fun y h' hq => ?_)
      obtain ⟨rfl, S2, rfl, hI2⟩ := hq
      exact ⟨fun _ => ih' S2 hI2, fun c => absurd rfl c⟩
    refine ⟨fun _ => ?_, fun _ => ?_⟩
    · refine ap_rA2 b1 ?_
      refine ap_rA2 b2 ?_
      refine ap_nn (ap_rc rfl ?_)
      refine (q35 G κ.2.1 E d S [E.2 (nI (6 * i) + 1).toNatClampNeg, E.2 (nI (6 * i) + 2).toNatClampNeg] rfl hI).mono (fun x h hq => ?_)
      obtain ⟨S1, rfl, hM⟩ := hq
      refine ap_rA2 b1 ?_
      refine ap_rA2 b2 ?_
      refine ap_nn (ap_rc rfl ?_)
      refine hM.mono (fun y h' hq => ?_)
      obtain ⟨rfl, S2, rfl, hI2⟩ := hq
      exact ⟨fun _ => ih' S2 hI2, fun c => absurd rfl c⟩
    refine ⟨fun _ => ?_, fun _ => ?_⟩
    · refine ap_rA2 b1 ?_
      refine ap_rA2 b2 ?_
      refine ap_nn (ap_rc rfl ?_)
      refine (q36 G κ.2.1 E d S [E.2 (nI (6 * i) + 1).toNatClampNeg, E.2 (nI (6 * i) + 2).toNatClampNeg] rfl hI).mono (fun x h hq => ?_)
      obtain ⟨S1, rfl, hM⟩ := hq
      refine ap_rA2 b1 ?_
      refine ap_rA2 b2 ?_
      refine ap_nn (ap_rc rfl ?_)
      refine hM.mono (fun y h' hq => ?_)
      obtain ⟨rfl, S2, rfl, hI2⟩ := hq
      exact ⟨fun _ => ih' S2 hI2, fun c => absurd rfl c⟩
    refine ⟨fun _ => ?_, fun _ => ?_⟩
    · refine ap_rA2 b1 ?_
      refine ap_rA2 b2 ?_
      refine ap_rA2 b3 ?_
      refine ap_nn (ap_rc rfl ?_)
      refine (q37 G κ.2.1 E d S [E.2 (nI (6 * i) + 1).toNatClampNeg, E.2 (nI (6 * i) + 2).toNatClampNeg, E.2 (nI (6 * i) + 3).toNatClampNeg] rfl hI).mono (fun x h hq => ?_)
      obtain ⟨S1, rfl, hM⟩ := hq
      refine ap_rA2 b1 ?_
      refine ap_rA2 b2 ?_
      refine ap_rA2 b3 ?_
      refine ap_nn (ap_rc rfl ?_)
      refine hM.mono (fun y h' hq => ?_)
      obtain ⟨rfl, S2, rfl, hI2⟩ := hq
      exact ⟨fun _ => ih' S2 hI2, fun c => absurd rfl c⟩
    refine ⟨fun _ => ?_, fun _ => ?_⟩
    · refine ap_rA2 b1 ?_
      refine ap_rA2 b2 ?_
      refine ap_rA2 b3 ?_
      refine ap_nn (ap_rc rfl ?_)
      refine (q38 G κ.2.1 E d S [E.2 (nI (6 * i) + 1).toNatClampNeg, E.2 (nI (6 * i) + 2).toNatClampNeg, E.2 (nI (6 * i) + 3).toNatClampNeg] rfl hI).mono (fun x h hq => ?_)
      obtain ⟨S1, rfl, hM⟩ := hq
      refine ap_rA2 b1 ?_
      refine ap_rA2 b2 ?_
      refine ap_rA2 b3 ?_
      refine ap_nn (ap_rc rfl ?_)
      refine hM.mono (fun y h' hq => ?_)
      obtain ⟨rfl, S2, rfl, hI2⟩ := hq
      exact ⟨fun _ => ih' S2 hI2, fun c => absurd rfl c⟩
    refine ⟨fun _ => ?_, fun _ => ?_⟩
    · refine ap_rA2 b1 ?_
      refine ap_rA2 b2 ?_
      refine ap_rA2 b3 ?_
      refine ap_rA2 b4 ?_
      refine ap_rA2 b5 ?_
      refine ap_nn (ap_rc rfl ?_)
      refine (q39 G κ.2.1 E d S [E.2 (nI (6 * i) + 1).toNatClampNeg, E.2 (nI (6 * i) + 2).toNatClampNeg, E.2 (nI (6 * i) + 3).toNatClampNeg, E.2 (nI (6 * i) + 4).toNatClampNeg, E.2 (nI (6 * i) + 5).toNatClampNeg] rfl hI).mono (fun x h hq => ?_)
      obtain ⟨S1, rfl, hM⟩ := hq
      refine ap_rA2 b1 ?_
      refine ap_rA2 b2 ?_
      refine ap_rA2 b3 ?_
      refine ap_rA2 b4 ?_
      refine ap_rA2 b5 ?_
      refine ap_nn (ap_rc rfl ?_)
      refine hM.mono (fun y h' hq => ?_)
      obtain ⟨rfl, S2, rfl, hI2⟩ := hq
      exact ⟨fun _ => ih' S2 hI2, fun c => absurd rfl c⟩
    refine ⟨fun _ => ?_, fun _ => ?_⟩
    · refine ap_rA2 b1 ?_
      refine ap_nn (ap_rc rfl ?_)
      refine (q40 G κ.2.1 E d S [E.2 (nI (6 * i) + 1).toNatClampNeg] rfl hI).mono (fun x h hq => ?_)
      obtain ⟨S1, rfl, hM⟩ := hq
      refine ap_rA2 b1 ?_
      refine ap_nn (ap_rc rfl ?_)
      refine hM.mono (fun y h' hq => ?_)
      obtain ⟨rfl, S2, rfl, hI2⟩ := hq
      exact ⟨fun _ => ih' S2 hI2, fun c => absurd rfl c⟩
    refine ⟨fun _ => ?_, fun _ => ?_⟩
    · refine ap_rA2 b1 ?_
      refine ap_rA2 b2 ?_
      refine ap_nn (ap_rc rfl ?_)
      refine (q41 G κ.2.1 E d S [E.2 (nI (6 * i) + 1).toNatClampNeg, E.2 (nI (6 * i) + 2).toNatClampNeg] rfl hI).mono (fun x h hq => ?_)
      obtain ⟨S1, rfl, hM⟩ := hq
      refine ap_rA2 b1 ?_
      refine ap_rA2 b2 ?_
      refine ap_nn (ap_rc rfl ?_)
      refine hM.mono (fun y h' hq => ?_)
      obtain ⟨rfl, S2, rfl, hI2⟩ := hq
      exact ⟨fun _ => ih' S2 hI2, fun c => absurd rfl c⟩
    refine ⟨fun _ => ?_, fun _ => ?_⟩
    · refine ap_nn (ap_rc rfl ?_)
      refine (q42 G κ.2.1 E d S [] rfl hI).mono (fun x h hq => ?_)
      obtain ⟨S1, rfl, hM⟩ := hq
      refine ap_nn (ap_rc rfl ?_)
      refine hM.mono (fun y h' hq => ?_)
      obtain ⟨rfl, S2, rfl, hI2⟩ := hq
      exact ⟨fun _ => ih' S2 hI2, fun c => absurd rfl c⟩
    refine ⟨fun _ => ?_, fun _ => ?_⟩
    · refine ap_nn (ap_rc rfl ?_)
      refine (q43 G κ.2.1 E d S [] rfl hI).mono (fun x h hq => ?_)
      obtain ⟨S1, rfl, hM⟩ := hq
      refine ap_nn (ap_rc rfl ?_)
      refine hM.mono (fun y h' hq => ?_)
      obtain ⟨rfl, S2, rfl, hI2⟩ := hq
      exact ⟨fun _ => ih' S2 hI2, fun c => absurd rfl c⟩
    refine ⟨fun _ => ?_, fun _ => ?_⟩
    · refine ap_nn (ap_rc rfl ?_)
      refine (q44 G κ.2.1 E d S [] rfl hI).mono (fun x h hq => ?_)
      obtain ⟨S1, rfl, hM⟩ := hq
      refine ap_nn (ap_rc rfl ?_)
      refine hM.mono (fun y h' hq => ?_)
      obtain ⟨rfl, S2, rfl, hI2⟩ := hq
      exact ⟨fun _ => ih' S2 hI2, fun c => absurd rfl c⟩
    refine ⟨fun _ => ?_, fun _ => ?_⟩
    · refine ap_rA2 b1 ?_
      refine ap_nn (ap_rc rfl ?_)
      refine (q45 G κ.2.1 E d S [E.2 (nI (6 * i) + 1).toNatClampNeg] rfl hI).mono (fun x h hq => ?_)
      obtain ⟨S1, rfl, hM⟩ := hq
      refine ap_rA2 b1 ?_
      refine ap_nn (ap_rc rfl ?_)
      refine hM.mono (fun y h' hq => ?_)
      obtain ⟨rfl, S2, rfl, hI2⟩ := hq
      exact ⟨fun _ => ih' S2 hI2, fun c => absurd rfl c⟩
    refine ⟨fun _ => ?_, fun _ => ?_⟩
    · refine ap_rA2 b1 ?_
      refine ap_nn (ap_rc rfl ?_)
      refine (q46 G κ.2.1 E d S [E.2 (nI (6 * i) + 1).toNatClampNeg] rfl hI).mono (fun x h hq => ?_)
      obtain ⟨S1, rfl, hM⟩ := hq
      refine ap_rA2 b1 ?_
      refine ap_nn (ap_rc rfl ?_)
      refine hM.mono (fun y h' hq => ?_)
      obtain ⟨rfl, S2, rfl, hI2⟩ := hq
      exact ⟨fun _ => ih' S2 hI2, fun c => absurd rfl c⟩
    exact ih' S hI
theorem lx_l0 (E : Nat × (Nat → Int32)) (k : Nat) (hk : k < 5) : (bz_olds E)[k]? = some ((bz_olds E).getD k (bz_ci 0 (fun _ => 0))) := by
  have : (bz_olds E).length = 5 := rfl
  rw [List.getD_eq_getElem?_getD, List.getElem?_eq_getElem (by omega)]
  rfl
set_option maxRecDepth 20000 in
set_option maxHeartbeats 4000000 in
/-- THE LAW, from its entry, out of the two parts that are left -/
theorem start_of {Inv : bz_S → Prop} (hini : bz_ini Inv) (hall : bz_all Inv) {p : Program} {e : Env} {s : State} {m : MethodId} {below : List Frame} {meth : Method} {c : Code} (l : Launch) {b L : Nat} {xs : Nat → Int32} (hL : L ≤ 384) (C0 : lw_At p s m meth c b L xs) : W p l e room_1 s m #[Value.ref b] below meth c s.heap [] 0 0 (lw_Z below #[Value.ref b] s) (entryFrame m ([Value.ref b] : List Value).toArray 4) := by
  obtain ⟨hx, hb, hr, hml, hown, hts, hX, hbl, hlocks, hgv⟩ := id C0
  have hs := flat_of_before _ hgv
  have htb : ∀ w ∈ bz_tbl, w.before #[Value.ref b] s = true := fun w h => hts w (List.mem_filter.mp h).1
  obtain ⟨c0, i0, k0⟩ := u_known (C := RX0) (T := TX0) (N := 2) (n := 2) htb bz_in0 (htb _ it_0)
  obtain ⟨c1, i1, k1⟩ := u_known (C := RX1) (T := TX1) (N := 10) (n := 10) htb bz_in1 (htb _ it_1)
  obtain ⟨c2, i2, k2⟩ := u_known (C := RX2) (T := TX2) (N := 15) (n := 15) htb bz_in2 (htb _ it_2)
  obtain ⟨c3, i3, k3⟩ := u_known (C := RX3) (T := TX3) (N := 9) (n := 9) htb bz_in3 (htb _ it_3)
  obtain ⟨c4, i4, k4⟩ := u_known (C := RX4) (T := TX4) (N := 2) (n := 2) htb bz_in4 (htb _ it_4)
  obtain ⟨c5, i5, k5⟩ := u_known (C := RX5) (T := TX5) (N := 3) (n := 3) htb bz_in5 (htb _ it_5)
  obtain ⟨c6, i6, k6⟩ := u_known (C := RX6) (T := TX6) (N := 8) (n := 8) htb bz_in6 (htb _ it_6)
  obtain ⟨c7, i7, k7⟩ := u_known (C := RX7) (T := TX7) (N := 1) (n := 1) htb bz_in7 (htb _ it_7)
  obtain ⟨c8, i8, k8⟩ := u_known (C := RX8) (T := TX8) (N := 4) (n := 4) htb bz_in8 (htb _ it_8)
  obtain ⟨c9, i9, k9⟩ := u_known (C := RX9) (T := TX9) (N := 11) (n := 11) htb bz_in9 (htb _ it_9)
  obtain ⟨c10, i10, k10⟩ := u_known (C := RX10) (T := TX10) (N := 16) (n := 16) htb bz_in10 (htb _ it_10)
  obtain ⟨c11, i11, k11⟩ := u_known (C := RX11) (T := TX11) (N := 9) (n := 9) htb bz_in11 (htb _ it_11)
  obtain ⟨c12, i12, k12⟩ := u_known (C := RX12) (T := TX12) (N := 34) (n := 34) htb bz_in12 (htb _ it_12)
  obtain ⟨dC, dI, hKc⟩ : ∃ (dC : Nat → ClassId) (dI : Nat → Nat → Nat), ∀ (k : Nat) (q : vw_C), vwCl[k]? = some q → u_Kn s q.1 q.2.1 q.2.2 (dC k) (dI k) := by
    refine ⟨fun k => ([c0, c1, c2, c3, c4, c5, c6, c7, c8, c9, c10, c11, c12] : List ClassId).getD k c0, fun k => ([i0, i1, i2, i3, i4, i5, i6, i7, i8, i9, i10, i11, i12] : List (Nat → Nat)).getD k i0, ?_⟩
    intro k q hq
    match k, hq with
    | 0, hq => cases hq; exact k0
    | 1, hq => cases hq; exact k1
    | 2, hq => cases hq; exact k2
    | 3, hq => cases hq; exact k3
    | 4, hq => cases hq; exact k4
    | 5, hq => cases hq; exact k5
    | 6, hq => cases hq; exact k6
    | 7, hq => cases hq; exact k7
    | 8, hq => cases hq; exact k8
    | 9, hq => cases hq; exact k9
    | 10, hq => cases hq; exact k10
    | 11, hq => cases hq; exact k11
    | 12, hq => cases hq; exact k12
    | k + 13, hq => simp [vwCl] at hq
  obtain ⟨a0, kA0, cp0, f01, f02, f03⟩ := Cond.arrayClass_spec (htb _ ak_i)
  have ao1 : (Cond.arrayOver (.object RX2)).before #[Value.ref b] s = true := hts _ (List.mem_of_getElem? (i := 161) (by decide +kernel))
  obtain ⟨cp1, a1, kA1, f11, -, f13, f14, f15⟩ := Cond.arrayOver_spec ao1
  have ao2 : (Cond.arrayOver (.object RX3)).before #[Value.ref b] s = true := hts _ (List.mem_of_getElem? (i := 163) (by decide +kernel))
  obtain ⟨cp2, a2, kA2, f21, -, f23, f24, f25⟩ := Cond.arrayOver_spec ao2
  have ao3 : (Cond.arrayOver (.object RX7)).before #[Value.ref b] s = true := hts _ (List.mem_of_getElem? (i := 165) (by decide +kernel))
  obtain ⟨cp3, a3, kA3, f31, -, f33, f34, f35⟩ := Cond.arrayOver_spec ao3
  have ao4 : (Cond.arrayOver (.object RX5)).before #[Value.ref b] s = true := hts _ (List.mem_of_getElem? (i := 401) (by decide +kernel))
  obtain ⟨cp4, a4, kA4, f41, -, f43, f44, f45⟩ := Cond.arrayOver_spec ao4
  have hA : ∀ a : Nat, a < s.heap.size → ¬ (fun q : Nat => s.heap.size ≤ q) a := fun a h => Nat.not_le.mpr h
  obtain ⟨tL, eL, hTL⟩ := va_Tof (args := #[Value.ref b]) (s := s) (tm := .static "BagRiders" "LINE_STOPS" "[I") (ty := .int) (N := 24) (f := fun j => .int (bz_lin j)) (A := fun q : Nat => s.heap.size ≤ q) (by decide) (hs _ (by decide +kernel)) (va_eqt (hs _ (by decide +kernel))) (fun j hj => by
    match j, hj with
    | 0, _ => exact va_eqt (hs _ (by decide +kernel))
    | 1, _ => exact va_eqt (hs _ (by decide +kernel))
    | 2, _ => exact va_eqt (hs _ (by decide +kernel))
    | 3, _ => exact va_eqt (hs _ (by decide +kernel))
    | 4, _ => exact va_eqt (hs _ (by decide +kernel))
    | 5, _ => exact va_eqt (hs _ (by decide +kernel))
    | 6, _ => exact va_eqt (hs _ (by decide +kernel))
    | 7, _ => exact va_eqt (hs _ (by decide +kernel))
    | 8, _ => exact va_eqt (hs _ (by decide +kernel))
    | 9, _ => exact va_eqt (hs _ (by decide +kernel))
    | 10, _ => exact va_eqt (hs _ (by decide +kernel))
    | 11, _ => exact va_eqt (hs _ (by decide +kernel))
    | 12, _ => exact va_eqt (hs _ (by decide +kernel))
    | 13, _ => exact va_eqt (hs _ (by decide +kernel))
    | 14, _ => exact va_eqt (hs _ (by decide +kernel))
    | 15, _ => exact va_eqt (hs _ (by decide +kernel))
    | 16, _ => exact va_eqt (hs _ (by decide +kernel))
    | 17, _ => exact va_eqt (hs _ (by decide +kernel))
    | 18, _ => exact va_eqt (hs _ (by decide +kernel))
    | 19, _ => exact va_eqt (hs _ (by decide +kernel))
    | 20, _ => exact va_eqt (hs _ (by decide +kernel))
    | 21, _ => exact va_eqt (hs _ (by decide +kernel))
    | 22, _ => exact va_eqt (hs _ (by decide +kernel))
    | 23, _ => exact va_eqt (hs _ (by decide +kernel))
    | n + 24, h => exact absurd h (by omega)) hA
  obtain ⟨tU, eU, hTU⟩ := va_Tof (args := #[Value.ref b]) (s := s) (tm := .static "BagRiders" "UNDER" "[I") (ty := .int) (N := 7) (f := fun j => .int (bz_und j)) (A := fun q : Nat => s.heap.size ≤ q) (by decide) (hs _ (by decide +kernel)) (va_eqt (hs _ (by decide +kernel))) (fun j hj => by
    match j, hj with
    | 0, _ => exact va_eqt (hs _ (by decide +kernel))
    | 1, _ => exact va_eqt (hs _ (by decide +kernel))
    | 2, _ => exact va_eqt (hs _ (by decide +kernel))
    | 3, _ => exact va_eqt (hs _ (by decide +kernel))
    | 4, _ => exact va_eqt (hs _ (by decide +kernel))
    | 5, _ => exact va_eqt (hs _ (by decide +kernel))
    | 6, _ => exact va_eqt (hs _ (by decide +kernel))
    | n + 7, h => exact absurd h (by omega)) hA
  have zL := va_Zof (A := fun q : Nat => s.heap.size ≤ q) (hts (.laysStatic "BagRiders" "LINE_STOPS" "[I") (List.mem_of_getElem? (i := 732) (by decide +kernel))) (htb _ ii_11) eL hA
  have zU := va_Zof (A := fun q : Nat => s.heap.size ≤ q) (hts (.laysStatic "BagRiders" "UNDER" "[I") (List.mem_of_getElem? (i := 1156) (by decide +kernel))) (htb _ ii_11) eU hA
  have zC := va_Zof (A := fun q : Nat => s.heap.size ≤ q) (v := .int 1) (hts (.laysStatic "java/lang/String" "COMPACT_STRINGS" "Z") (List.mem_of_getElem? (i := 877) (by decide +kernel))) (htb (.initialized "java/lang/String") (bz_mem 99 (by decide +kernel) (by decide +kernel))) (va_eqt (hs _ (by decide +kernel))) hA
  obtain ⟨aK, aV, hSt, hStr⟩ := vk_Sof (args := #[Value.ref b]) (s := s) (N := 1) (tm := fun _ => .string "BagRiders$Tape" 59) (len := [7]) (byt := [[100, 119, 104, 114, 108, 99, 110]]) (A := fun q : Nat => s.heap.size ≤ q)
    (fun i hi => by rw [show i = 0 by omega]; decide) (fun i hi => hs _ (by decide +kernel)) (fun i hi => hs _ (by decide +kernel)) (fun i hi => hs _ (by decide +kernel)) (fun i hi => by rw [show i = 0 by omega]; exact hs _ (by decide +kernel))
    (fun i hi j hj => by
      rw [show i = 0 by omega] at hj ⊢
      match j, hj with
      | 0, _ => exact hs _ (by decide +kernel)
      | 1, _ => exact hs _ (by decide +kernel)
      | 2, _ => exact hs _ (by decide +kernel)
      | 3, _ => exact hs _ (by decide +kernel)
      | 4, _ => exact hs _ (by decide +kernel)
      | 5, _ => exact hs _ (by decide +kernel)
      | 6, _ => exact hs _ (by decide +kernel)
      | n + 7, h => exact absurd h (by show ¬ n + 7 < 7; omega)) (fun i j hi hj hij => absurd (show i = j by omega) hij) hA
  have hR : vk_R RX6 59 "dwhrlcn" (aK 0) s := vk_R.of (hts _ (List.mem_of_getElem? (i := 863) (by decide +kernel))) (hStr 0 (by decide))
  have hnst : bz_nst s := by
    refine ⟨fun q hq => ?_, va_Nw.of (A := #[Value.ref b]) rfl (hts _ (List.mem_of_getElem? (i := 731) (by decide +kernel))), va_Nw.of (A := #[Value.ref b]) rfl (hts _ (List.mem_of_getElem? (i := 979) (by decide +kernel))), fun C hC => ?_⟩
    · simp only [bz_nwM, List.mem_cons, List.not_mem_nil, or_false] at hq
      rcases hq with rfl | rfl | rfl | rfl | rfl | rfl | rfl | rfl | rfl
      · exact va_Nw.of (A := #[Value.ref b]) rfl (hts _ (List.mem_of_getElem? (i := 167) (by decide +kernel)))
      · exact va_Nw.of (A := #[Value.ref b]) rfl (hts _ (List.mem_of_getElem? (i := 368) (by decide +kernel)))
      · exact va_Nw.of (A := #[Value.ref b]) rfl (hts _ (List.mem_of_getElem? (i := 403) (by decide +kernel)))
      · exact va_Nw.of (A := #[Value.ref b]) rfl (hts _ (List.mem_of_getElem? (i := 472) (by decide +kernel)))
      · exact va_Nw.of (A := #[Value.ref b]) rfl (hts _ (List.mem_of_getElem? (i := 642) (by decide +kernel)))
      · exact va_Nw.of (A := #[Value.ref b]) rfl (hts _ (List.mem_of_getElem? (i := 651) (by decide +kernel)))
      · exact va_Nw.of (A := #[Value.ref b]) rfl (hts _ (List.mem_of_getElem? (i := 734) (by decide +kernel)))
      · exact va_Nw.of (A := #[Value.ref b]) rfl (hts _ (List.mem_of_getElem? (i := 786) (by decide +kernel)))
      · exact va_Nw.of (A := #[Value.ref b]) rfl (hts _ (List.mem_of_getElem? (i := 806) (by decide +kernel)))
    · simp only [List.mem_cons, List.not_mem_nil, or_false] at hC
      rcases hC with rfl | rfl | rfl | rfl
      · exact ao1
      · exact ao2
      · exact ao3
      · exact ao4
  obtain ⟨G, hG⟩ : ∃ G : bz_G, G = (s.heap.size, (fun k => ([tU, tL, b, aK 0, aV 0] : List Nat).getD k 0), (dC, dI), (fun t => ([a0, a1, a2, a3, a4] : List ClassId).getD t a0), fun k => (bz_olds (L, xs)).getD k (bz_ci 0 (fun _ => 0))) := ⟨_, rfl⟩
  have hK : va_K G.2.2.1 vwCl (bz_tys G) s := by
    rw [hG]
    refine ⟨hKc, fun k q hq => ?_⟩
    match k, hq with
    | 0, hq => cases hq; exact ⟨fun n z => ⟨fun k h => (by cases h), kA0, f02, cp0, f03⟩, f01⟩
    | 1, hq => cases hq; exact ⟨fun n z => ⟨fun k h => (by cases h), kA1, f13, cp1, f14⟩, kA1, cp1, f13, f14, f11, f15⟩
    | 2, hq => cases hq; exact ⟨fun n z => ⟨fun k h => (by cases h), kA2, f23, cp2, f24⟩, kA2, cp2, f23, f24, f21, f25⟩
    | 3, hq => cases hq; exact ⟨fun n z => ⟨fun k h => (by cases h), kA3, f33, cp3, f34⟩, kA3, cp3, f33, f34, f31, f35⟩
    | 4, hq => cases hq; exact ⟨fun n z => ⟨fun k h => (by cases h), kA4, f43, cp4, f44⟩, kA4, cp4, f43, f44, f41, f45⟩
    | k + 5, hq => simp [bz_tys] at hq
  have hold : bz_old G s s.heap := by
    rw [hG]
    refine ⟨fun k hk => ?_, zU, zL, ⟨hR, ?_, zC⟩, hnst⟩
    · match k, hk with
      | 0, _ => exact ⟨7, bz_und, rfl, hTU⟩
      | 1, _ => exact ⟨24, bz_lin, rfl, hTL⟩
      | 2, _ =>
        obtain ⟨scr, g1, g2, g3, g4, g5⟩ := hX
        exact ⟨L, xs, rfl, scr, g1, g2, g3, by omega, by rw [g4] <;> rfl, g5, hA b hbl⟩
      | n + 3, h => exact absurd h (by omega)
    · refine ⟨fun i hi => ?_, fun i j hi hj _ => by omega⟩
      rw [show i = 0 by omega]
      exact hSt.1 0 (by decide)
  have hW : bz_W G (bz_olds (L, xs)) s.heap := by
    rw [hG]
    refine ⟨rfl, fun k hk => lx_l0 _ k hk, fun k q hk hq => ?_⟩
    have := (List.getElem?_eq_some_iff.mp hq).1
    have h5 : (bz_olds (L, xs)).length = 5 := rfl
    have h6 : bz_nb = 5 := rfl
    omega
  have hl := lv_entry ([.ref b]) (n := 4) (Nat.le_of_ble_eq_true rfl)
  rw [lg_entry_eq]
  generalize (lg_sl ([.ref b]) ++ List.replicate (4 - (lg_sl ([.ref b])).length) Slot.unset).toArray = ls at hl ⊢
  have hbr : bz_v G (.inr (some 2)) = .ref b := by rw [hG]; rfl
  have J : bz_J G (p, l, e, room_1, s, m, #[Value.ref b], below, meth, c, lw_Z below #[Value.ref b] s) kL_law (940 + 61) (fun v _ => v = some (.inl 1)) (2 * 65 + 248) (81 * 65 + 11559) 0 [some (.inr (some 2)), none, none, none] [] (bz_olds (L, xs)) := by
    refine g_L_law_0 rfl _ _ ?_
    unfold w_L_law_0
    refine (hini G l (L, xs) 940).mono fun h4 q4 => ?_
    refine q4.mono fun h8 q8 => ?_
    obtain ⟨e5, e6, S0, rfl, hI⟩ := q8
    have := law_loop hall (G := G) (κ := (p, l, e, room_1, s, m, #[Value.ref b], below, meth, c, lw_Z below #[Value.ref b] s)) (d := 940) (E := (L, xs)) hL 65 0 S0 (by omega) (by omega) hI
    rw [e6]
    exact this
  refine J ⟨hx, hb, hml, hown, htb, (fun e9 => absurd e9 (by decide)), hK, ⟨by show 1001 ≤ 2048; omega, by show 64 * 1001 ≤ 84000; omega⟩, by rw [hG]; exact Nat.le_refl _, hold, ?_⟩ s.heap [] 0 0 ls hW ⟨hl.1, hl.2.1, fun q hq => ?_⟩ ?_ ?_ ?_
  · intro v h H locs cells slots lsC pc hF hW' hS hc hs' hret
    subst hF
    refine va_forget (fun q hq => ?_) ?_
    · have := hS.2.2 q hq
      rw [hG] at this
      exact this
    · refine W.widen (k := 600000) (n := 7302250) hc hs' ?_
      exact lw_ret hx hb hr hlocks hret.2
  · obtain ⟨k, v, h1, rfl⟩ := (bz_lp_mem G _ 0 q).mp hq
    match k, h1 with
    | 0, h1 =>
      cases h1
      rw [hbr]
      exact hl.2.2 _ List.mem_cons_self
    | 1, h1 => cases h1
    | 2, h1 => cases h1
    | 3, h1 => cases h1
    | n + 4, h1 => simp at h1
  · exact va_S.rf
  · show 0 + (2 * 65 + 248) ≤ 600000
    omega
  · show 0 + (81 * 65 + 11559) ≤ 7302250
    omega
