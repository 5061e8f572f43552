/-! constructors: heaps of the form g ++ l, l being written out -/
section LP
variable {g l l' : bz_H} {n i ci k N m : Nat}
theorem lp_al {c : bz_C} {P : Nat → bz_H → Prop} (hn : l.length = n) (e : l ++ [c] = l') (hP : P (g.length + n) (g ++ l')) : bz_al (g ++ l) c P := by
  subst hn; subst e
  unfold bz_al
  rw [List.length_append, List.append_assoc]
  exact hP
theorem lp_an {j : Int32} {P : Nat → bz_H → Prop} (hj : ¬ j < 0 ∧ j.toNatClampNeg ≤ N) (hm : j.toNatClampNeg = m) (hn : l.length = n) (e : l ++ [bz_ci m (fun _ => 0)] = l') (hP : P (g.length + n) (g ++ l')) : bz_an (g ++ l) j N P := by
  subst hn; subst e; subst hm
  refine ⟨hj, ?_⟩
  rw [List.length_append, List.append_assoc]
  exact hP
theorem lp_aq {j : Int32} {t : Nat} {P : Nat → bz_H → Prop} (hj : ¬ j < 0 ∧ j.toNatClampNeg ≤ N) (hm : j.toNatClampNeg = m) (hn : l.length = n) (e : l ++ [bz_cr t m (fun _ => none)] = l') (hP : P (g.length + n) (g ++ l')) : bz_aq (g ++ l) t j N P := by
  subst hn; subst e; subst hm
  refine ⟨hj, ?_⟩
  rw [List.length_append, List.append_assoc]
  exact hP
theorem lp_get (i : Nat) : (g ++ l)[g.length + i]? = l[i]? := by
  rw [List.getElem?_append_right (by omega)]
  congr 1
  omega
theorem lp_set (i : Nat) (c : bz_C) : (g ++ l).set (g.length + i) c = g ++ l.set i c := by
  rw [List.set_append_right _ _ (by omega)]
  congr 2
  omega
theorem lp_wR {fs : List bz_V} {v : Option Nat} {P : bz_H → Prop} (h5 : 5 ≤ g.length) (h : l[i]? = some (bz_co ci fs)) (hk : k < fs.length) (e : l.set i (bz_co ci (fs.set k (.inr v))) = l') (hP : P (g ++ l')) : bz_wR (g ++ l) (g.length + i) ci k v P := by
  subst e
  exact ⟨fs, by show 5 ≤ _; omega, by rw [lp_get]; exact h, hk, by rw [lp_set]; exact hP⟩
theorem lp_wI {fs : List bz_V} {v : Int32} {P : bz_H → Prop} (h5 : 5 ≤ g.length) (h : l[i]? = some (bz_co ci fs)) (hk : k < fs.length) (e : l.set i (bz_co ci (fs.set k (.inl v))) = l') (hP : P (g ++ l')) : bz_wI (g ++ l) (g.length + i) ci k v P := by
  subst e
  exact ⟨fs, by show 5 ≤ _; omega, by rw [lp_get]; exact h, hk, by rw [lp_set]; exact hP⟩
theorem lp_rR {fs : List bz_V} {v : Option Nat} {P : Option Nat → Prop} (h5 : 5 ≤ g.length) (h : l[i]? = some (bz_co ci fs)) (hk : fs[k]? = some (.inr v)) (hP : P v) : bz_rR (g ++ l) (g.length + i) ci k P :=
  ⟨fs, v, by show 5 ≤ _; omega, by rw [lp_get]; exact h, hk, hP⟩
theorem lp_wA {f : Nat → Int32} {j v : Int32} {P : bz_H → Prop} (h5 : 5 ≤ g.length) (h : l[i]? = some (bz_ci m f)) (hin : vp_in j m) (e : l.set i (bz_ci m (upd f j.toNatClampNeg v)) = l') (hP : P (g ++ l')) : bz_wA (g ++ l) (g.length + i) j v P := by
  subst e
  exact ⟨m, f, by show 5 ≤ _; omega, by rw [lp_get]; exact h, hin, by rw [lp_set]; exact hP⟩
theorem lp_rN {f : Nat → Int32} {P : Int32 → Prop} (h5 : 5 ≤ g.length) (h : l[i]? = some (bz_ci m f)) (hP : P (Int32.ofNat m)) : bz_rN (g ++ l) (g.length + i) P :=
  ⟨m, f, Or.inr (by show 5 ≤ _; omega), by rw [lp_get]; exact h, hP⟩
theorem lp_wQ {f : Nat → Option Nat} {j : Int32} {t b : Nat} {fs : List bz_V} {P : bz_H → Prop} (h5 : 5 ≤ g.length) (h : l[i]? = some (bz_cr t m f)) (ht : 1 ≤ t ∧ t ≤ 4) (hin : vp_in j m) (hb : l[b]? = some (bz_co (bz_tcl t) fs)) (e : l.set i (bz_cr t m (va_up f j.toNatClampNeg (some (g.length + b)))) = l') (hP : P (g ++ l')) : bz_wQ (g ++ l) (g.length + i) j (some (g.length + b)) P := by
  subst e
  exact ⟨t, m, f, by show 5 ≤ _; omega, by rw [lp_get]; exact h, ht, hin, fun b' e' => by cases e'; exact ⟨by show 5 ≤ _; omega, fs, by rw [lp_get]; exact hb⟩, by rw [lp_set]; exact hP⟩
end LP
section INI
variable {G : bz_G} {l : Launch} {d : Nat} {g : bz_H} {P : bz_H → Prop}
theorem lp_0 (h : bz_H) (i : Nat) : h.length = h.length + 0 := rfl
set_option maxRecDepth 20000 in
set_option maxHeartbeats 4000000 in
theorem in_Names (h5 : 5 ≤ g.length) (hP : P (g ++ [bz_co 0 [.inr (some (g.length + 1)), .inr (some (g.length + 2))], bz_ci 7 (fun _ => 0), bz_ci 80 (fun _ => 0)])) : bz_cV G l (d + 1) kX0_init [.inr (some (g.length + 0))] (g ++ [bz_co 0 [.inr none, .inr none]]) 2 87 P := by
  refine m_X0_init (mc := 0) (ms := 0) (g.length + 0) _ ?_
  unfold w_X0_init_0
  refine lp_an (m := 7) (n := 1) ⟨by decide, by decide⟩ (by decide) rfl (l' := [bz_co 0 [.inr none, .inr none], bz_ci 7 (fun _ => 0)]) rfl ?_
  refine lp_wR (i := 0) h5 rfl (Nat.le_of_ble_eq_true rfl) (l' := [bz_co 0 [.inr (some (g.length + 1)), .inr none], bz_ci 7 (fun _ => 0)]) rfl ?_
  refine lp_an (m := 80) (n := 2) ⟨by decide, by decide⟩ (by decide) rfl (l' := [bz_co 0 [.inr (some (g.length + 1)), .inr none], bz_ci 7 (fun _ => 0), bz_ci 80 (fun _ => 0)]) rfl ?_
  refine lp_wR (i := 0) h5 rfl (Nat.le_of_ble_eq_true rfl) (l' := [bz_co 0 [.inr (some (g.length + 1)), .inr (some (g.length + 2))], bz_ci 7 (fun _ => 0), bz_ci 80 (fun _ => 0)]) rfl ?_
  exact ⟨rfl, hP⟩
set_option maxRecDepth 20000 in
set_option maxHeartbeats 4000000 in
theorem in_Sheet (h5 : 5 ≤ g.length) (hP : P (g ++ [bz_co 5 [.inr (some (g.length + 1)), .inl 0, .inl 0], bz_ci 60 (fun _ => 0)])) : bz_cV G l (d + 1) kX5_init [.inr (some (g.length + 0))] (g ++ [bz_co 5 [.inr none, .inl 0, .inl 0]]) 1 60 P := by
  refine m_X5_init (mc := 0) (ms := 0) (g.length + 0) _ ?_
  unfold w_X5_init_0
  refine lp_an (m := 60) (n := 1) ⟨by decide, by decide⟩ (by decide) rfl (l' := [bz_co 5 [.inr none, .inl 0, .inl 0], bz_ci 60 (fun _ => 0)]) rfl ?_
  refine lp_wR (i := 0) h5 rfl (Nat.le_of_ble_eq_true rfl) (l' := [bz_co 5 [.inr (some (g.length + 1)), .inl 0, .inl 0], bz_ci 60 (fun _ => 0)]) rfl ?_
  exact ⟨rfl, hP⟩
set_option maxRecDepth 20000 in
set_option maxHeartbeats 4000000 in
theorem in_Tape (h5 : 5 ≤ g.length) (hP : P (g ++ [bz_co 6 [.inr (some (g.length + 1)), .inl 0, .inr (some (g.length + 2)), .inl 0, .inl 0, .inl 0, .inl 0, .inl 0], bz_ci 80 (fun _ => 0), bz_ci 80 (fun _ => 0)])) : bz_cV G l (d + 1) kX6_init [.inr (some (g.length + 0))] (g ++ [bz_co 6 [.inr none, .inl 0, .inr none, .inl 0, .inl 0, .inl 0, .inl 0, .inl 0]]) 2 160 P := by
  refine m_X6_init (mc := 0) (ms := 0) (g.length + 0) _ ?_
  unfold w_X6_init_0
  refine lp_an (m := 80) (n := 1) ⟨by decide, by decide⟩ (by decide) rfl (l' := [bz_co 6 [.inr none, .inl 0, .inr none, .inl 0, .inl 0, .inl 0, .inl 0, .inl 0], bz_ci 80 (fun _ => 0)]) rfl ?_
  refine lp_wR (i := 0) h5 rfl (Nat.le_of_ble_eq_true rfl) (l' := [bz_co 6 [.inr (some (g.length + 1)), .inl 0, .inr none, .inl 0, .inl 0, .inl 0, .inl 0, .inl 0], bz_ci 80 (fun _ => 0)]) rfl ?_
  refine lp_an (m := 80) (n := 2) ⟨by decide, by decide⟩ (by decide) rfl (l' := [bz_co 6 [.inr (some (g.length + 1)), .inl 0, .inr none, .inl 0, .inl 0, .inl 0, .inl 0, .inl 0], bz_ci 80 (fun _ => 0), bz_ci 80 (fun _ => 0)]) rfl ?_
  refine lp_wR (i := 0) h5 rfl (Nat.le_of_ble_eq_true rfl) (l' := [bz_co 6 [.inr (some (g.length + 1)), .inl 0, .inr (some (g.length + 2)), .inl 0, .inl 0, .inl 0, .inl 0, .inl 0], bz_ci 80 (fun _ => 0), bz_ci 80 (fun _ => 0)]) rfl ?_
  exact ⟨rfl, hP⟩
set_option maxRecDepth 20000 in
set_option maxHeartbeats 4000000 in
theorem in_Trip {r1 : Option Nat} (h5 : 5 ≤ g.length) (hP : P (g ++ [bz_co 9 [.inr r1, .inr (some (g.length + 1)), .inr (some (g.length + 2)), .inl 0, .inl 0, .inl 0, .inl 0, .inl 0, .inl 0, .inl 0, .inl 0], bz_ci 4 (fun _ => 0), bz_ci 4 (fun _ => 0)])) : bz_cV G l (d + 1) kX9_init [.inr (some (g.length + 0)), .inr r1] (g ++ [bz_co 9 [.inr none, .inr none, .inr none, .inl 0, .inl 0, .inl 0, .inl 0, .inl 0, .inl 0, .inl 0, .inl 0]]) 2 8 P := by
  refine m_X9_init (mc := 0) (ms := 0) (g.length + 0) r1 _ ?_
  unfold w_X9_init_0
  refine lp_an (m := 4) (n := 1) ⟨by decide, by decide⟩ (by decide) rfl (l' := [bz_co 9 [.inr none, .inr none, .inr none, .inl 0, .inl 0, .inl 0, .inl 0, .inl 0, .inl 0, .inl 0, .inl 0], bz_ci 4 (fun _ => 0)]) rfl ?_
  refine lp_wR (i := 0) h5 rfl (Nat.le_of_ble_eq_true rfl) (l' := [bz_co 9 [.inr none, .inr (some (g.length + 1)), .inr none, .inl 0, .inl 0, .inl 0, .inl 0, .inl 0, .inl 0, .inl 0, .inl 0], bz_ci 4 (fun _ => 0)]) rfl ?_
  refine lp_an (m := 4) (n := 2) ⟨by decide, by decide⟩ (by decide) rfl (l' := [bz_co 9 [.inr none, .inr (some (g.length + 1)), .inr none, .inl 0, .inl 0, .inl 0, .inl 0, .inl 0, .inl 0, .inl 0, .inl 0], bz_ci 4 (fun _ => 0), bz_ci 4 (fun _ => 0)]) rfl ?_
  refine lp_wR (i := 0) h5 rfl (Nat.le_of_ble_eq_true rfl) (l' := [bz_co 9 [.inr none, .inr (some (g.length + 1)), .inr (some (g.length + 2)), .inl 0, .inl 0, .inl 0, .inl 0, .inl 0, .inl 0, .inl 0, .inl 0], bz_ci 4 (fun _ => 0), bz_ci 4 (fun _ => 0)]) rfl ?_
  refine lp_wR (i := 0) h5 rfl (Nat.le_of_ble_eq_true rfl) (l' := [bz_co 9 [.inr r1, .inr (some (g.length + 1)), .inr (some (g.length + 2)), .inl 0, .inl 0, .inl 0, .inl 0, .inl 0, .inl 0, .inl 0, .inl 0], bz_ci 4 (fun _ => 0), bz_ci 4 (fun _ => 0)]) rfl ?_
  exact ⟨rfl, hP⟩
set_option maxRecDepth 20000 in
set_option maxHeartbeats 4000000 in
theorem in_Night {r1 r2 r3 : Option Nat} (h5 : 5 ≤ g.length) (hP : P (g ++ [bz_co 1 [.inr r1, .inr r2, .inr r3, .inr (some (g.length + 1)), .inr (some (g.length + 2)), .inr (some (g.length + 3)), .inr (some (g.length + 4)), .inl 0, .inl 0, .inl 0], bz_ci 12 (fun _ => 0), bz_ci 12 (fun _ => 0), bz_ci 12 (fun _ => 0), bz_ci 24 (fun _ => 0)])) : bz_cV G l (d + 1) kX1_init [.inr (some (g.length + 0)), .inr r1, .inr r2, .inr r3] (g ++ [bz_co 1 [.inr none, .inr none, .inr none, .inr none, .inr none, .inr none, .inr none, .inl 0, .inl 0, .inl 0]]) 4 60 P := by
  refine m_X1_init (mc := 0) (ms := 0) (g.length + 0) r1 r2 r3 _ ?_
  unfold w_X1_init_0
  refine lp_an (m := 12) (n := 1) ⟨by decide, by decide⟩ (by decide) rfl (l' := [bz_co 1 [.inr none, .inr none, .inr none, .inr none, .inr none, .inr none, .inr none, .inl 0, .inl 0, .inl 0], bz_ci 12 (fun _ => 0)]) rfl ?_
  refine lp_wR (i := 0) h5 rfl (Nat.le_of_ble_eq_true rfl) (l' := [bz_co 1 [.inr none, .inr none, .inr none, .inr (some (g.length + 1)), .inr none, .inr none, .inr none, .inl 0, .inl 0, .inl 0], bz_ci 12 (fun _ => 0)]) rfl ?_
  refine lp_an (m := 12) (n := 2) ⟨by decide, by decide⟩ (by decide) rfl (l' := [bz_co 1 [.inr none, .inr none, .inr none, .inr (some (g.length + 1)), .inr none, .inr none, .inr none, .inl 0, .inl 0, .inl 0], bz_ci 12 (fun _ => 0), bz_ci 12 (fun _ => 0)]) rfl ?_
  refine lp_wR (i := 0) h5 rfl (Nat.le_of_ble_eq_true rfl) (l' := [bz_co 1 [.inr none, .inr none, .inr none, .inr (some (g.length + 1)), .inr (some (g.length + 2)), .inr none, .inr none, .inl 0, .inl 0, .inl 0], bz_ci 12 (fun _ => 0), bz_ci 12 (fun _ => 0)]) rfl ?_
  refine lp_an (m := 12) (n := 3) ⟨by decide, by decide⟩ (by decide) rfl (l' := [bz_co 1 [.inr none, .inr none, .inr none, .inr (some (g.length + 1)), .inr (some (g.length + 2)), .inr none, .inr none, .inl 0, .inl 0, .inl 0], bz_ci 12 (fun _ => 0), bz_ci 12 (fun _ => 0), bz_ci 12 (fun _ => 0)]) rfl ?_
  refine lp_wR (i := 0) h5 rfl (Nat.le_of_ble_eq_true rfl) (l' := [bz_co 1 [.inr none, .inr none, .inr none, .inr (some (g.length + 1)), .inr (some (g.length + 2)), .inr (some (g.length + 3)), .inr none, .inl 0, .inl 0, .inl 0], bz_ci 12 (fun _ => 0), bz_ci 12 (fun _ => 0), bz_ci 12 (fun _ => 0)]) rfl ?_
  refine lp_an (m := 24) (n := 4) ⟨by decide, by decide⟩ (by decide) rfl (l' := [bz_co 1 [.inr none, .inr none, .inr none, .inr (some (g.length + 1)), .inr (some (g.length + 2)), .inr (some (g.length + 3)), .inr none, .inl 0, .inl 0, .inl 0], bz_ci 12 (fun _ => 0), bz_ci 12 (fun _ => 0), bz_ci 12 (fun _ => 0), bz_ci 24 (fun _ => 0)]) rfl ?_
  refine lp_wR (i := 0) h5 rfl (Nat.le_of_ble_eq_true rfl) (l' := [bz_co 1 [.inr none, .inr none, .inr none, .inr (some (g.length + 1)), .inr (some (g.length + 2)), .inr (some (g.length + 3)), .inr (some (g.length + 4)), .inl 0, .inl 0, .inl 0], bz_ci 12 (fun _ => 0), bz_ci 12 (fun _ => 0), bz_ci 12 (fun _ => 0), bz_ci 24 (fun _ => 0)]) rfl ?_
  refine lp_wR (i := 0) h5 rfl (Nat.le_of_ble_eq_true rfl) (l' := [bz_co 1 [.inr r1, .inr none, .inr none, .inr (some (g.length + 1)), .inr (some (g.length + 2)), .inr (some (g.length + 3)), .inr (some (g.length + 4)), .inl 0, .inl 0, .inl 0], bz_ci 12 (fun _ => 0), bz_ci 12 (fun _ => 0), bz_ci 12 (fun _ => 0), bz_ci 24 (fun _ => 0)]) rfl ?_
  refine lp_wR (i := 0) h5 rfl (Nat.le_of_ble_eq_true rfl) (l' := [bz_co 1 [.inr r1, .inr r2, .inr none, .inr (some (g.length + 1)), .inr (some (g.length + 2)), .inr (some (g.length + 3)), .inr (some (g.length + 4)), .inl 0, .inl 0, .inl 0], bz_ci 12 (fun _ => 0), bz_ci 12 (fun _ => 0), bz_ci 12 (fun _ => 0), bz_ci 24 (fun _ => 0)]) rfl ?_
  refine lp_wR (i := 0) h5 rfl (Nat.le_of_ble_eq_true rfl) (l' := [bz_co 1 [.inr r1, .inr r2, .inr r3, .inr (some (g.length + 1)), .inr (some (g.length + 2)), .inr (some (g.length + 3)), .inr (some (g.length + 4)), .inl 0, .inl 0, .inl 0], bz_ci 12 (fun _ => 0), bz_ci 12 (fun _ => 0), bz_ci 12 (fun _ => 0), bz_ci 24 (fun _ => 0)]) rfl ?_
  exact ⟨rfl, hP⟩
theorem in_Rows {x1 : Int32} {m : Nat} (hm : (3 * x1).toNatClampNeg = m) (h0 : ¬ 3 * x1 < 0) (h72 : m ≤ 72) (h5 : 5 ≤ g.length) (hP : P (g ++ [bz_co 4 [.inr (some (g.length + 1)), .inl 0], bz_ci m (fun _ => 0)])) : bz_cV G l (d + 1) kX4_init [.inr (some (g.length + 0)), .inl x1] (g ++ [bz_co 4 [.inr none, .inl 0]]) 1 72 P := by
  refine m_X4_init (mc := 0) (ms := 0) (g.length + 0) x1 _ ?_
  unfold w_X4_init_0
  refine lp_an (m := m) (n := 1) ⟨h0, by omega⟩ hm rfl (l' := [bz_co 4 [.inr none, .inl 0], bz_ci m (fun _ => 0)]) rfl ?_
  refine lp_wR (i := 0) h5 rfl (Nat.le_of_ble_eq_true rfl) (l' := [bz_co 4 [.inr (some (g.length + 1)), .inl 0], bz_ci m (fun _ => 0)]) rfl ?_
  exact ⟨rfl, hP⟩
theorem in_Order (hP : P g) (a : Nat) : bz_cV G l (d + 1) kX2_init [.inr (some a)] g 0 0 P := by
  refine m_X2_init (mc := 0) (ms := 0) a _ ?_
  exact ⟨rfl, hP⟩
theorem in_fillJ {κ : bz_K} {bc bs i m : Nat} {ls : bz_H} {v : Int32} (hm : m < 100000) (h5 : 5 ≤ g.length) (hP : ∀ (f : Nat → Int32), (∀ j, j < m → f j = v) → P (g ++ ls.set i (bz_ci m f))) : ∀ (n q : Nat) (f : Nat → Int32), m ≤ q + n → q ≤ m → ls[i]? = some (bz_ci m f) → (∀ j, j < q → f j = v) → bz_J G κ kJ7_fill_53178 (d + 1) (fun v' h' => v' = none ∧ P h') bc bs 5 [some (.inr (some (g.length + i))), some (.inl v), some (.inl (nI q)), some (.inl (Int32.ofNat m))] [] (g ++ ls) := by
  intro n
  induction n generalizing ls with
  | zero =>
    intro q f h1 h2 hl hf
    have hq : q = m := by omega
    subst hq
    refine g_J7_fill_53178_5 rfl _ _ _ _ _ ⟨fun _ => ⟨rfl, ?_⟩, fun c => absurd (show nI q ≤ nI q from Int32.le_refl _) c⟩
    have := hP f hf
    rwa [List.set_getElem?_self hl] at this
  | succ n ih =>
    intro q f h1 h2 hl hf
    refine g_J7_fill_53178_5 rfl _ _ _ _ _ ⟨fun c => ⟨rfl, ?_⟩, fun c => ?_⟩
    · have hq : q = m := by
        have := (nI_leI (a := m) (b := q) (by omega) (by omega)).mp c
        omega
      subst hq
      have := hP f hf
      rwa [List.set_getElem?_self hl] at this
    · have hq : q < m := by
        rcases Nat.lt_or_ge q m with h | h
        · exact h
        · exact absurd ((nI_leI (a := m) (b := q) (by omega) (by omega)).mpr h) c
      refine ap_nn (lp_wA h5 hl (vp_in_nI hq (by omega)) rfl ?_)
      have hil : i < ls.length := (List.getElem?_eq_some_iff.mp hl).1
      rw [nI_clamp (by omega), nI_1]
      refine ih (ls := ls.set i (bz_ci m (upd f q v))) (fun f' hf' => ?_) (q + 1) (upd f q v) (by omega) (by omega) (List.getElem?_set_self hil) (fun j hj => ?_)
      · rw [List.set_set]
        exact hP f' hf'
      · by_cases hjq : j = q
        · rw [hjq]; exact pk_us
        · rw [pk_un hjq]; exact hf j (by omega)
theorem in_fill {i m : Nat} {ls : bz_H} {f0 : Nat → Int32} {v : Int32} (hm : m < 100000) (h5 : 5 ≤ g.length) (hl : ls[i]? = some (bz_ci m f0)) (hP : ∀ (f : Nat → Int32), (∀ j, j < m → f j = v) → P (g ++ ls.set i (bz_ci m f))) : bz_cV G l (d + 1) kJ7_fill_53178 [.inr (some (g.length + i)), .inl v] (g ++ ls) 0 0 P := by
  refine m_J7_fill_53178 (mc := 0) (ms := 0) (some (g.length + i)) v _ (fun κ bc bs hl' => ?_)
  unfold w_J7_fill_53178_0
  refine ap_nn (lp_rN h5 hl ?_)
  exact in_fillJ hm h5 hP m 0 f0 (by omega) (by omega) hl (fun j hj => absurd hj (by omega))
end INI
