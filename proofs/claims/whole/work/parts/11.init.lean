/-! constructors: heaps of the form g ++ l, l being written out -/
section LP
variable {g l l' : bz_H} {n i ci k N m : Nat}
theorem lp_al {c : bz_C} {P : Nat → bz_H → Prop} (hn : l.length = n) (e : l ++ [c] = l') (hP : P (g.length + n) (g ++ l')) : bz_al (g ++ l) c P := by
  subst hn; subst e
  unfold bz_al
  rw [List.length_append, List.append_assoc]
  exact hP
theorem lp_an {j : Int32} {P : Nat → bz_H → Prop} (hj : ¬ j < 0 ∧ j.toNatClampNeg ≤ N) (hm : j.toNatClampNeg = m) (hn : l.length = n) (e : l ++ [bz_ci m (fun _ => 0)] = l') (hP : P (g.length + n) (g ++ l')) : bz_an (g ++ l) j N P := by
  subst hn; subst e; subst hm
  refine ⟨hj, ?_⟩
  rw [List.length_append, List.append_assoc]
  exact hP
theorem lp_aq {j : Int32} {t : Nat} {P : Nat → bz_H → Prop} (hj : ¬ j < 0 ∧ j.toNatClampNeg ≤ N) (hm : j.toNatClampNeg = m) (hn : l.length = n) (e : l ++ [bz_cr t m (fun _ => none)] = l') (hP : P (g.length + n) (g ++ l')) : bz_aq (g ++ l) t j N P := by
  subst hn; subst e; subst hm
  refine ⟨hj, ?_⟩
  rw [List.length_append, List.append_assoc]
  exact hP
theorem lp_get (i : Nat) : (g ++ l)[g.length + i]? = l[i]? := by
  rw [List.getElem?_append_right (by omega)]
  congr 1
  omega
theorem lp_set (i : Nat) (c : bz_C) : (g ++ l).set (g.length + i) c = g ++ l.set i c := by
  rw [List.set_append_right _ _ (by omega)]
  congr 2
  omega
theorem lp_wR {fs : List bz_V} {v : Option Nat} {P : bz_H → Prop} (h5 : 5 ≤ g.length) (h : l[i]? = some (bz_co ci fs)) (hk : k < fs.length) (e : l.set i (bz_co ci (fs.set k (.inr v))) = l') (hP : P (g ++ l')) : bz_wR (g ++ l) (g.length + i) ci k v P := by
  subst e
  exact ⟨fs, by show 5 ≤ _; omega, by rw [lp_get]; exact h, hk, by rw [lp_set]; exact hP⟩
theorem lp_wI {fs : List bz_V} {v : Int32} {P : bz_H → Prop} (h5 : 5 ≤ g.length) (h : l[i]? = some (bz_co ci fs)) (hk : k < fs.length) (e : l.set i (bz_co ci (fs.set k (.inl v))) = l') (hP : P (g ++ l')) : bz_wI (g ++ l) (g.length + i) ci k v P := by
  subst e
  exact ⟨fs, by show 5 ≤ _; omega, by rw [lp_get]; exact h, hk, by rw [lp_set]; exact hP⟩
theorem lp_rR {fs : List bz_V} {v : Option Nat} {P : Option Nat → Prop} (h5 : 5 ≤ g.length) (h : l[i]? = some (bz_co ci fs)) (hk : fs[k]? = some (.inr v)) (hP : P v) : bz_rR (g ++ l) (g.length + i) ci k P :=
  ⟨fs, v, by show 5 ≤ _; omega, by rw [lp_get]; exact h, hk, hP⟩
theorem lp_wA {f : Nat → Int32} {j v : Int32} {P : bz_H → Prop} (h5 : 5 ≤ g.length) (h : l[i]? = some (bz_ci m f)) (hin : vp_in j m) (e : l.set i (bz_ci m (upd f j.toNatClampNeg v)) = l') (hP : P (g ++ l')) : bz_wA (g ++ l) (g.length + i) j v P := by
  subst e
  exact ⟨m, f, by show 5 ≤ _; omega, by rw [lp_get]; exact h, hin, by rw [lp_set]; exact hP⟩
theorem lp_rN {f : Nat → Int32} {P : Int32 → Prop} (h5 : 5 ≤ g.length) (h : l[i]? = some (bz_ci m f)) (hP : P (Int32.ofNat m)) : bz_rN (g ++ l) (g.length + i) P :=
  ⟨m, f, Or.inr (by show 5 ≤ _; omega), by rw [lp_get]; exact h, hP⟩
theorem lp_wQ {f : Nat → Option Nat} {j : Int32} {t b : Nat} {fs : List bz_V} {P : bz_H → Prop} (h5 : 5 ≤ g.length) (h : l[i]? = some (bz_cr t m f)) (ht : 1 ≤ t ∧ t ≤ 4) (hin : vp_in j m) (hb : l[b]? = some (bz_co (bz_tcl t) fs)) (e : l.set i (bz_cr t m (va_up f j.toNatClampNeg (some (g.length + b)))) = l') (hP : P (g ++ l')) : bz_wQ (g ++ l) (g.length + i) j (some (g.length + b)) P := by
  subst e
  exact ⟨t, m, f, by show 5 ≤ _; omega, by rw [lp_get]; exact h, ht, hin, fun b' e' => by cases e'; exact ⟨by show 5 ≤ _; omega, fs, by rw [lp_get]; exact hb⟩, by rw [lp_set]; exact hP⟩
end LP
section INI
variable {G : bz_G} {l : Launch} {d : Nat} {g : bz_H} {P : bz_H → Prop}
theorem lp_self {h : bz_H} {i : Nat} {c : bz_C} (e : h[i]? = some c) : h.set i c = h := by
  have hl := (List.getElem?_eq_some_iff.mp e).1
  apply List.ext_getElem?
  intro j
  by_cases hj : j = i
  · subst hj
    rw [List.getElem?_set_self hl, e]
  · rw [List.getElem?_set_ne (Ne.symm hj)]
set_option maxRecDepth 20000 in
set_option maxHeartbeats 4000000 in
theorem in_Names (h5 : 5 ≤ g.length) (hP : P (g ++ [bz_co 0 [.inr (some (g.length + 1)), .inr (some (g.length + 2))], bz_ci 7 (fun _ => 0), bz_ci 80 (fun _ => 0)])) : bz_cV G l (d + 1) kX0_init [.inr (some (g.length + 0))] (g ++ [bz_co 0 [.inr none, .inr none]]) 2 87 P := by
  refine m_X0_init (mc := 0) (ms := 0) (g.length + 0) _ ?_
  unfold w_X0_init_0
  refine lp_an (m := 7) (n := 1) ⟨by decide, by decide⟩ (by decide) rfl (l' := [bz_co 0 [.inr none, .inr none], bz_ci 7 (fun _ => 0)]) rfl ?_
  refine lp_wR (i := 0) h5 rfl (Nat.le_of_ble_eq_true rfl) (l' := [bz_co 0 [.inr (some (g.length + 1)), .inr none], bz_ci 7 (fun _ => 0)]) rfl ?_
  refine lp_an (m := 80) (n := 2) ⟨by decide, by decide⟩ (by decide) rfl (l' := [bz_co 0 [.inr (some (g.length + 1)), .inr none], bz_ci 7 (fun _ => 0), bz_ci 80 (fun _ => 0)]) rfl ?_
  refine lp_wR (i := 0) h5 rfl (Nat.le_of_ble_eq_true rfl) (l' := [bz_co 0 [.inr (some (g.length + 1)), .inr (some (g.length + 2))], bz_ci 7 (fun _ => 0), bz_ci 80 (fun _ => 0)]) rfl ?_
  exact ⟨rfl, hP⟩
theorem in_Names' {l1 : bz_H} {n : Nat} (hn : l1.length = n) (h5 : 5 ≤ g.length) (hP : P (g ++ (l1 ++ [bz_co 0 [.inr (some (g.length + (n + 1))), .inr (some (g.length + (n + 2)))], bz_ci 7 (fun _ => 0), bz_ci 80 (fun _ => 0)]))) : bz_cV G l (d + 1) kX0_init [.inr (some (g.length + n))] (g ++ (l1 ++ [bz_co 0 [.inr none, .inr none]])) 2 87 P := by
  subst hn
  have hr := in_Names (G := G) (l := l) (d := d) (g := g ++ l1) (P := P)  (by rw [List.length_append]; omega) (by rw [List.length_append, List.append_assoc]; simp only [Nat.add_assoc]; exact hP)
  rw [List.length_append, List.append_assoc, Nat.add_zero] at hr
  exact hr
set_option maxRecDepth 20000 in
set_option maxHeartbeats 4000000 in
theorem in_Sheet (h5 : 5 ≤ g.length) (hP : P (g ++ [bz_co 5 [.inr (some (g.length + 1)), .inl 0, .inl 0], bz_ci 60 (fun _ => 0)])) : bz_cV G l (d + 1) kX5_init [.inr (some (g.length + 0))] (g ++ [bz_co 5 [.inr none, .inl 0, .inl 0]]) 1 60 P := by
  refine m_X5_init (mc := 0) (ms := 0) (g.length + 0) _ ?_
  unfold w_X5_init_0
  refine lp_an (m := 60) (n := 1) ⟨by decide, by decide⟩ (by decide) rfl (l' := [bz_co 5 [.inr none, .inl 0, .inl 0], bz_ci 60 (fun _ => 0)]) rfl ?_
  refine lp_wR (i := 0) h5 rfl (Nat.le_of_ble_eq_true rfl) (l' := [bz_co 5 [.inr (some (g.length + 1)), .inl 0, .inl 0], bz_ci 60 (fun _ => 0)]) rfl ?_
  exact ⟨rfl, hP⟩
theorem in_Sheet' {l1 : bz_H} {n : Nat} (hn : l1.length = n) (h5 : 5 ≤ g.length) (hP : P (g ++ (l1 ++ [bz_co 5 [.inr (some (g.length + (n + 1))), .inl 0, .inl 0], bz_ci 60 (fun _ => 0)]))) : bz_cV G l (d + 1) kX5_init [.inr (some (g.length + n))] (g ++ (l1 ++ [bz_co 5 [.inr none, .inl 0, .inl 0]])) 1 60 P := by
  subst hn
  have hr := in_Sheet (G := G) (l := l) (d := d) (g := g ++ l1) (P := P)  (by rw [List.length_append]; omega) (by rw [List.length_append, List.append_assoc]; simp only [Nat.add_assoc]; exact hP)
  rw [List.length_append, List.append_assoc, Nat.add_zero] at hr
  exact hr
set_option maxRecDepth 20000 in
set_option maxHeartbeats 4000000 in
theorem in_Tape (h5 : 5 ≤ g.length) (hP : P (g ++ [bz_co 6 [.inr (some (g.length + 1)), .inl 0, .inr (some (g.length + 2)), .inl 0, .inl 0, .inl 0, .inl 0, .inl 0], bz_ci 80 (fun _ => 0), bz_ci 80 (fun _ => 0)])) : bz_cV G l (d + 1) kX6_init [.inr (some (g.length + 0))] (g ++ [bz_co 6 [.inr none, .inl 0, .inr none, .inl 0, .inl 0, .inl 0, .inl 0, .inl 0]]) 2 160 P := by
  refine m_X6_init (mc := 0) (ms := 0) (g.length + 0) _ ?_
  unfold w_X6_init_0
  refine lp_an (m := 80) (n := 1) ⟨by decide, by decide⟩ (by decide) rfl (l' := [bz_co 6 [.inr none, .inl 0, .inr none, .inl 0, .inl 0, .inl 0, .inl 0, .inl 0], bz_ci 80 (fun _ => 0)]) rfl ?_
  refine lp_wR (i := 0) h5 rfl (Nat.le_of_ble_eq_true rfl) (l' := [bz_co 6 [.inr (some (g.length + 1)), .inl 0, .inr none, .inl 0, .inl 0, .inl 0, .inl 0, .inl 0], bz_ci 80 (fun _ => 0)]) rfl ?_
  refine lp_an (m := 80) (n := 2) ⟨by decide, by decide⟩ (by decide) rfl (l' := [bz_co 6 [.inr (some (g.length + 1)), .inl 0, .inr none, .inl 0, .inl 0, .inl 0, .inl 0, .inl 0], bz_ci 80 (fun _ => 0), bz_ci 80 (fun _ => 0)]) rfl ?_
  refine lp_wR (i := 0) h5 rfl (Nat.le_of_ble_eq_true rfl) (l' := [bz_co 6 [.inr (some (g.length + 1)), .inl 0, .inr (some (g.length + 2)), .inl 0, .inl 0, .inl 0, .inl 0, .inl 0], bz_ci 80 (fun _ => 0), bz_ci 80 (fun _ => 0)]) rfl ?_
  exact ⟨rfl, hP⟩
theorem in_Tape' {l1 : bz_H} {n : Nat} (hn : l1.length = n) (h5 : 5 ≤ g.length) (hP : P (g ++ (l1 ++ [bz_co 6 [.inr (some (g.length + (n + 1))), .inl 0, .inr (some (g.length + (n + 2))), .inl 0, .inl 0, .inl 0, .inl 0, .inl 0], bz_ci 80 (fun _ => 0), bz_ci 80 (fun _ => 0)]))) : bz_cV G l (d + 1) kX6_init [.inr (some (g.length + n))] (g ++ (l1 ++ [bz_co 6 [.inr none, .inl 0, .inr none, .inl 0, .inl 0, .inl 0, .inl 0, .inl 0]])) 2 160 P := by
  subst hn
  have hr := in_Tape (G := G) (l := l) (d := d) (g := g ++ l1) (P := P)  (by rw [List.length_append]; omega) (by rw [List.length_append, List.append_assoc]; simp only [Nat.add_assoc]; exact hP)
  rw [List.length_append, List.append_assoc, Nat.add_zero] at hr
  exact hr
set_option maxRecDepth 20000 in
set_option maxHeartbeats 4000000 in
theorem in_Trip {r1 : Option Nat} (h5 : 5 ≤ g.length) (hP : P (g ++ [bz_co 9 [.inr r1, .inr (some (g.length + 1)), .inr (some (g.length + 2)), .inl 0, .inl 0, .inl 0, .inl 0, .inl 0, .inl 0, .inl 0, .inl 0], bz_ci 4 (fun _ => 0), bz_ci 4 (fun _ => 0)])) : bz_cV G l (d + 1) kX9_init [.inr (some (g.length + 0)), .inr r1] (g ++ [bz_co 9 [.inr none, .inr none, .inr none, .inl 0, .inl 0, .inl 0, .inl 0, .inl 0, .inl 0, .inl 0, .inl 0]]) 2 8 P := by
  refine m_X9_init (mc := 0) (ms := 0) (g.length + 0) r1 _ ?_
  unfold w_X9_init_0
  refine lp_an (m := 4) (n := 1) ⟨by decide, by decide⟩ (by decide) rfl (l' := [bz_co 9 [.inr none, .inr none, .inr none, .inl 0, .inl 0, .inl 0, .inl 0, .inl 0, .inl 0, .inl 0, .inl 0], bz_ci 4 (fun _ => 0)]) rfl ?_
  refine lp_wR (i := 0) h5 rfl (Nat.le_of_ble_eq_true rfl) (l' := [bz_co 9 [.inr none, .inr (some (g.length + 1)), .inr none, .inl 0, .inl 0, .inl 0, .inl 0, .inl 0, .inl 0, .inl 0, .inl 0], bz_ci 4 (fun _ => 0)]) rfl ?_
  refine lp_an (m := 4) (n := 2) ⟨by decide, by decide⟩ (by decide) rfl (l' := [bz_co 9 [.inr none, .inr (some (g.length + 1)), .inr none, .inl 0, .inl 0, .inl 0, .inl 0, .inl 0, .inl 0, .inl 0, .inl 0], bz_ci 4 (fun _ => 0), bz_ci 4 (fun _ => 0)]) rfl ?_
  refine lp_wR (i := 0) h5 rfl (Nat.le_of_ble_eq_true rfl) (l' := [bz_co 9 [.inr none, .inr (some (g.length + 1)), .inr (some (g.length + 2)), .inl 0, .inl 0, .inl 0, .inl 0, .inl 0, .inl 0, .inl 0, .inl 0], bz_ci 4 (fun _ => 0), bz_ci 4 (fun _ => 0)]) rfl ?_
  refine lp_wR (i := 0) h5 rfl (Nat.le_of_ble_eq_true rfl) (l' := [bz_co 9 [.inr r1, .inr (some (g.length + 1)), .inr (some (g.length + 2)), .inl 0, .inl 0, .inl 0, .inl 0, .inl 0, .inl 0, .inl 0, .inl 0], bz_ci 4 (fun _ => 0), bz_ci 4 (fun _ => 0)]) rfl ?_
  exact ⟨rfl, hP⟩
theorem in_Trip' {l1 : bz_H} {n : Nat} {r1 : Option Nat} (hn : l1.length = n) (h5 : 5 ≤ g.length) (hP : P (g ++ (l1 ++ [bz_co 9 [.inr r1, .inr (some (g.length + (n + 1))), .inr (some (g.length + (n + 2))), .inl 0, .inl 0, .inl 0, .inl 0, .inl 0, .inl 0, .inl 0, .inl 0], bz_ci 4 (fun _ => 0), bz_ci 4 (fun _ => 0)]))) : bz_cV G l (d + 1) kX9_init [.inr (some (g.length + n)), .inr r1] (g ++ (l1 ++ [bz_co 9 [.inr none, .inr none, .inr none, .inl 0, .inl 0, .inl 0, .inl 0, .inl 0, .inl 0, .inl 0, .inl 0]])) 2 8 P := by
  subst hn
  have hr := in_Trip (G := G) (l := l) (d := d) (g := g ++ l1) (P := P) (r1 := r1) (by rw [List.length_append]; omega) (by rw [List.length_append, List.append_assoc]; simp only [Nat.add_assoc]; exact hP)
  rw [List.length_append, List.append_assoc, Nat.add_zero] at hr
  exact hr
set_option maxRecDepth 20000 in
set_option maxHeartbeats 4000000 in
theorem in_Night {r1 r2 r3 : Option Nat} (h5 : 5 ≤ g.length) (hP : P (g ++ [bz_co 1 [.inr r1, .inr r2, .inr r3, .inr (some (g.length + 1)), .inr (some (g.length + 2)), .inr (some (g.length + 3)), .inr (some (g.length + 4)), .inl 0, .inl 0, .inl 0], bz_ci 12 (fun _ => 0), bz_ci 12 (fun _ => 0), bz_ci 12 (fun _ => 0), bz_ci 24 (fun _ => 0)])) : bz_cV G l (d + 1) kX1_init [.inr (some (g.length + 0)), .inr r1, .inr r2, .inr r3] (g ++ [bz_co 1 [.inr none, .inr none, .inr none, .inr none, .inr none, .inr none, .inr none, .inl 0, .inl 0, .inl 0]]) 4 60 P := by
  refine m_X1_init (mc := 0) (ms := 0) (g.length + 0) r1 r2 r3 _ ?_
  unfold w_X1_init_0
  refine lp_an (m := 12) (n := 1) ⟨by decide, by decide⟩ (by decide) rfl (l' := [bz_co 1 [.inr none, .inr none, .inr none, .inr none, .inr none, .inr none, .inr none, .inl 0, .inl 0, .inl 0], bz_ci 12 (fun _ => 0)]) rfl ?_
  refine lp_wR (i := 0) h5 rfl (Nat.le_of_ble_eq_true rfl) (l' := [bz_co 1 [.inr none, .inr none, .inr none, .inr (some (g.length + 1)), .inr none, .inr none, .inr none, .inl 0, .inl 0, .inl 0], bz_ci 12 (fun _ => 0)]) rfl ?_
  refine lp_an (m := 12) (n := 2) ⟨by decide, by decide⟩ (by decide) rfl (l' := [bz_co 1 [.inr none, .inr none, .inr none, .inr (some (g.length + 1)), .inr none, .inr none, .inr none, .inl 0, .inl 0, .inl 0], bz_ci 12 (fun _ => 0), bz_ci 12 (fun _ => 0)]) rfl ?_
  refine lp_wR (i := 0) h5 rfl (Nat.le_of_ble_eq_true rfl) (l' := [bz_co 1 [.inr none, .inr none, .inr none, .inr (some (g.length + 1)), .inr (some (g.length + 2)), .inr none, .inr none, .inl 0, .inl 0, .inl 0], bz_ci 12 (fun _ => 0), bz_ci 12 (fun _ => 0)]) rfl ?_
  refine lp_an (m := 12) (n := 3) ⟨by decide, by decide⟩ (by decide) rfl (l' := [bz_co 1 [.inr none, .inr none, .inr none, .inr (some (g.length + 1)), .inr (some (g.length + 2)), .inr none, .inr none, .inl 0, .inl 0, .inl 0], bz_ci 12 (fun _ => 0), bz_ci 12 (fun _ => 0), bz_ci 12 (fun _ => 0)]) rfl ?_
  refine lp_wR (i := 0) h5 rfl (Nat.le_of_ble_eq_true rfl) (l' := [bz_co 1 [.inr none, .inr none, .inr none, .inr (some (g.length + 1)), .inr (some (g.length + 2)), .inr (some (g.length + 3)), .inr none, .inl 0, .inl 0, .inl 0], bz_ci 12 (fun _ => 0), bz_ci 12 (fun _ => 0), bz_ci 12 (fun _ => 0)]) rfl ?_
  refine lp_an (m := 24) (n := 4) ⟨by decide, by decide⟩ (by decide) rfl (l' := [bz_co 1 [.inr none, .inr none, .inr none, .inr (some (g.length + 1)), .inr (some (g.length + 2)), .inr (some (g.length + 3)), .inr none, .inl 0, .inl 0, .inl 0], bz_ci 12 (fun _ => 0), bz_ci 12 (fun _ => 0), bz_ci 12 (fun _ => 0), bz_ci 24 (fun _ => 0)]) rfl ?_
  refine lp_wR (i := 0) h5 rfl (Nat.le_of_ble_eq_true rfl) (l' := [bz_co 1 [.inr none, .inr none, .inr none, .inr (some (g.length + 1)), .inr (some (g.length + 2)), .inr (some (g.length + 3)), .inr (some (g.length + 4)), .inl 0, .inl 0, .inl 0], bz_ci 12 (fun _ => 0), bz_ci 12 (fun _ => 0), bz_ci 12 (fun _ => 0), bz_ci 24 (fun _ => 0)]) rfl ?_
  refine lp_wR (i := 0) h5 rfl (Nat.le_of_ble_eq_true rfl) (l' := [bz_co 1 [.inr r1, .inr none, .inr none, .inr (some (g.length + 1)), .inr (some (g.length + 2)), .inr (some (g.length + 3)), .inr (some (g.length + 4)), .inl 0, .inl 0, .inl 0], bz_ci 12 (fun _ => 0), bz_ci 12 (fun _ => 0), bz_ci 12 (fun _ => 0), bz_ci 24 (fun _ => 0)]) rfl ?_
  refine lp_wR (i := 0) h5 rfl (Nat.le_of_ble_eq_true rfl) (l' := [bz_co 1 [.inr r1, .inr r2, .inr none, .inr (some (g.length + 1)), .inr (some (g.length + 2)), .inr (some (g.length + 3)), .inr (some (g.length + 4)), .inl 0, .inl 0, .inl 0], bz_ci 12 (fun _ => 0), bz_ci 12 (fun _ => 0), bz_ci 12 (fun _ => 0), bz_ci 24 (fun _ => 0)]) rfl ?_
  refine lp_wR (i := 0) h5 rfl (Nat.le_of_ble_eq_true rfl) (l' := [bz_co 1 [.inr r1, .inr r2, .inr r3, .inr (some (g.length + 1)), .inr (some (g.length + 2)), .inr (some (g.length + 3)), .inr (some (g.length + 4)), .inl 0, .inl 0, .inl 0], bz_ci 12 (fun _ => 0), bz_ci 12 (fun _ => 0), bz_ci 12 (fun _ => 0), bz_ci 24 (fun _ => 0)]) rfl ?_
  exact ⟨rfl, hP⟩
theorem in_Night' {l1 : bz_H} {n : Nat} {r1 r2 r3 : Option Nat} (hn : l1.length = n) (h5 : 5 ≤ g.length) (hP : P (g ++ (l1 ++ [bz_co 1 [.inr r1, .inr r2, .inr r3, .inr (some (g.length + (n + 1))), .inr (some (g.length + (n + 2))), .inr (some (g.length + (n + 3))), .inr (some (g.length + (n + 4))), .inl 0, .inl 0, .inl 0], bz_ci 12 (fun _ => 0), bz_ci 12 (fun _ => 0), bz_ci 12 (fun _ => 0), bz_ci 24 (fun _ => 0)]))) : bz_cV G l (d + 1) kX1_init [.inr (some (g.length + n)), .inr r1, .inr r2, .inr r3] (g ++ (l1 ++ [bz_co 1 [.inr none, .inr none, .inr none, .inr none, .inr none, .inr none, .inr none, .inl 0, .inl 0, .inl 0]])) 4 60 P := by
  subst hn
  have hr := in_Night (G := G) (l := l) (d := d) (g := g ++ l1) (P := P) (r1 := r1) (r2 := r2) (r3 := r3) (by rw [List.length_append]; omega) (by rw [List.length_append, List.append_assoc]; simp only [Nat.add_assoc]; exact hP)
  rw [List.length_append, List.append_assoc, Nat.add_zero] at hr
  exact hr
theorem in_Rows {x1 : Int32} {m : Nat} (hm : (3 * x1).toNatClampNeg = m) (h0 : ¬ 3 * x1 < 0) (h72 : m ≤ 72) (h5 : 5 ≤ g.length) (hP : P (g ++ [bz_co 4 [.inr (some (g.length + 1)), .inl 0], bz_ci m (fun _ => 0)])) : bz_cV G l (d + 1) kX4_init [.inr (some (g.length + 0)), .inl x1] (g ++ [bz_co 4 [.inr none, .inl 0]]) 1 72 P := by
  refine m_X4_init (mc := 0) (ms := 0) (g.length + 0) x1 _ ?_
  unfold w_X4_init_0
  refine lp_an (m := m) (n := 1) ⟨h0, by omega⟩ hm rfl (l' := [bz_co 4 [.inr none, .inl 0], bz_ci m (fun _ => 0)]) rfl ?_
  refine lp_wR (i := 0) h5 rfl (Nat.le_of_ble_eq_true rfl) (l' := [bz_co 4 [.inr (some (g.length + 1)), .inl 0], bz_ci m (fun _ => 0)]) rfl ?_
  exact ⟨rfl, hP⟩
theorem in_Rows' {l1 : bz_H} {n : Nat} {x1 : Int32} {m : Nat} (hn : l1.length = n) (hm : (3 * x1).toNatClampNeg = m) (h0 : ¬ 3 * x1 < 0) (h72 : m ≤ 72) (h5 : 5 ≤ g.length) (hP : P (g ++ (l1 ++ [bz_co 4 [.inr (some (g.length + (n + 1))), .inl 0], bz_ci m (fun _ => 0)]))) : bz_cV G l (d + 1) kX4_init [.inr (some (g.length + n)), .inl x1] (g ++ (l1 ++ [bz_co 4 [.inr none, .inl 0]])) 1 72 P := by
  subst hn
  have hr := in_Rows (G := G) (l := l) (d := d) (g := g ++ l1) (P := P) hm h0 h72 (by rw [List.length_append]; omega) (by rw [List.length_append, List.append_assoc, Nat.add_assoc]; exact hP)
  rw [List.length_append, List.append_assoc, Nat.add_zero] at hr
  exact hr
theorem in_Order (hP : P g) (a : Nat) : bz_cV G l (d + 1) kX2_init [.inr (some a)] g 0 0 P := by
  refine m_X2_init (mc := 0) (ms := 0) a _ ?_
  exact ⟨rfl, hP⟩
theorem in_fillJ {κ : bz_K} {bc bs i m : Nat} {ls : bz_H} {v : Int32} (hm : m < 100000) (h5 : 5 ≤ g.length) (hP : ∀ (f : Nat → Int32), (∀ j, j < m → f j = v) → P (g ++ ls.set i (bz_ci m f))) : ∀ (n q : Nat) (f : Nat → Int32), m ≤ q + n → q ≤ m → ls[i]? = some (bz_ci m f) → (∀ j, j < q → f j = v) → bz_J G κ kJ7_fill_53178 (d + 1) (fun v' h' => v' = none ∧ P h') bc bs 5 [some (.inr (some (g.length + i))), some (.inl v), some (.inl (nI q)), some (.inl (Int32.ofNat m))] [] (g ++ ls) := by
  intro n
  induction n generalizing ls with
  | zero =>
    intro q f h1 h2 hl hf
    have hq : q = m := by omega
    subst hq
    refine g_J7_fill_53178_5 rfl _ _ _ _ _ ⟨fun _ => ⟨rfl, ?_⟩, fun c => absurd (show nI q ≤ nI q from Int32.le_refl _) c⟩
    have := hP f hf
    rwa [lp_self hl] at this
  | succ n ih =>
    intro q f h1 h2 hl hf
    refine g_J7_fill_53178_5 rfl _ _ _ _ _ ⟨fun c => ⟨rfl, ?_⟩, fun c => ?_⟩
    · have hq : q = m := by
        have := (nI_leI (a := m) (b := q) (by omega) (by omega)).mp c
        omega
      subst hq
      have := hP f hf
      rwa [lp_self hl] at this
    · have hq : q < m := by
        rcases Nat.lt_or_ge q m with h | h
        · exact h
        · exact absurd ((nI_leI (a := m) (b := q) (by omega) (by omega)).mpr h) c
      refine ap_nn (lp_wA h5 hl (vp_in_nI hq (by omega)) rfl ?_)
      have hil : i < ls.length := (List.getElem?_eq_some_iff.mp hl).1
      rw [nI_clamp (by omega), nI_1]
      refine ih (ls := ls.set i (bz_ci m (upd f q v))) (fun f' hf' => ?_) (q + 1) (upd f q v) (by omega) (by omega) (List.getElem?_set_self hil) (fun j hj => ?_)
      · rw [List.set_set]
        exact hP f' hf'
      · by_cases hjq : j = q
        · rw [hjq]; exact pk_us
        · rw [pk_un hjq]; exact hf j (by omega)
theorem in_fill {i m : Nat} {ls : bz_H} {f0 : Nat → Int32} {v : Int32} (hm : m < 100000) (h5 : 5 ≤ g.length) (hl : ls[i]? = some (bz_ci m f0)) (hP : ∀ (f : Nat → Int32), (∀ j, j < m → f j = v) → P (g ++ ls.set i (bz_ci m f))) : bz_cV G l (d + 1) kJ7_fill_53178 [.inr (some (g.length + i)), .inl v] (g ++ ls) 0 0 P := by
  refine m_J7_fill_53178 (mc := 0) (ms := 0) (some (g.length + i)) v _ (fun κ bc bs hl' => ?_)
  unfold w_J7_fill_53178_0
  refine ap_nn (lp_rN h5 hl ?_)
  exact in_fillJ hm h5 hP m 0 f0 (by omega) (by omega) hl (fun j hj => absurd hj (by omega))
/-- the town: no ways yet but from a crossing to itself -/
theorem in_TownJ {κ : bz_K} {bc bs : Nat} {r0 r1 r2 : bz_C} (h5 : 5 ≤ g.length) (hP : ∀ f : Nat → Int32, (∀ c, c < 16 → f (16 * c + c) = 0) → (∀ a b, a < 16 → b < 16 → a ≠ b → f (16 * a + b) = -1) → P (g ++ [bz_co 8 [.inr (some (g.length + 1)), .inr (some (g.length + 2)), .inr (some (g.length + 3)), .inr (some (g.length + 4))], r0, r1, r2, bz_ci 256 f])) :
    ∀ (n q : Nat) (f : Nat → Int32), 16 ≤ q + n → q ≤ 16 → (∀ c, c < q → f (16 * c + c) = 0) → (∀ a b, a < 16 → b < 16 → a ≠ b → f (16 * a + b) = -1) → bz_J G κ kX8_init (d + 2) (fun v' h' => v' = none ∧ P h') bc bs 48 [some (.inr (some (g.length + 0))), some (.inl (nI q))] [] (g ++ [bz_co 8 [.inr (some (g.length + 1)), .inr (some (g.length + 2)), .inr (some (g.length + 3)), .inr (some (g.length + 4))], r0, r1, r2, bz_ci 256 f]) := by
  intro n
  induction n with
  | zero =>
    intro q f h1 h2 hf hg
    have hq : q = 16 := by omega
    subst hq
    exact g_X8_init_48 rfl _ _ _ ⟨fun _ => ⟨rfl, hP f hf hg⟩, fun c => absurd (show (16 : Int32) ≤ nI 16 by decide) c⟩
  | succ n ih =>
    intro q f h1 h2 hf hg
    refine g_X8_init_48 rfl _ _ _ ⟨fun c => ⟨rfl, ?_⟩, fun c => ?_⟩
    · have hq : q = 16 := by
        have := (nI_leI (a := 16) (b := q) (by omega) (by omega)).mp c
        omega
      subst hq
      exact hP f hf hg
    · have hq : q < 16 := by
        rcases Nat.lt_or_ge q 16 with h | h
        · exact h
        · exact absurd ((nI_leI (a := 16) (b := q) (by omega) (by omega)).mpr h) c
      refine lp_rR (i := 0) h5 rfl rfl ?_
      have e1 : nI q * 16 + nI q = nI (16 * q + q) := by
        rw [show (16 : Int32) = nI 16 from rfl, pk_mul, nI_add]
        congr 1
        omega
      rw [e1]
      refine ap_nn (lp_wA (i := 4) h5 rfl (vp_in_nI (by omega) (by omega)) rfl ?_)
      rw [nI_clamp (by omega), nI_1]
      refine ih (q + 1) (upd f (16 * q + q) 0) (by omega) (by omega) (fun c' hc' => ?_) (fun a b ha hb hab => ?_)
      · by_cases hcq : c' = q
        · subst hcq; exact pk_us
        · rw [pk_un (by omega)]; exact hf c' (by omega)
      · rw [pk_un (by omega)]; exact hg a b ha hb hab
set_option maxRecDepth 20000 in
set_option maxHeartbeats 4000000 in
theorem in_Town (h5 : 5 ≤ g.length) (hP : ∀ f : Nat → Int32, (∀ c, c < 16 → f (16 * c + c) = 0) → (∀ a b, a < 16 → b < 16 → a ≠ b → f (16 * a + b) = -1) → P (g ++ [bz_co 8 [.inr (some (g.length + 1)), .inr (some (g.length + 2)), .inr (some (g.length + 3)), .inr (some (g.length + 4))], bz_ci 16 (fun _ => 0), bz_ci 16 (fun _ => 0), bz_ci 256 (fun _ => 0), bz_ci 256 f])) : bz_cV G l (d + 2) kX8_init [.inr (some (g.length + 0))] (g ++ [bz_co 8 [.inr none, .inr none, .inr none, .inr none]]) 4 544 P := by
  refine m_X8_init (mc := 0) (ms := 0) (g.length + 0) _ (fun κ hl => ?_)
  unfold w_X8_init_0
  refine lp_an (m := 16) (n := 1) ⟨by decide, by decide⟩ (by decide) rfl (l' := [bz_co 8 [.inr none, .inr none, .inr none, .inr none], bz_ci 16 (fun _ => 0)]) rfl ?_
  refine lp_wR (i := 0) h5 rfl (Nat.le_of_ble_eq_true rfl) (l' := [bz_co 8 [.inr (some (g.length + 1)), .inr none, .inr none, .inr none], bz_ci 16 (fun _ => 0)]) rfl ?_
  refine lp_an (m := 16) (n := 2) ⟨by decide, by decide⟩ (by decide) rfl (l' := [bz_co 8 [.inr (some (g.length + 1)), .inr none, .inr none, .inr none], bz_ci 16 (fun _ => 0), bz_ci 16 (fun _ => 0)]) rfl ?_
  refine lp_wR (i := 0) h5 rfl (Nat.le_of_ble_eq_true rfl) (l' := [bz_co 8 [.inr (some (g.length + 1)), .inr (some (g.length + 2)), .inr none, .inr none], bz_ci 16 (fun _ => 0), bz_ci 16 (fun _ => 0)]) rfl ?_
  refine lp_an (m := 256) (n := 3) ⟨by decide, by decide⟩ (by decide) rfl (l' := [bz_co 8 [.inr (some (g.length + 1)), .inr (some (g.length + 2)), .inr none, .inr none], bz_ci 16 (fun _ => 0), bz_ci 16 (fun _ => 0), bz_ci 256 (fun _ => 0)]) rfl ?_
  refine lp_wR (i := 0) h5 rfl (Nat.le_of_ble_eq_true rfl) (l' := [bz_co 8 [.inr (some (g.length + 1)), .inr (some (g.length + 2)), .inr (some (g.length + 3)), .inr none], bz_ci 16 (fun _ => 0), bz_ci 16 (fun _ => 0), bz_ci 256 (fun _ => 0)]) rfl ?_
  refine lp_an (m := 256) (n := 4) ⟨by decide, by decide⟩ (by decide) rfl (l' := [bz_co 8 [.inr (some (g.length + 1)), .inr (some (g.length + 2)), .inr (some (g.length + 3)), .inr none], bz_ci 16 (fun _ => 0), bz_ci 16 (fun _ => 0), bz_ci 256 (fun _ => 0), bz_ci 256 (fun _ => 0)]) rfl ?_
  refine lp_wR (i := 0) h5 rfl (Nat.le_of_ble_eq_true rfl) (l' := [bz_co 8 [.inr (some (g.length + 1)), .inr (some (g.length + 2)), .inr (some (g.length + 3)), .inr (some (g.length + 4))], bz_ci 16 (fun _ => 0), bz_ci 16 (fun _ => 0), bz_ci 256 (fun _ => 0), bz_ci 256 (fun _ => 0)]) rfl ?_
  refine lp_rR (i := 0) h5 rfl rfl ?_
  refine in_fill (i := 4) (m := 256) (by decide) h5 rfl (fun f hf => ?_)
  refine in_TownJ h5 hP 16 0 f (by omega) (by omega) (fun c hc => absurd hc (by omega)) (fun a b ha hb _ => hf _ (by omega))
/-- the first eighteen cells of a world at a: what its arrays of orders and riders, its ways and its spots hold -/
def bz_w0 (a : Nat) (wy : Nat → Int32) (fo fr : Nat → Option Nat) (sp : Nat → Int32) : List bz_C := [bz_co 10 [.inr (some (a + 1)), .inr (some (a + 6)), .inr (some (a + 8)), .inr (some (a + 9)), .inr (some (a + 10)), .inr (some (a + 11)), .inr (some (a + 13)), .inr (some (a + 15)), .inr (some (a + 17)), .inl 0, .inl 0, .inl 0, .inl 0, .inl (-1), .inl (-1), .inl 0], bz_co 8 [.inr (some (a + 2)), .inr (some (a + 3)), .inr (some (a + 4)), .inr (some (a + 5))], bz_ci 16 (fun _ => 0), bz_ci 16 (fun _ => 0), bz_ci 256 (fun _ => 0), bz_ci 256 wy, bz_co 4 [.inr (some (a + 7)), .inl 0], bz_ci 18 (fun _ => 0), bz_cr 1 24 fo, bz_cr 2 12 fr, bz_cr 3 8 (fun _ => none), bz_co 4 [.inr (some (a + 12)), .inl 0], bz_ci 72 (fun _ => 0), bz_co 4 [.inr (some (a + 14)), .inl 0], bz_ci 18 (fun _ => 0), bz_co 4 [.inr (some (a + 16)), .inl 0], bz_ci 60 (fun _ => 0), bz_ci 10 sp]
def bz_ord0 : bz_C := bz_co 2 [.inl 0, .inl 0, .inl 0, .inl 0, .inl 0, .inl 0, .inl 0, .inl 0, .inl 0, .inl 0, .inl 0, .inl 0, .inl 0, .inl 0, .inl 0]
def bz_rid0 (b r : Nat) : List bz_C := [bz_co 3 [.inl (nI r), .inl 0, .inl 0, .inl 0, .inl 0, .inl 0, .inl 0, .inl 0, .inr (some (b + 1))], bz_co 4 [.inr (some (b + 2)), .inl 0], bz_ci 12 (fun _ => 0)]
def bz_rids (b : Nat) : Nat → List bz_C
  | 0 => []
  | n + 1 => bz_rids b n ++ bz_rid0 (b + 3 * n) n
theorem bz_rids_len (b : Nat) : ∀ n, (bz_rids b n).length = 3 * n
  | 0 => rfl
  | n + 1 => by rw [bz_rids, List.length_append, bz_rids_len b n]; show 3 * n + 3 = _; omega
def bz_upto (b k n : Nat) : Nat → Option Nat := fun j => if j < n then some (b + k * j) else none
theorem bz_upto_0 (b k : Nat) : bz_upto b k 0 = fun _ => none := by funext j; simp [bz_upto]
theorem bz_upto_s (b k n : Nat) : va_up (bz_upto b k n) n (some (b + k * n)) = bz_upto b k (n + 1) := by
  funext j
  unfold va_up bz_upto
  by_cases h : j = n
  · subst h; simp
  · rw [if_neg h]
    by_cases h2 : j < n
    · rw [if_pos h2, if_pos (by omega)]
    · rw [if_neg h2, if_neg (by omega)]
theorem in_Rider {r : Int32} (h5 : 5 ≤ g.length) (hP : P (g ++ [bz_co 3 [.inl r, .inl 0, .inl 0, .inl 0, .inl 0, .inl 0, .inl 0, .inl 0, .inr (some (g.length + 1))], bz_co 4 [.inr (some (g.length + 2)), .inl 0], bz_ci 12 (fun _ => 0)])) : bz_cV G l (d + 2) kX3_init [.inr (some (g.length + 0)), .inl r] (g ++ [bz_co 3 [.inl 0, .inl 0, .inl 0, .inl 0, .inl 0, .inl 0, .inl 0, .inl 0, .inr none]]) 2 74 P := by
  refine m_X3_init (mc := 0) (ms := 0) (g.length + 0) r _ ?_
  unfold w_X3_init_0
  refine lp_al (n := 1) rfl (l' := [bz_co 3 [.inl 0, .inl 0, .inl 0, .inl 0, .inl 0, .inl 0, .inl 0, .inl 0, .inr none], bz_co 4 [.inr none, .inl 0]]) rfl ?_
  refine in_Rows' (l1 := [bz_co 3 [.inl 0, .inl 0, .inl 0, .inl 0, .inl 0, .inl 0, .inl 0, .inl 0, .inr none]]) (n := 1) (m := 12) rfl (by decide) (by decide) (by decide) h5 ?_
  · refine lp_wR (i := 0) h5 rfl (Nat.le_of_ble_eq_true rfl) (l' := [bz_co 3 [.inl 0, .inl 0, .inl 0, .inl 0, .inl 0, .inl 0, .inl 0, .inl 0, .inr (some (g.length + 1))], bz_co 4 [.inr (some (g.length + 2)), .inl 0], bz_ci 12 (fun _ => 0)]) rfl ?_
    refine lp_wI (i := 0) h5 rfl (Nat.le_of_ble_eq_true rfl) (l' := [bz_co 3 [.inl r, .inl 0, .inl 0, .inl 0, .inl 0, .inl 0, .inl 0, .inl 0, .inr (some (g.length + 1))], bz_co 4 [.inr (some (g.length + 2)), .inl 0], bz_ci 12 (fun _ => 0)]) rfl ?_
    exact ⟨rfl, hP⟩
theorem in_Rider' {l1 : bz_H} {n : Nat} {r : Int32} (hn : l1.length = n) (h5 : 5 ≤ g.length) (hP : P (g ++ (l1 ++ [bz_co 3 [.inl r, .inl 0, .inl 0, .inl 0, .inl 0, .inl 0, .inl 0, .inl 0, .inr (some (g.length + n + 1))], bz_co 4 [.inr (some (g.length + n + 2)), .inl 0], bz_ci 12 (fun _ => 0)]))) : bz_cV G l (d + 2) kX3_init [.inr (some (g.length + n)), .inl r] (g ++ (l1 ++ [bz_co 3 [.inl 0, .inl 0, .inl 0, .inl 0, .inl 0, .inl 0, .inl 0, .inl 0, .inr none]])) 2 74 P := by
  subst hn
  have hr := in_Rider (G := G) (l := l) (d := d) (g := g ++ l1) (P := P) (r := r) (by rw [List.length_append]; omega) (by rw [List.length_append, List.append_assoc]; exact hP)
  rw [List.length_append, List.append_assoc, Nat.add_zero] at hr
  exact hr
theorem in_Town' {l1 : bz_H} {n : Nat} (hn : l1.length = n) (h5 : 5 ≤ g.length) (hP : ∀ f : Nat → Int32, (∀ c, c < 16 → f (16 * c + c) = 0) → (∀ a b, a < 16 → b < 16 → a ≠ b → f (16 * a + b) = -1) → P (g ++ (l1 ++ [bz_co 8 [.inr (some (g.length + (n + 1))), .inr (some (g.length + (n + 2))), .inr (some (g.length + (n + 3))), .inr (some (g.length + (n + 4)))], bz_ci 16 (fun _ => 0), bz_ci 16 (fun _ => 0), bz_ci 256 (fun _ => 0), bz_ci 256 f]))) : bz_cV G l (d + 2) kX8_init [.inr (some (g.length + n))] (g ++ (l1 ++ [bz_co 8 [.inr none, .inr none, .inr none, .inr none]])) 4 544 P := by
  subst hn
  have hr := in_Town (G := G) (l := l) (d := d) (g := g ++ l1) (P := P) (by rw [List.length_append]; omega) (fun f h1 h2 => by have := hP f h1 h2; rw [List.length_append, List.append_assoc, Nat.add_assoc, Nat.add_assoc, Nat.add_assoc, Nat.add_assoc]; exact this)
  rw [List.length_append, List.append_assoc, Nat.add_zero] at hr
  exact hr
/-- the riders of a world -/
theorem in_WorldR {κ : bz_K} {wy : Nat → Int32} {fo : Nat → Option Nat} {os : bz_H} (hos : os.length = 24) (h5 : 5 ≤ g.length) (hP : ∀ sp : Nat → Int32, (∀ j, j < 10 → sp j = -1) → P (g ++ (bz_w0 g.length wy fo (bz_upto (g.length + 42) 3 12) sp ++ (os ++ bz_rids (g.length + 42) 12)))) :
    ∀ (n q bc bs : Nat), 12 = q + n → bz_J G κ kX10_init (d + 3) (fun v' h' => v' = none ∧ P h') (bc + 3 * n + 3) (bs + 83 * n + 83) 141 [some (.inr (some (g.length + 0))), some (.inl (nI q))] [] (g ++ (bz_w0 g.length wy fo (bz_upto (g.length + 42) 3 q) (fun _ => 0) ++ (os ++ bz_rids (g.length + 42) q))) := by
  intro n
  induction n with
  | zero =>
    intro q bc bs h1
    have hq : q = 12 := by omega
    subst hq
    refine g_X10_init_141 rfl _ _ _ ⟨fun _ => ?_, fun c => absurd (show (12 : Int32) ≤ nI 12 by decide) c⟩
    refine lp_rR (i := 0) h5 rfl rfl ?_
    refine in_fill (i := 17) (m := 10) (by decide) h5 rfl (fun f hf => ⟨rfl, ?_⟩)
    exact hP f hf
  | succ n ih =>
    intro q bc bs h1
    have e0 : bc + 3 * (n + 1) + 3 = (bc + 3 * n + 3) + 3 := by omega
    have e1 : bs + 83 * (n + 1) + 83 = (bs + 83 * n + 83) + 83 := by omega
    rw [e0, e1]
    refine g_X10_init_141 (bc := bc + 3 * n + 3) (bs := bs + 83 * n + 83) rfl _ _ _ ⟨fun c => ?_, fun c => ?_⟩
    · exact absurd ((nI_leI (a := 12) (b := q) (by omega) (by omega)).mp c) (by omega)
    · refine lp_rR (i := 0) h5 rfl rfl ?_
      have hlen : (bz_w0 g.length wy fo (bz_upto (g.length + 42) 3 q) (fun _ => 0) ++ (os ++ bz_rids (g.length + 42) q)).length = 42 + 3 * q := by
        rw [List.length_append, List.length_append, hos, bz_rids_len]
        show 18 + _ = _
        omega
      refine lp_al hlen rfl ?_
      refine in_Rider' hlen h5 ?_
      refine ap_nn ?_
      rw [show g.length + (42 + 3 * q) = g.length + (42 + 3 * q) from rfl]
      refine lp_wQ (i := 9) (m := 12) (t := 2) (f := bz_upto (g.length + 42) 3 q) (fs := [.inl (nI q), .inl 0, .inl 0, .inl 0, .inl 0, .inl 0, .inl 0, .inl 0, .inr (some (g.length + (42 + 3 * q) + 1))]) h5 rfl (by decide) (vp_in_nI (by omega) (by omega)) ?_ rfl ?_
      · rw [List.getElem?_append_right (by omega), hlen, Nat.sub_self]
        rfl
      · rw [nI_clamp (by omega), nI_1, show g.length + (42 + 3 * q) = g.length + 42 + 3 * q by omega, bz_upto_s]
        have := ih (q + 1) bc bs (by omega)
        rw [bz_rids] at this
        have e2 : (bz_w0 g.length wy fo (bz_upto (g.length + 42) 3 q) (fun _ => 0) ++ (os ++ bz_rids (g.length + 42) q) ++ [bz_co 3 [.inl (nI q), .inl 0, .inl 0, .inl 0, .inl 0, .inl 0, .inl 0, .inl 0, .inr (some (g.length + 42 + 3 * q + 1))], bz_co 4 [.inr (some (g.length + 42 + 3 * q + 2)), .inl 0], bz_ci 12 (fun _ => 0)]).set 9 (bz_cr 2 12 (bz_upto (g.length + 42) 3 (q + 1))) = bz_w0 g.length wy fo (bz_upto (g.length + 42) 3 (q + 1)) (fun _ => 0) ++ (os ++ (bz_rids (g.length + 42) q ++ bz_rid0 (g.length + 42 + 3 * q) q)) := by
          rw [List.append_assoc, List.append_assoc]
          rfl
        rw [e2]
        exact this
/-- the orders of a world -/
theorem in_WorldO {κ : bz_K} {wy : Nat → Int32} (h5 : 5 ≤ g.length) {bc bs : Nat} (hJ : bz_J G κ kX10_init (d + 3) (fun v' h' => v' = none ∧ P h') bc bs 141 [some (.inr (some (g.length + 0))), some (.inl (nI 0))] [] (g ++ (bz_w0 g.length wy (bz_upto (g.length + 18) 1 24) (bz_upto (g.length + 42) 3 0) (fun _ => 0) ++ (List.replicate 24 bz_ord0 ++ bz_rids (g.length + 42) 0)))) :
    ∀ (n q : Nat), 24 = q + n → bz_J G κ kX10_init (d + 3) (fun v' h' => v' = none ∧ P h') (bc + 1 * n + 1) (bs + 15 * n + 15) 114 [some (.inr (some (g.length + 0))), some (.inl (nI q))] [] (g ++ (bz_w0 g.length wy (bz_upto (g.length + 18) 1 q) (bz_upto (g.length + 42) 3 0) (fun _ => 0) ++ List.replicate q bz_ord0)) := by
  intro n
  induction n with
  | zero =>
    intro q h1
    have hq : q = 24 := by omega
    subst hq
    refine g_X10_init_114 (bc := bc) (bs := bs) rfl _ _ _ ⟨fun _ => ?_, fun c => absurd (show (24 : Int32) ≤ nI 24 by decide) c⟩
    rw [show bz_rids (g.length + 42) 0 = [] from rfl, List.append_nil] at hJ
    exact hJ
  | succ n ih =>
    intro q h1
    have e0 : bc + 1 * (n + 1) + 1 = (bc + 1 * n + 1) + 1 := by omega
    have e1 : bs + 15 * (n + 1) + 15 = (bs + 15 * n + 15) + 15 := by omega
    rw [e0, e1]
    refine g_X10_init_114 (bc := bc + 1 * n + 1) (bs := bs + 15 * n + 15) rfl _ _ _ ⟨fun c => ?_, fun c => ?_⟩
    · exact absurd ((nI_leI (a := 24) (b := q) (by omega) (by omega)).mp c) (by omega)
    · refine lp_rR (i := 0) h5 rfl rfl ?_
      have hlen : (bz_w0 g.length wy (bz_upto (g.length + 18) 1 q) (bz_upto (g.length + 42) 3 0) (fun _ => 0) ++ List.replicate q bz_ord0).length = 18 + q := by
        rw [List.length_append, List.length_replicate]
        rfl
      refine lp_al hlen rfl ?_
      refine in_Order ?_ _
      refine ap_nn ?_
      refine lp_wQ (i := 8) (m := 24) (t := 1) (f := bz_upto (g.length + 18) 1 q) (fs := [.inl 0, .inl 0, .inl 0, .inl 0, .inl 0, .inl 0, .inl 0, .inl 0, .inl 0, .inl 0, .inl 0, .inl 0, .inl 0, .inl 0, .inl 0]) h5 rfl (by decide) (vp_in_nI (by omega) (by omega)) ?_ rfl ?_
      · rw [List.getElem?_append_right (by omega), hlen, Nat.sub_self]
        rfl
      · rw [nI_clamp (by omega), nI_1, show g.length + (18 + q) = g.length + 18 + 1 * q by omega, bz_upto_s]
        have := ih (q + 1) (by omega)
        have e2 : (bz_w0 g.length wy (bz_upto (g.length + 18) 1 q) (bz_upto (g.length + 42) 3 0) (fun _ => 0) ++ List.replicate q bz_ord0 ++ [bz_co 2 [.inl 0, .inl 0, .inl 0, .inl 0, .inl 0, .inl 0, .inl 0, .inl 0, .inl 0, .inl 0, .inl 0, .inl 0, .inl 0, .inl 0, .inl 0]]).set 8 (bz_cr 1 24 (bz_upto (g.length + 18) 1 (q + 1))) = bz_w0 g.length wy (bz_upto (g.length + 18) 1 (q + 1)) (bz_upto (g.length + 42) 3 0) (fun _ => 0) ++ List.replicate (q + 1) bz_ord0 := by
          rw [List.append_assoc, List.replicate_succ']
          rfl
        rw [e2]
        exact this
/-- a world's cells, new -/
def bz_wc (a : Nat) (wy sp : Nat → Int32) : List bz_C := bz_w0 a wy (bz_upto (a + 18) 1 24) (bz_upto (a + 42) 3 12) sp ++ (List.replicate 24 bz_ord0 ++ bz_rids (a + 42) 12)
set_option maxRecDepth 20000 in
set_option maxHeartbeats 4000000 in
theorem in_World (h5 : 5 ≤ g.length) (hP : ∀ wy sp : Nat → Int32, (∀ c, c < 16 → wy (16 * c + c) = 0) → (∀ a b, a < 16 → b < 16 → a ≠ b → wy (16 * a + b) = -1) → (∀ j, j < 10 → sp j = -1) → P (g ++ bz_wc g.length wy sp)) : bz_cV G l (d + 3) kX10_init [.inr (some (g.length + 0))] (g ++ [bz_co 10 [.inr none, .inr none, .inr none, .inr none, .inr none, .inr none, .inr none, .inr none, .inr none, .inl 0, .inl 0, .inl 0, .inl 0, .inl 0, .inl 0, .inl 0]]) 81 2352 P := by
  refine m_X10_init (mc := 64) (ms := 1454) (g.length + 0) _ (fun κ hl => ?_)
  unfold w_X10_init_0
  refine lp_al (n := 1) rfl (l' := [bz_co 10 [.inr none, .inr none, .inr none, .inr none, .inr none, .inr none, .inr none, .inr none, .inr none, .inl 0, .inl 0, .inl 0, .inl 0, .inl 0, .inl 0, .inl 0], bz_co 8 [.inr none, .inr none, .inr none, .inr none]]) rfl ?_
  refine in_Town' (l1 := [bz_co 10 [.inr none, .inr none, .inr none, .inr none, .inr none, .inr none, .inr none, .inr none, .inr none, .inl 0, .inl 0, .inl 0, .inl 0, .inl 0, .inl 0, .inl 0]]) (n := 1) rfl h5 (fun wy hw1 hw2 => ?_)
  refine lp_wR (i := 0) h5 rfl (Nat.le_of_ble_eq_true rfl) (l' := [bz_co 10 [.inr (some (g.length + 1)), .inr none, .inr none, .inr none, .inr none, .inr none, .inr none, .inr none, .inr none, .inl 0, .inl 0, .inl 0, .inl 0, .inl 0, .inl 0, .inl 0], bz_co 8 [.inr (some (g.length + 2)), .inr (some (g.length + 3)), .inr (some (g.length + 4)), .inr (some (g.length + 5))], bz_ci 16 (fun _ => 0), bz_ci 16 (fun _ => 0), bz_ci 256 (fun _ => 0), bz_ci 256 wy]) rfl ?_
  refine lp_al (n := 6) rfl (l' := [bz_co 10 [.inr (some (g.length + 1)), .inr none, .inr none, .inr none, .inr none, .inr none, .inr none, .inr none, .inr none, .inl 0, .inl 0, .inl 0, .inl 0, .inl 0, .inl 0, .inl 0], bz_co 8 [.inr (some (g.length + 2)), .inr (some (g.length + 3)), .inr (some (g.length + 4)), .inr (some (g.length + 5))], bz_ci 16 (fun _ => 0), bz_ci 16 (fun _ => 0), bz_ci 256 (fun _ => 0), bz_ci 256 wy, bz_co 4 [.inr none, .inl 0]]) rfl ?_
  refine in_Rows' (l1 := [bz_co 10 [.inr (some (g.length + 1)), .inr none, .inr none, .inr none, .inr none, .inr none, .inr none, .inr none, .inr none, .inl 0, .inl 0, .inl 0, .inl 0, .inl 0, .inl 0, .inl 0], bz_co 8 [.inr (some (g.length + 2)), .inr (some (g.length + 3)), .inr (some (g.length + 4)), .inr (some (g.length + 5))], bz_ci 16 (fun _ => 0), bz_ci 16 (fun _ => 0), bz_ci 256 (fun _ => 0), bz_ci 256 wy]) (n := 6) (m := 18) rfl (by decide) (by decide) (by decide) h5 ?_
  refine lp_wR (i := 0) h5 rfl (Nat.le_of_ble_eq_true rfl) (l' := [bz_co 10 [.inr (some (g.length + 1)), .inr (some (g.length + 6)), .inr none, .inr none, .inr none, .inr none, .inr none, .inr none, .inr none, .inl 0, .inl 0, .inl 0, .inl 0, .inl 0, .inl 0, .inl 0], bz_co 8 [.inr (some (g.length + 2)), .inr (some (g.length + 3)), .inr (some (g.length + 4)), .inr (some (g.length + 5))], bz_ci 16 (fun _ => 0), bz_ci 16 (fun _ => 0), bz_ci 256 (fun _ => 0), bz_ci 256 wy, bz_co 4 [.inr (some (g.length + 7)), .inl 0], bz_ci 18 (fun _ => 0)]) rfl ?_
  refine lp_aq (m := 24) (n := 8) ⟨by decide, by decide⟩ (by decide) rfl (l' := [bz_co 10 [.inr (some (g.length + 1)), .inr (some (g.length + 6)), .inr none, .inr none, .inr none, .inr none, .inr none, .inr none, .inr none, .inl 0, .inl 0, .inl 0, .inl 0, .inl 0, .inl 0, .inl 0], bz_co 8 [.inr (some (g.length + 2)), .inr (some (g.length + 3)), .inr (some (g.length + 4)), .inr (some (g.length + 5))], bz_ci 16 (fun _ => 0), bz_ci 16 (fun _ => 0), bz_ci 256 (fun _ => 0), bz_ci 256 wy, bz_co 4 [.inr (some (g.length + 7)), .inl 0], bz_ci 18 (fun _ => 0), bz_cr 1 24 (fun _ => none)]) rfl ?_
  refine lp_wR (i := 0) h5 rfl (Nat.le_of_ble_eq_true rfl) (l' := [bz_co 10 [.inr (some (g.length + 1)), .inr (some (g.length + 6)), .inr (some (g.length + 8)), .inr none, .inr none, .inr none, .inr none, .inr none, .inr none, .inl 0, .inl 0, .inl 0, .inl 0, .inl 0, .inl 0, .inl 0], bz_co 8 [.inr (some (g.length + 2)), .inr (some (g.length + 3)), .inr (some (g.length + 4)), .inr (some (g.length + 5))], bz_ci 16 (fun _ => 0), bz_ci 16 (fun _ => 0), bz_ci 256 (fun _ => 0), bz_ci 256 wy, bz_co 4 [.inr (some (g.length + 7)), .inl 0], bz_ci 18 (fun _ => 0), bz_cr 1 24 (fun _ => none)]) rfl ?_
  refine lp_aq (m := 12) (n := 9) ⟨by decide, by decide⟩ (by decide) rfl (l' := [bz_co 10 [.inr (some (g.length + 1)), .inr (some (g.length + 6)), .inr (some (g.length + 8)), .inr none, .inr none, .inr none, .inr none, .inr none, .inr none, .inl 0, .inl 0, .inl 0, .inl 0, .inl 0, .inl 0, .inl 0], bz_co 8 [.inr (some (g.length + 2)), .inr (some (g.length + 3)), .inr (some (g.length + 4)), .inr (some (g.length + 5))], bz_ci 16 (fun _ => 0), bz_ci 16 (fun _ => 0), bz_ci 256 (fun _ => 0), bz_ci 256 wy, bz_co 4 [.inr (some (g.length + 7)), .inl 0], bz_ci 18 (fun _ => 0), bz_cr 1 24 (fun _ => none), bz_cr 2 12 (fun _ => none)]) rfl ?_
  refine lp_wR (i := 0) h5 rfl (Nat.le_of_ble_eq_true rfl) (l' := [bz_co 10 [.inr (some (g.length + 1)), .inr (some (g.length + 6)), .inr (some (g.length + 8)), .inr (some (g.length + 9)), .inr none, .inr none, .inr none, .inr none, .inr none, .inl 0, .inl 0, .inl 0, .inl 0, .inl 0, .inl 0, .inl 0], bz_co 8 [.inr (some (g.length + 2)), .inr (some (g.length + 3)), .inr (some (g.length + 4)), .inr (some (g.length + 5))], bz_ci 16 (fun _ => 0), bz_ci 16 (fun _ => 0), bz_ci 256 (fun _ => 0), bz_ci 256 wy, bz_co 4 [.inr (some (g.length + 7)), .inl 0], bz_ci 18 (fun _ => 0), bz_cr 1 24 (fun _ => none), bz_cr 2 12 (fun _ => none)]) rfl ?_
  refine lp_aq (m := 8) (n := 10) ⟨by decide, by decide⟩ (by decide) rfl (l' := [bz_co 10 [.inr (some (g.length + 1)), .inr (some (g.length + 6)), .inr (some (g.length + 8)), .inr (some (g.length + 9)), .inr none, .inr none, .inr none, .inr none, .inr none, .inl 0, .inl 0, .inl 0, .inl 0, .inl 0, .inl 0, .inl 0], bz_co 8 [.inr (some (g.length + 2)), .inr (some (g.length + 3)), .inr (some (g.length + 4)), .inr (some (g.length + 5))], bz_ci 16 (fun _ => 0), bz_ci 16 (fun _ => 0), bz_ci 256 (fun _ => 0), bz_ci 256 wy, bz_co 4 [.inr (some (g.length + 7)), .inl 0], bz_ci 18 (fun _ => 0), bz_cr 1 24 (fun _ => none), bz_cr 2 12 (fun _ => none), bz_cr 3 8 (fun _ => none)]) rfl ?_
  refine lp_wR (i := 0) h5 rfl (Nat.le_of_ble_eq_true rfl) (l' := [bz_co 10 [.inr (some (g.length + 1)), .inr (some (g.length + 6)), .inr (some (g.length + 8)), .inr (some (g.length + 9)), .inr (some (g.length + 10)), .inr none, .inr none, .inr none, .inr none, .inl 0, .inl 0, .inl 0, .inl 0, .inl 0, .inl 0, .inl 0], bz_co 8 [.inr (some (g.length + 2)), .inr (some (g.length + 3)), .inr (some (g.length + 4)), .inr (some (g.length + 5))], bz_ci 16 (fun _ => 0), bz_ci 16 (fun _ => 0), bz_ci 256 (fun _ => 0), bz_ci 256 wy, bz_co 4 [.inr (some (g.length + 7)), .inl 0], bz_ci 18 (fun _ => 0), bz_cr 1 24 (fun _ => none), bz_cr 2 12 (fun _ => none), bz_cr 3 8 (fun _ => none)]) rfl ?_
  refine lp_al (n := 11) rfl (l' := [bz_co 10 [.inr (some (g.length + 1)), .inr (some (g.length + 6)), .inr (some (g.length + 8)), .inr (some (g.length + 9)), .inr (some (g.length + 10)), .inr none, .inr none, .inr none, .inr none, .inl 0, .inl 0, .inl 0, .inl 0, .inl 0, .inl 0, .inl 0], bz_co 8 [.inr (some (g.length + 2)), .inr (some (g.length + 3)), .inr (some (g.length + 4)), .inr (some (g.length + 5))], bz_ci 16 (fun _ => 0), bz_ci 16 (fun _ => 0), bz_ci 256 (fun _ => 0), bz_ci 256 wy, bz_co 4 [.inr (some (g.length + 7)), .inl 0], bz_ci 18 (fun _ => 0), bz_cr 1 24 (fun _ => none), bz_cr 2 12 (fun _ => none), bz_cr 3 8 (fun _ => none), bz_co 4 [.inr none, .inl 0]]) rfl ?_
  refine in_Rows' (l1 := [bz_co 10 [.inr (some (g.length + 1)), .inr (some (g.length + 6)), .inr (some (g.length + 8)), .inr (some (g.length + 9)), .inr (some (g.length + 10)), .inr none, .inr none, .inr none, .inr none, .inl 0, .inl 0, .inl 0, .inl 0, .inl 0, .inl 0, .inl 0], bz_co 8 [.inr (some (g.length + 2)), .inr (some (g.length + 3)), .inr (some (g.length + 4)), .inr (some (g.length + 5))], bz_ci 16 (fun _ => 0), bz_ci 16 (fun _ => 0), bz_ci 256 (fun _ => 0), bz_ci 256 wy, bz_co 4 [.inr (some (g.length + 7)), .inl 0], bz_ci 18 (fun _ => 0), bz_cr 1 24 (fun _ => none), bz_cr 2 12 (fun _ => none), bz_cr 3 8 (fun _ => none)]) (n := 11) (m := 72) rfl (by decide) (by decide) (by decide) h5 ?_
  refine lp_wR (i := 0) h5 rfl (Nat.le_of_ble_eq_true rfl) (l' := [bz_co 10 [.inr (some (g.length + 1)), .inr (some (g.length + 6)), .inr (some (g.length + 8)), .inr (some (g.length + 9)), .inr (some (g.length + 10)), .inr (some (g.length + 11)), .inr none, .inr none, .inr none, .inl 0, .inl 0, .inl 0, .inl 0, .inl 0, .inl 0, .inl 0], bz_co 8 [.inr (some (g.length + 2)), .inr (some (g.length + 3)), .inr (some (g.length + 4)), .inr (some (g.length + 5))], bz_ci 16 (fun _ => 0), bz_ci 16 (fun _ => 0), bz_ci 256 (fun _ => 0), bz_ci 256 wy, bz_co 4 [.inr (some (g.length + 7)), .inl 0], bz_ci 18 (fun _ => 0), bz_cr 1 24 (fun _ => none), bz_cr 2 12 (fun _ => none), bz_cr 3 8 (fun _ => none), bz_co 4 [.inr (some (g.length + 12)), .inl 0], bz_ci 72 (fun _ => 0)]) rfl ?_
  refine lp_al (n := 13) rfl (l' := [bz_co 10 [.inr (some (g.length + 1)), .inr (some (g.length + 6)), .inr (some (g.length + 8)), .inr (some (g.length + 9)), .inr (some (g.length + 10)), .inr (some (g.length + 11)), .inr none, .inr none, .inr none, .inl 0, .inl 0, .inl 0, .inl 0, .inl 0, .inl 0, .inl 0], bz_co 8 [.inr (some (g.length + 2)), .inr (some (g.length + 3)), .inr (some (g.length + 4)), .inr (some (g.length + 5))], bz_ci 16 (fun _ => 0), bz_ci 16 (fun _ => 0), bz_ci 256 (fun _ => 0), bz_ci 256 wy, bz_co 4 [.inr (some (g.length + 7)), .inl 0], bz_ci 18 (fun _ => 0), bz_cr 1 24 (fun _ => none), bz_cr 2 12 (fun _ => none), bz_cr 3 8 (fun _ => none), bz_co 4 [.inr (some (g.length + 12)), .inl 0], bz_ci 72 (fun _ => 0), bz_co 4 [.inr none, .inl 0]]) rfl ?_
  refine in_Rows' (l1 := [bz_co 10 [.inr (some (g.length + 1)), .inr (some (g.length + 6)), .inr (some (g.length + 8)), .inr (some (g.length + 9)), .inr (some (g.length + 10)), .inr (some (g.length + 11)), .inr none, .inr none, .inr none, .inl 0, .inl 0, .inl 0, .inl 0, .inl 0, .inl 0, .inl 0], bz_co 8 [.inr (some (g.length + 2)), .inr (some (g.length + 3)), .inr (some (g.length + 4)), .inr (some (g.length + 5))], bz_ci 16 (fun _ => 0), bz_ci 16 (fun _ => 0), bz_ci 256 (fun _ => 0), bz_ci 256 wy, bz_co 4 [.inr (some (g.length + 7)), .inl 0], bz_ci 18 (fun _ => 0), bz_cr 1 24 (fun _ => none), bz_cr 2 12 (fun _ => none), bz_cr 3 8 (fun _ => none), bz_co 4 [.inr (some (g.length + 12)), .inl 0], bz_ci 72 (fun _ => 0)]) (n := 13) (m := 18) rfl (by decide) (by decide) (by decide) h5 ?_
  refine lp_wR (i := 0) h5 rfl (Nat.le_of_ble_eq_true rfl) (l' := [bz_co 10 [.inr (some (g.length + 1)), .inr (some (g.length + 6)), .inr (some (g.length + 8)), .inr (some (g.length + 9)), .inr (some (g.length + 10)), .inr (some (g.length + 11)), .inr (some (g.length + 13)), .inr none, .inr none, .inl 0, .inl 0, .inl 0, .inl 0, .inl 0, .inl 0, .inl 0], bz_co 8 [.inr (some (g.length + 2)), .inr (some (g.length + 3)), .inr (some (g.length + 4)), .inr (some (g.length + 5))], bz_ci 16 (fun _ => 0), bz_ci 16 (fun _ => 0), bz_ci 256 (fun _ => 0), bz_ci 256 wy, bz_co 4 [.inr (some (g.length + 7)), .inl 0], bz_ci 18 (fun _ => 0), bz_cr 1 24 (fun _ => none), bz_cr 2 12 (fun _ => none), bz_cr 3 8 (fun _ => none), bz_co 4 [.inr (some (g.length + 12)), .inl 0], bz_ci 72 (fun _ => 0), bz_co 4 [.inr (some (g.length + 14)), .inl 0], bz_ci 18 (fun _ => 0)]) rfl ?_
  refine lp_al (n := 15) rfl (l' := [bz_co 10 [.inr (some (g.length + 1)), .inr (some (g.length + 6)), .inr (some (g.length + 8)), .inr (some (g.length + 9)), .inr (some (g.length + 10)), .inr (some (g.length + 11)), .inr (some (g.length + 13)), .inr none, .inr none, .inl 0, .inl 0, .inl 0, .inl 0, .inl 0, .inl 0, .inl 0], bz_co 8 [.inr (some (g.length + 2)), .inr (some (g.length + 3)), .inr (some (g.length + 4)), .inr (some (g.length + 5))], bz_ci 16 (fun _ => 0), bz_ci 16 (fun _ => 0), bz_ci 256 (fun _ => 0), bz_ci 256 wy, bz_co 4 [.inr (some (g.length + 7)), .inl 0], bz_ci 18 (fun _ => 0), bz_cr 1 24 (fun _ => none), bz_cr 2 12 (fun _ => none), bz_cr 3 8 (fun _ => none), bz_co 4 [.inr (some (g.length + 12)), .inl 0], bz_ci 72 (fun _ => 0), bz_co 4 [.inr (some (g.length + 14)), .inl 0], bz_ci 18 (fun _ => 0), bz_co 4 [.inr none, .inl 0]]) rfl ?_
  refine in_Rows' (l1 := [bz_co 10 [.inr (some (g.length + 1)), .inr (some (g.length + 6)), .inr (some (g.length + 8)), .inr (some (g.length + 9)), .inr (some (g.length + 10)), .inr (some (g.length + 11)), .inr (some (g.length + 13)), .inr none, .inr none, .inl 0, .inl 0, .inl 0, .inl 0, .inl 0, .inl 0, .inl 0], bz_co 8 [.inr (some (g.length + 2)), .inr (some (g.length + 3)), .inr (some (g.length + 4)), .inr (some (g.length + 5))], bz_ci 16 (fun _ => 0), bz_ci 16 (fun _ => 0), bz_ci 256 (fun _ => 0), bz_ci 256 wy, bz_co 4 [.inr (some (g.length + 7)), .inl 0], bz_ci 18 (fun _ => 0), bz_cr 1 24 (fun _ => none), bz_cr 2 12 (fun _ => none), bz_cr 3 8 (fun _ => none), bz_co 4 [.inr (some (g.length + 12)), .inl 0], bz_ci 72 (fun _ => 0), bz_co 4 [.inr (some (g.length + 14)), .inl 0], bz_ci 18 (fun _ => 0)]) (n := 15) (m := 60) rfl (by decide) (by decide) (by decide) h5 ?_
  refine lp_wR (i := 0) h5 rfl (Nat.le_of_ble_eq_true rfl) (l' := [bz_co 10 [.inr (some (g.length + 1)), .inr (some (g.length + 6)), .inr (some (g.length + 8)), .inr (some (g.length + 9)), .inr (some (g.length + 10)), .inr (some (g.length + 11)), .inr (some (g.length + 13)), .inr (some (g.length + 15)), .inr none, .inl 0, .inl 0, .inl 0, .inl 0, .inl 0, .inl 0, .inl 0], bz_co 8 [.inr (some (g.length + 2)), .inr (some (g.length + 3)), .inr (some (g.length + 4)), .inr (some (g.length + 5))], bz_ci 16 (fun _ => 0), bz_ci 16 (fun _ => 0), bz_ci 256 (fun _ => 0), bz_ci 256 wy, bz_co 4 [.inr (some (g.length + 7)), .inl 0], bz_ci 18 (fun _ => 0), bz_cr 1 24 (fun _ => none), bz_cr 2 12 (fun _ => none), bz_cr 3 8 (fun _ => none), bz_co 4 [.inr (some (g.length + 12)), .inl 0], bz_ci 72 (fun _ => 0), bz_co 4 [.inr (some (g.length + 14)), .inl 0], bz_ci 18 (fun _ => 0), bz_co 4 [.inr (some (g.length + 16)), .inl 0], bz_ci 60 (fun _ => 0)]) rfl ?_
  refine lp_an (m := 10) (n := 17) ⟨by decide, by decide⟩ (by decide) rfl (l' := [bz_co 10 [.inr (some (g.length + 1)), .inr (some (g.length + 6)), .inr (some (g.length + 8)), .inr (some (g.length + 9)), .inr (some (g.length + 10)), .inr (some (g.length + 11)), .inr (some (g.length + 13)), .inr (some (g.length + 15)), .inr none, .inl 0, .inl 0, .inl 0, .inl 0, .inl 0, .inl 0, .inl 0], bz_co 8 [.inr (some (g.length + 2)), .inr (some (g.length + 3)), .inr (some (g.length + 4)), .inr (some (g.length + 5))], bz_ci 16 (fun _ => 0), bz_ci 16 (fun _ => 0), bz_ci 256 (fun _ => 0), bz_ci 256 wy, bz_co 4 [.inr (some (g.length + 7)), .inl 0], bz_ci 18 (fun _ => 0), bz_cr 1 24 (fun _ => none), bz_cr 2 12 (fun _ => none), bz_cr 3 8 (fun _ => none), bz_co 4 [.inr (some (g.length + 12)), .inl 0], bz_ci 72 (fun _ => 0), bz_co 4 [.inr (some (g.length + 14)), .inl 0], bz_ci 18 (fun _ => 0), bz_co 4 [.inr (some (g.length + 16)), .inl 0], bz_ci 60 (fun _ => 0), bz_ci 10 (fun _ => 0)]) rfl ?_
  refine lp_wR (i := 0) h5 rfl (Nat.le_of_ble_eq_true rfl) (l' := [bz_co 10 [.inr (some (g.length + 1)), .inr (some (g.length + 6)), .inr (some (g.length + 8)), .inr (some (g.length + 9)), .inr (some (g.length + 10)), .inr (some (g.length + 11)), .inr (some (g.length + 13)), .inr (some (g.length + 15)), .inr (some (g.length + 17)), .inl 0, .inl 0, .inl 0, .inl 0, .inl 0, .inl 0, .inl 0], bz_co 8 [.inr (some (g.length + 2)), .inr (some (g.length + 3)), .inr (some (g.length + 4)), .inr (some (g.length + 5))], bz_ci 16 (fun _ => 0), bz_ci 16 (fun _ => 0), bz_ci 256 (fun _ => 0), bz_ci 256 wy, bz_co 4 [.inr (some (g.length + 7)), .inl 0], bz_ci 18 (fun _ => 0), bz_cr 1 24 (fun _ => none), bz_cr 2 12 (fun _ => none), bz_cr 3 8 (fun _ => none), bz_co 4 [.inr (some (g.length + 12)), .inl 0], bz_ci 72 (fun _ => 0), bz_co 4 [.inr (some (g.length + 14)), .inl 0], bz_ci 18 (fun _ => 0), bz_co 4 [.inr (some (g.length + 16)), .inl 0], bz_ci 60 (fun _ => 0), bz_ci 10 (fun _ => 0)]) rfl ?_
  refine lp_wI (i := 0) h5 rfl (Nat.le_of_ble_eq_true rfl) (l' := [bz_co 10 [.inr (some (g.length + 1)), .inr (some (g.length + 6)), .inr (some (g.length + 8)), .inr (some (g.length + 9)), .inr (some (g.length + 10)), .inr (some (g.length + 11)), .inr (some (g.length + 13)), .inr (some (g.length + 15)), .inr (some (g.length + 17)), .inl 0, .inl 0, .inl 0, .inl 0, .inl (-1), .inl 0, .inl 0], bz_co 8 [.inr (some (g.length + 2)), .inr (some (g.length + 3)), .inr (some (g.length + 4)), .inr (some (g.length + 5))], bz_ci 16 (fun _ => 0), bz_ci 16 (fun _ => 0), bz_ci 256 (fun _ => 0), bz_ci 256 wy, bz_co 4 [.inr (some (g.length + 7)), .inl 0], bz_ci 18 (fun _ => 0), bz_cr 1 24 (fun _ => none), bz_cr 2 12 (fun _ => none), bz_cr 3 8 (fun _ => none), bz_co 4 [.inr (some (g.length + 12)), .inl 0], bz_ci 72 (fun _ => 0), bz_co 4 [.inr (some (g.length + 14)), .inl 0], bz_ci 18 (fun _ => 0), bz_co 4 [.inr (some (g.length + 16)), .inl 0], bz_ci 60 (fun _ => 0), bz_ci 10 (fun _ => 0)]) rfl ?_
  refine lp_wI (i := 0) h5 rfl (Nat.le_of_ble_eq_true rfl) (l' := [bz_co 10 [.inr (some (g.length + 1)), .inr (some (g.length + 6)), .inr (some (g.length + 8)), .inr (some (g.length + 9)), .inr (some (g.length + 10)), .inr (some (g.length + 11)), .inr (some (g.length + 13)), .inr (some (g.length + 15)), .inr (some (g.length + 17)), .inl 0, .inl 0, .inl 0, .inl 0, .inl (-1), .inl (-1), .inl 0], bz_co 8 [.inr (some (g.length + 2)), .inr (some (g.length + 3)), .inr (some (g.length + 4)), .inr (some (g.length + 5))], bz_ci 16 (fun _ => 0), bz_ci 16 (fun _ => 0), bz_ci 256 (fun _ => 0), bz_ci 256 wy, bz_co 4 [.inr (some (g.length + 7)), .inl 0], bz_ci 18 (fun _ => 0), bz_cr 1 24 (fun _ => none), bz_cr 2 12 (fun _ => none), bz_cr 3 8 (fun _ => none), bz_co 4 [.inr (some (g.length + 12)), .inl 0], bz_ci 72 (fun _ => 0), bz_co 4 [.inr (some (g.length + 14)), .inl 0], bz_ci 18 (fun _ => 0), bz_co 4 [.inr (some (g.length + 16)), .inl 0], bz_ci 60 (fun _ => 0), bz_ci 10 (fun _ => 0)]) rfl ?_
  have hR := in_WorldR (G := G) (κ := κ) (d := d) (g := g) (P := P) (wy := wy) (fo := bz_upto (g.length + 18) 1 24) (os := List.replicate 24 bz_ord0) rfl h5 (fun sp hsp => hP wy sp hw1 hw2 hsp) 12 0 0 0 rfl
  have hO := in_WorldO (G := G) (κ := κ) (d := d) (g := g) (P := P) (wy := wy) h5 hR 24 0 rfl
  have e9 : bz_w0 g.length wy (bz_upto (g.length + 18) 1 0) (bz_upto (g.length + 42) 3 0) (fun _ => 0) ++ List.replicate 0 bz_ord0 = [bz_co 10 [.inr (some (g.length + 1)), .inr (some (g.length + 6)), .inr (some (g.length + 8)), .inr (some (g.length + 9)), .inr (some (g.length + 10)), .inr (some (g.length + 11)), .inr (some (g.length + 13)), .inr (some (g.length + 15)), .inr (some (g.length + 17)), .inl 0, .inl 0, .inl 0, .inl 0, .inl (-1), .inl (-1), .inl 0], bz_co 8 [.inr (some (g.length + 2)), .inr (some (g.length + 3)), .inr (some (g.length + 4)), .inr (some (g.length + 5))], bz_ci 16 (fun _ => 0), bz_ci 16 (fun _ => 0), bz_ci 256 (fun _ => 0), bz_ci 256 wy, bz_co 4 [.inr (some (g.length + 7)), .inl 0], bz_ci 18 (fun _ => 0), bz_cr 1 24 (fun _ => none), bz_cr 2 12 (fun _ => none), bz_cr 3 8 (fun _ => none), bz_co 4 [.inr (some (g.length + 12)), .inl 0], bz_ci 72 (fun _ => 0), bz_co 4 [.inr (some (g.length + 14)), .inl 0], bz_ci 18 (fun _ => 0), bz_co 4 [.inr (some (g.length + 16)), .inl 0], bz_ci 60 (fun _ => 0), bz_ci 10 (fun _ => 0)] := by
    rw [bz_upto_0, bz_upto_0]
    rfl
  rw [e9] at hO
  exact hO

theorem in_World' {l1 : bz_H} {n : Nat} (hn : l1.length = n) (h5 : 5 ≤ g.length) (hP : ∀ wy sp : Nat → Int32, (∀ c, c < 16 → wy (16 * c + c) = 0) → (∀ a b, a < 16 → b < 16 → a ≠ b → wy (16 * a + b) = -1) → (∀ j, j < 10 → sp j = -1) → P (g ++ (l1 ++ bz_wc (g.length + n) wy sp))) : bz_cV G l (d + 3) kX10_init [.inr (some (g.length + n))] (g ++ (l1 ++ [bz_co 10 [.inr none, .inr none, .inr none, .inr none, .inr none, .inr none, .inr none, .inr none, .inr none, .inl 0, .inl 0, .inl 0, .inl 0, .inl 0, .inl 0, .inl 0]])) 81 2352 P := by
  subst hn
  have hr := in_World (G := G) (l := l) (d := d) (g := g ++ l1) (P := P) (by rw [List.length_append]; omega) (fun wy sp h1 h2 h3 => by rw [List.length_append, List.append_assoc]; exact hP wy sp h1 h2 h3)
  rw [List.length_append, List.append_assoc, Nat.add_zero] at hr
  exact hr
def bz_she0 (b : Nat) : List bz_C := [bz_co 5 [.inr (some (b + 1)), .inl 0, .inl 0], bz_ci 60 (fun _ => 0)]
def bz_shs (b : Nat) : Nat → List bz_C
  | 0 => []
  | n + 1 => bz_shs b n ++ bz_she0 (b + 2 * n)
theorem bz_shs_len (b : Nat) : ∀ n, (bz_shs b n).length = 2 * n
  | 0 => rfl
  | n + 1 => by rw [bz_shs, List.length_append, bz_shs_len b n]; show 2 * n + 2 = _; omega
set_option maxRecDepth 20000 in
set_option maxHeartbeats 4000000 in
theorem in_XE {κ : bz_K} {bc bs : Nat} {ls : bz_H} {fw : List bz_V} (hl : κ.2.1 = l) (h5 : 5 ≤ g.length) (hn : ls.length = 168) (hw : ls[0]? = some (bz_co 10 fw)) (hf : fw[0]? = some (.inr (some (g.length + 2)))) {t1 t2 t3 t4 : Nat} (ht1 : t1 = g.length + 1)
    (hP : P (g ++ (bz_co 11 [.inr (some t1), .inr (some t2), .inl 0, .inr (some t3), .inr (some t4), .inr (some (g.length + 169)), .inr (some (g.length + 170)), .inr (some (g.length + 173)), .inr (some (g.length + 176))] :: (ls ++ [bz_ci 7 (fun _ => 0), bz_co 9 [.inr (some (g.length + 2)), .inr (some (g.length + (170 + 1))), .inr (some (g.length + (170 + 2))), .inl 0, .inl 0, .inl 0, .inl 0, .inl 0, .inl 0, .inl 0, .inl 0], bz_ci 4 (fun _ => 0), bz_ci 4 (fun _ => 0), bz_co 0 [.inr (some (g.length + (173 + 1))), .inr (some (g.length + (173 + 2)))], bz_ci 7 (fun _ => 0), bz_ci 80 (fun _ => 0), bz_co 1 [.inr (some t1), .inr (some (g.length + 170)), .inr (some (g.length + 173)), .inr (some (g.length + (176 + 1))), .inr (some (g.length + (176 + 2))), .inr (some (g.length + (176 + 3))), .inr (some (g.length + (176 + 4))), .inl 0, .inl 0, .inl 0], bz_ci 12 (fun _ => 0), bz_ci 12 (fun _ => 0), bz_ci 12 (fun _ => 0), bz_ci 24 (fun _ => 0)])))) :
    bz_J G κ kX11_init (d + 4) (fun v' h' => v' = none ∧ P h') (bc + 12) (bs + 185) 52 [some (.inr (some (g.length + 0))), some (.inl (nI 4))] [] (g ++ (bz_co 11 [.inr (some t1), .inr (some t2), .inl 0, .inr (some t3), .inr (some t4), .inr none, .inr none, .inr none, .inr none] :: ls)) := by
  subst ht1
  refine g_X11_init_52 (bc := bc) (bs := bs) hl _ _ _ ⟨fun _ => ?_, fun c => absurd (show (4 : Int32) ≤ nI 4 by decide) c⟩
  obtain ⟨XO, hXO⟩ : ∃ XO : (Option Nat → Option Nat → Option Nat → Option Nat → bz_C), XO = fun a b c e => bz_co 11 [.inr (some (g.length + 1)), .inr (some t2), .inl 0, .inr (some t3), .inr (some t4), .inr a, .inr b, .inr c, .inr e] := ⟨_, rfl⟩
  refine lp_an (m := 7) (n := 169) ⟨by decide, by decide⟩ (by decide) (by rw [List.length_cons, hn]) rfl ?_
  refine lp_wR (i := 0) h5 rfl (Nat.le_of_ble_eq_true rfl) rfl ?_
  refine lp_al (n := 170) (by simp [hn]) rfl ?_
  refine lp_rR (i := 0) h5 rfl rfl ?_
  refine ap_nn (lp_rR (i := 1) (fs := fw) h5 ?_ hf ?_)
  · cases ls with
    | nil => simp at hn
    | cons a r => simpa using hw
  refine in_Trip' (n := 170) (by simp [hn]) h5 ?_
  refine lp_wR (i := 0) h5 rfl (Nat.le_of_ble_eq_true rfl) rfl ?_
  refine lp_al (n := 173) (by simp [hn]) rfl ?_
  refine in_Names' (n := 173) (by simp [hn]) h5 ?_
  refine lp_wR (i := 0) h5 rfl (Nat.le_of_ble_eq_true rfl) rfl ?_
  refine lp_al (n := 176) (by simp [hn]) rfl ?_
  refine lp_rR (i := 0) h5 rfl rfl ?_
  refine lp_rR (i := 0) h5 rfl rfl ?_
  refine lp_rR (i := 0) h5 rfl rfl ?_
  refine in_Night' (n := 176) (by simp [hn]) h5 ?_
  refine lp_wR (i := 0) h5 rfl (Nat.le_of_ble_eq_true rfl) rfl ?_
  refine ⟨rfl, ?_⟩
  simp only [List.set_cons_zero, List.cons_append, List.append_assoc, List.nil_append] at hP ⊢
  exact hP
/-- the sheets -/
theorem in_XS {κ : bz_K} {ls : bz_H} {t1 t2 t3 : Nat} (hl : κ.2.1 = l) (h5 : 5 ≤ g.length) (hn : ls.length = 159) {bc bs : Nat} (hJ : bz_J G κ kX11_init (d + 4) (fun v' h' => v' = none ∧ P h') (bc + 12) (bs + 185) 52 [some (.inr (some (g.length + 0))), some (.inl (nI 4))] [] (g ++ (bz_co 11 [.inr (some t1), .inr (some t2), .inl 0, .inr (some t3), .inr (some (g.length + 160)), .inr none, .inr none, .inr none, .inr none] :: (ls ++ (bz_cr 4 4 (bz_upto (g.length + 161) 2 4) :: bz_shs (g.length + 161) 4))))) :
    ∀ (n q : Nat), 4 = q + n → bz_J G κ kX11_init (d + 4) (fun v' h' => v' = none ∧ P h') (bc + 12 * n + 12) (bs + 185 * n + 185) 52 [some (.inr (some (g.length + 0))), some (.inl (nI q))] [] (g ++ (bz_co 11 [.inr (some t1), .inr (some t2), .inl 0, .inr (some t3), .inr (some (g.length + 160)), .inr none, .inr none, .inr none, .inr none] :: (ls ++ (bz_cr 4 4 (bz_upto (g.length + 161) 2 q) :: bz_shs (g.length + 161) q)))) := by
  intro n
  induction n with
  | zero =>
    intro q h1
    have hq : q = 4 := by omega
    subst hq
    exact hJ
  | succ n ih =>
    intro q h1
    have e0 : bc + 12 * (n + 1) + 12 = (bc + 12 * n + 12) + 12 := by omega
    have e1 : bs + 185 * (n + 1) + 185 = (bs + 185 * n + 185) + 185 := by omega
    rw [e0, e1]
    refine g_X11_init_52 (bc := bc + 12 * n + 12) (bs := bs + 185 * n + 185) hl _ _ _ ⟨fun c => ?_, fun c => ?_⟩
    · exact absurd ((nI_leI (a := 4) (b := q) (by omega) (by omega)).mp c) (by omega)
    · refine lp_rR (i := 0) h5 rfl rfl ?_
      have hlen : (bz_co 11 [.inr (some t1), .inr (some t2), .inl 0, .inr (some t3), .inr (some (g.length + 160)), .inr none, .inr none, .inr none, .inr none] :: (ls ++ (bz_cr 4 4 (bz_upto (g.length + 161) 2 q) :: bz_shs (g.length + 161) q))).length = 161 + 2 * q := by
        rw [List.length_cons, List.length_append, hn, List.length_cons, bz_shs_len]
        omega
      refine lp_al hlen rfl ?_
      refine in_Sheet' hlen h5 ?_
      refine ap_nn ?_
      refine lp_wQ (i := 160) (m := 4) (t := 4) (f := bz_upto (g.length + 161) 2 q) (fs := [.inr (some (g.length + (161 + 2 * q + 1))), .inl 0, .inl 0]) h5 ?_ (by decide) (vp_in_nI (by omega) (by omega)) ?_ rfl ?_
      · rw [List.cons_append, List.getElem?_cons_succ, List.append_assoc, List.getElem?_append_right (by omega), hn, Nat.sub_self]
        rfl
      · rw [List.getElem?_append_right (by omega), hlen, Nat.sub_self]
        rfl
      · rw [nI_clamp (by omega), nI_1, show g.length + (161 + 2 * q) = g.length + 161 + 2 * q by omega, bz_upto_s]
        have := ih (q + 1) (by omega)
        rw [bz_shs] at this
        have e2 : ((bz_co 11 [.inr (some t1), .inr (some t2), .inl 0, .inr (some t3), .inr (some (g.length + 160)), .inr none, .inr none, .inr none, .inr none] :: (ls ++ (bz_cr 4 4 (bz_upto (g.length + 161) 2 q) :: bz_shs (g.length + 161) q))) ++ [bz_co 5 [.inr (some (g.length + (161 + 2 * q + 1))), .inl 0, .inl 0], bz_ci 60 (fun _ => 0)]).set 160 (bz_cr 4 4 (bz_upto (g.length + 161) 2 (q + 1))) = bz_co 11 [.inr (some t1), .inr (some t2), .inl 0, .inr (some t3), .inr (some (g.length + 160)), .inr none, .inr none, .inr none, .inr none] :: (ls ++ (bz_cr 4 4 (bz_upto (g.length + 161) 2 (q + 1)) :: (bz_shs (g.length + 161) q ++ bz_she0 (g.length + 161 + 2 * q)))) := by
          rw [List.cons_append, List.set_cons_succ, List.append_assoc, List.set_append_right _ _ (by omega), hn, Nat.sub_self, List.cons_append, List.set_cons_zero]
          unfold bz_she0
          rw [show g.length + (161 + 2 * q + 1) = g.length + 161 + 2 * q + 1 by omega]
        rw [e2]
        exact this
/-- all of a new BagRiders -/
def bz_xc (a : Nat) (wy sp wy2 sp2 : Nat → Int32) : List bz_C := bz_co 11 [.inr (some (a + 1)), .inr (some (a + 79)), .inl 0, .inr (some (a + 157)), .inr (some (a + 160)), .inr (some (a + 169)), .inr (some (a + 170)), .inr (some (a + 173)), .inr (some (a + 176))] :: ((bz_wc (a + 1) wy sp ++ (bz_wc (a + 79) wy2 sp2 ++ ([bz_co 6 [.inr (some (a + (157 + 1))), .inl 0, .inr (some (a + (157 + 2))), .inl 0, .inl 0, .inl 0, .inl 0, .inl 0], bz_ci 80 (fun _ => 0), bz_ci 80 (fun _ => 0)] ++ (bz_cr 4 4 (bz_upto (a + 161) 2 4) :: bz_shs (a + 161) 4)))) ++ [bz_ci 7 (fun _ => 0), bz_co 9 [.inr (some (a + 2)), .inr (some (a + (170 + 1))), .inr (some (a + (170 + 2))), .inl 0, .inl 0, .inl 0, .inl 0, .inl 0, .inl 0, .inl 0, .inl 0], bz_ci 4 (fun _ => 0), bz_ci 4 (fun _ => 0), bz_co 0 [.inr (some (a + (173 + 1))), .inr (some (a + (173 + 2)))], bz_ci 7 (fun _ => 0), bz_ci 80 (fun _ => 0), bz_co 1 [.inr (some (a + 1)), .inr (some (a + 170)), .inr (some (a + 173)), .inr (some (a + (176 + 1))), .inr (some (a + (176 + 2))), .inr (some (a + (176 + 3))), .inr (some (a + (176 + 4))), .inl 0, .inl 0, .inl 0], bz_ci 12 (fun _ => 0), bz_ci 12 (fun _ => 0), bz_ci 12 (fun _ => 0), bz_ci 24 (fun _ => 0)])
theorem bz_wc_len (a : Nat) (wy sp : Nat → Int32) : (bz_wc a wy sp).length = 78 := by
  unfold bz_wc
  rw [List.length_append, List.length_append, List.length_replicate, bz_rids_len]
  rfl
theorem bz_wc_0 (a : Nat) (wy sp : Nat → Int32) : ∃ fw, (bz_wc a wy sp)[0]? = some (bz_co 10 fw) ∧ fw[0]? = some (.inr (some (a + 1))) := ⟨_, rfl, rfl⟩
set_option maxRecDepth 20000 in
set_option maxHeartbeats 4000000 in
theorem in_X (h5 : 5 ≤ g.length) (hP : ∀ wy sp wy2 sp2 : Nat → Int32, (∀ c, c < 16 → wy (16 * c + c) = 0) → (∀ a b, a < 16 → b < 16 → a ≠ b → wy (16 * a + b) = -1) → (∀ j, j < 10 → sp j = -1) → P (g ++ bz_xc g.length wy sp wy2 sp2)) : bz_cV G l (d + 4) kX11_init [.inr (some (g.length + 0))] (g ++ [bz_co 11 [.inr none, .inr none, .inl 0, .inr none, .inr none, .inr none, .inr none, .inr none, .inr none]]) 228 5833 P := by
  refine m_X11_init (mc := 60) (ms := 925) (g.length + 0) _ (fun κ hl => ?_)
  unfold w_X11_init_0
  refine lp_al (n := 1) rfl rfl ?_
  refine in_World' (l1 := [bz_co 11 [.inr none, .inr none, .inl 0, .inr none, .inr none, .inr none, .inr none, .inr none, .inr none]]) (n := 1) rfl h5 (fun wy sp q1 q2 q3 => ?_)
  have hk1 := bz_wc_len (g.length + 1) wy sp
  obtain ⟨fw, hw1, hw2⟩ := bz_wc_0 (g.length + 1) wy sp
  generalize hW1 : bz_wc (g.length + 1) wy sp = W1 at hk1 hw1 ⊢
  refine lp_wR (i := 0) h5 rfl (Nat.le_of_ble_eq_true rfl) (l' := bz_co 11 [.inr (some (g.length + 1)), .inr none, .inl 0, .inr none, .inr none, .inr none, .inr none, .inr none, .inr none] :: W1) rfl ?_
  refine lp_al (n := 79) (by rw [List.length_cons, hk1]) rfl ?_
  refine in_World' (n := 79) (by rw [List.length_cons, hk1]) h5 (fun wy2 sp2 _ _ _ => ?_)
  have hk2 := bz_wc_len (g.length + 79) wy2 sp2
  generalize hW2 : bz_wc (g.length + 79) wy2 sp2 = W2 at hk2 ⊢
  refine lp_wR (i := 0) h5 rfl (Nat.le_of_ble_eq_true rfl) (l' := bz_co 11 [.inr (some (g.length + 1)), .inr (some (g.length + 79)), .inl 0, .inr none, .inr none, .inr none, .inr none, .inr none, .inr none] :: (W1 ++ W2)) rfl ?_
  refine ⟨Or.inl rfl, ?_⟩
  refine lp_wI (i := 0) h5 rfl (Nat.le_of_ble_eq_true rfl) (l' := bz_co 11 [.inr (some (g.length + 1)), .inr (some (g.length + 79)), .inl 0, .inr none, .inr none, .inr none, .inr none, .inr none, .inr none] :: (W1 ++ W2)) rfl ?_
  refine lp_al (n := 157) (by rw [List.length_cons, List.length_append, hk1, hk2]) rfl ?_
  refine in_Tape' (n := 157) (by rw [List.length_cons, List.length_append, hk1, hk2]) h5 ?_
  refine lp_wR (i := 0) h5 rfl (Nat.le_of_ble_eq_true rfl) (l' := bz_co 11 [.inr (some (g.length + 1)), .inr (some (g.length + 79)), .inl 0, .inr (some (g.length + 157)), .inr none, .inr none, .inr none, .inr none, .inr none] :: ((W1 ++ W2) ++ [bz_co 6 [.inr (some (g.length + (157 + 1))), .inl 0, .inr (some (g.length + (157 + 2))), .inl 0, .inl 0, .inl 0, .inl 0, .inl 0], bz_ci 80 (fun _ => 0), bz_ci 80 (fun _ => 0)])) rfl ?_
  refine lp_aq (m := 4) (n := 160) ⟨by decide, by decide⟩ (by decide) (by simp [hk1, hk2]) rfl ?_
  refine lp_wR (i := 0) h5 rfl (Nat.le_of_ble_eq_true rfl) (l' := bz_co 11 [.inr (some (g.length + 1)), .inr (some (g.length + 79)), .inl 0, .inr (some (g.length + 157)), .inr (some (g.length + 160)), .inr none, .inr none, .inr none, .inr none] :: (((W1 ++ W2) ++ [bz_co 6 [.inr (some (g.length + (157 + 1))), .inl 0, .inr (some (g.length + (157 + 2))), .inl 0, .inl 0, .inl 0, .inl 0, .inl 0], bz_ci 80 (fun _ => 0), bz_ci 80 (fun _ => 0)]) ++ [bz_cr 4 4 (fun _ => none)])) rfl ?_
  have hE := in_XE (G := G) (κ := κ) (d := d) (g := g) (P := P) (bc := 0) (bs := 0) (ls := ((W1 ++ W2) ++ [bz_co 6 [.inr (some (g.length + (157 + 1))), .inl 0, .inr (some (g.length + (157 + 2))), .inl 0, .inl 0, .inl 0, .inl 0, .inl 0], bz_ci 80 (fun _ => 0), bz_ci 80 (fun _ => 0)]) ++ (bz_cr 4 4 (bz_upto (g.length + 161) 2 4) :: bz_shs (g.length + 161) 4)) (fw := fw) (t1 := g.length + 1) (t2 := g.length + 79) (t3 := g.length + 157) (t4 := g.length + 160) hl h5 (by simp [hk1, hk2, bz_shs_len]) (by
    cases W1 with
    | nil => simp at hk1
    | cons a r => exact hw1) hw2 rfl (by
    have := hP wy sp wy2 sp2 q1 q2 q3
    unfold bz_xc at this
    rw [hW1, hW2] at this
    simp only [List.append_assoc, List.cons_append] at this ⊢
    exact this)
  have hS := in_XS (G := G) (κ := κ) (d := d) (g := g) (P := P) (ls := (W1 ++ W2) ++ [bz_co 6 [.inr (some (g.length + (157 + 1))), .inl 0, .inr (some (g.length + (157 + 2))), .inl 0, .inl 0, .inl 0, .inl 0, .inl 0], bz_ci 80 (fun _ => 0), bz_ci 80 (fun _ => 0)]) (t1 := g.length + 1) (t2 := g.length + 79) (t3 := g.length + 157) hl h5 (by rw [List.length_append, List.length_append, hk1, hk2]; rfl) (bc := 0) (bs := 0) hE 4 0 rfl
  rw [bz_upto_0] at hS
  exact hS
/-- a new reference -/
def bz_mc (a : Nat) (f : Nat → Int32) : List bz_C := [bz_co 12 [.inr (some (a + 1)), .inr (some (a + 2)), .inl 0, .inr (some (a + 3)), .inr (some (a + 4)), .inl 0, .inl 0, .inl 0, .inl 0, .inr (some (a + 5)), .inr (some (a + 6)), .inl 0, .inl 0, .inr (some (a + 7)), .inl 0, .inl 0, .inl 0, .inl 0, .inl 0, .inl 0, .inl 0, .inr (some (a + 8)), .inr (some (a + 9)), .inr (some (a + 10)), .inr (some (a + 11)), .inr (some (a + 12)), .inr (some (a + 13)), .inr (some (a + 14)), .inl 0, .inl 0, .inr (some (a + 15)), .inr (some (a + 16)), .inr (some (a + 17)), .inr (some (a + 18))], bz_ci 2296 f, bz_ci 2296 (fun _ => 0), bz_ci 7 (fun _ => 0), bz_ci 256 (fun _ => 0), bz_ci 2 (fun _ => 0), bz_ci 2 (fun _ => 0), bz_ci 80 (fun _ => 0), bz_ci 164 (fun _ => 0), bz_ci 128 (fun _ => 0), bz_ci 84 (fun _ => 0), bz_ci 12 (fun _ => 0), bz_ci 12 (fun _ => 0), bz_ci 12 (fun _ => 0), bz_ci 24 (fun _ => 0), bz_ci 4 (fun _ => 0), bz_ci 4 (fun _ => 0), bz_ci 240 (fun _ => 0), bz_ci 60 (fun _ => 0)]
theorem in_MJ {κ : bz_K} {bc bs : Nat} (h5 : 5 ≤ g.length) (hP : ∀ f : Nat → Int32, (∀ j, f j = if j = 5 ∨ j = 6 ∨ (966 ≤ j ∧ j < 976) then -1 else 0) → P (g ++ bz_mc g.length f)) :
    ∀ (n q : Nat) (f : Nat → Int32), 10 = q + n → (∀ j, f j = if j = 5 ∨ j = 6 ∨ (966 ≤ j ∧ j < 966 + q) then -1 else 0) → bz_J G κ kX12_init (d + 1) (fun v' h' => v' = none ∧ P h') bc bs 167 [some (.inr (some (g.length + 0))), some (.inl (nI q))] [] (g ++ bz_mc g.length f) := by
  intro n
  induction n with
  | zero =>
    intro q f h1 hf
    have hq : q = 10 := by omega
    subst hq
    exact g_X12_init_167 rfl _ _ _ ⟨fun _ => ⟨rfl, hP f hf⟩, fun c => absurd (show (10 : Int32) ≤ nI 10 by decide) c⟩
  | succ n ih =>
    intro q f h1 hf
    refine g_X12_init_167 rfl _ _ _ ⟨fun c => ?_, fun c => ?_⟩
    · exact absurd ((nI_leI (a := 10) (b := q) (by omega) (by omega)).mp c) (by omega)
    · refine lp_rR (i := 0) h5 rfl rfl ?_
      have e1 : (966 : Int32) + nI q = nI (966 + q) := nI_add 966 q
      rw [e1]
      refine ap_nn (lp_wA (i := 1) (m := 2296) h5 rfl (vp_in_nI (by omega) (by omega)) (l' := bz_mc g.length (upd f (966 + q) (-1))) (by rw [nI_clamp (by omega)]; rfl) ?_)
      rw [nI_1]
      refine ih (q + 1) _ (by omega) (fun j => ?_)
      by_cases hj : j = 966 + q
      · subst hj
        rw [pk_us, if_pos (by omega)]
      · rw [pk_un hj, hf j]
        by_cases h2 : j = 5 ∨ j = 6 ∨ (966 ≤ j ∧ j < 966 + q)
        · rw [if_pos h2, if_pos (by omega)]
        · rw [if_neg h2, if_neg (by omega)]
set_option maxRecDepth 20000 in
set_option maxHeartbeats 4000000 in
theorem in_M (h5 : 5 ≤ g.length) (hP : ∀ f : Nat → Int32, (∀ j, f j = if j = 5 ∨ j = 6 ∨ (966 ≤ j ∧ j < 976) then -1 else 0) → P (g ++ bz_mc g.length f)) : bz_cV G l (d + 1) kX12_init [.inr (some (g.length + 0))] (g ++ [bz_co 12 [.inr none, .inr none, .inl 0, .inr none, .inr none, .inl 0, .inl 0, .inl 0, .inl 0, .inr none, .inr none, .inl 0, .inl 0, .inr none, .inl 0, .inl 0, .inl 0, .inl 0, .inl 0, .inl 0, .inl 0, .inr none, .inr none, .inr none, .inr none, .inr none, .inr none, .inr none, .inl 0, .inl 0, .inr none, .inr none, .inr none, .inr none]]) 18 5683 P := by
  refine m_X12_init (mc := 0) (ms := 0) (g.length + 0) _ (fun κ hl => ?_)
  unfold w_X12_init_0
  refine lp_an (m := 2296) (n := 1) ⟨by decide, by decide⟩ (by decide) rfl (l' := [bz_co 12 [.inr none, .inr none, .inl 0, .inr none, .inr none, .inl 0, .inl 0, .inl 0, .inl 0, .inr none, .inr none, .inl 0, .inl 0, .inr none, .inl 0, .inl 0, .inl 0, .inl 0, .inl 0, .inl 0, .inl 0, .inr none, .inr none, .inr none, .inr none, .inr none, .inr none, .inr none, .inl 0, .inl 0, .inr none, .inr none, .inr none, .inr none], bz_ci 2296 (fun _ => 0)]) rfl ?_
  refine lp_wR (i := 0) h5 rfl (Nat.le_of_ble_eq_true rfl) (l' := [bz_co 12 [.inr (some (g.length + 1)), .inr none, .inl 0, .inr none, .inr none, .inl 0, .inl 0, .inl 0, .inl 0, .inr none, .inr none, .inl 0, .inl 0, .inr none, .inl 0, .inl 0, .inl 0, .inl 0, .inl 0, .inl 0, .inl 0, .inr none, .inr none, .inr none, .inr none, .inr none, .inr none, .inr none, .inl 0, .inl 0, .inr none, .inr none, .inr none, .inr none], bz_ci 2296 (fun _ => 0)]) rfl ?_
  refine lp_an (m := 2296) (n := 2) ⟨by decide, by decide⟩ (by decide) rfl (l' := [bz_co 12 [.inr (some (g.length + 1)), .inr none, .inl 0, .inr none, .inr none, .inl 0, .inl 0, .inl 0, .inl 0, .inr none, .inr none, .inl 0, .inl 0, .inr none, .inl 0, .inl 0, .inl 0, .inl 0, .inl 0, .inl 0, .inl 0, .inr none, .inr none, .inr none, .inr none, .inr none, .inr none, .inr none, .inl 0, .inl 0, .inr none, .inr none, .inr none, .inr none], bz_ci 2296 (fun _ => 0), bz_ci 2296 (fun _ => 0)]) rfl ?_
  refine lp_wR (i := 0) h5 rfl (Nat.le_of_ble_eq_true rfl) (l' := [bz_co 12 [.inr (some (g.length + 1)), .inr (some (g.length + 2)), .inl 0, .inr none, .inr none, .inl 0, .inl 0, .inl 0, .inl 0, .inr none, .inr none, .inl 0, .inl 0, .inr none, .inl 0, .inl 0, .inl 0, .inl 0, .inl 0, .inl 0, .inl 0, .inr none, .inr none, .inr none, .inr none, .inr none, .inr none, .inr none, .inl 0, .inl 0, .inr none, .inr none, .inr none, .inr none], bz_ci 2296 (fun _ => 0), bz_ci 2296 (fun _ => 0)]) rfl ?_
  refine lp_an (m := 7) (n := 3) ⟨by decide, by decide⟩ (by decide) rfl (l' := [bz_co 12 [.inr (some (g.length + 1)), .inr (some (g.length + 2)), .inl 0, .inr none, .inr none, .inl 0, .inl 0, .inl 0, .inl 0, .inr none, .inr none, .inl 0, .inl 0, .inr none, .inl 0, .inl 0, .inl 0, .inl 0, .inl 0, .inl 0, .inl 0, .inr none, .inr none, .inr none, .inr none, .inr none, .inr none, .inr none, .inl 0, .inl 0, .inr none, .inr none, .inr none, .inr none], bz_ci 2296 (fun _ => 0), bz_ci 2296 (fun _ => 0), bz_ci 7 (fun _ => 0)]) rfl ?_
  refine lp_wR (i := 0) h5 rfl (Nat.le_of_ble_eq_true rfl) (l' := [bz_co 12 [.inr (some (g.length + 1)), .inr (some (g.length + 2)), .inl 0, .inr (some (g.length + 3)), .inr none, .inl 0, .inl 0, .inl 0, .inl 0, .inr none, .inr none, .inl 0, .inl 0, .inr none, .inl 0, .inl 0, .inl 0, .inl 0, .inl 0, .inl 0, .inl 0, .inr none, .inr none, .inr none, .inr none, .inr none, .inr none, .inr none, .inl 0, .inl 0, .inr none, .inr none, .inr none, .inr none], bz_ci 2296 (fun _ => 0), bz_ci 2296 (fun _ => 0), bz_ci 7 (fun _ => 0)]) rfl ?_
  refine lp_an (m := 256) (n := 4) ⟨by decide, by decide⟩ (by decide) rfl (l' := [bz_co 12 [.inr (some (g.length + 1)), .inr (some (g.length + 2)), .inl 0, .inr (some (g.length + 3)), .inr none, .inl 0, .inl 0, .inl 0, .inl 0, .inr none, .inr none, .inl 0, .inl 0, .inr none, .inl 0, .inl 0, .inl 0, .inl 0, .inl 0, .inl 0, .inl 0, .inr none, .inr none, .inr none, .inr none, .inr none, .inr none, .inr none, .inl 0, .inl 0, .inr none, .inr none, .inr none, .inr none], bz_ci 2296 (fun _ => 0), bz_ci 2296 (fun _ => 0), bz_ci 7 (fun _ => 0), bz_ci 256 (fun _ => 0)]) rfl ?_
  refine lp_wR (i := 0) h5 rfl (Nat.le_of_ble_eq_true rfl) (l' := [bz_co 12 [.inr (some (g.length + 1)), .inr (some (g.length + 2)), .inl 0, .inr (some (g.length + 3)), .inr (some (g.length + 4)), .inl 0, .inl 0, .inl 0, .inl 0, .inr none, .inr none, .inl 0, .inl 0, .inr none, .inl 0, .inl 0, .inl 0, .inl 0, .inl 0, .inl 0, .inl 0, .inr none, .inr none, .inr none, .inr none, .inr none, .inr none, .inr none, .inl 0, .inl 0, .inr none, .inr none, .inr none, .inr none], bz_ci 2296 (fun _ => 0), bz_ci 2296 (fun _ => 0), bz_ci 7 (fun _ => 0), bz_ci 256 (fun _ => 0)]) rfl ?_
  refine lp_an (m := 2) (n := 5) ⟨by decide, by decide⟩ (by decide) rfl (l' := [bz_co 12 [.inr (some (g.length + 1)), .inr (some (g.length + 2)), .inl 0, .inr (some (g.length + 3)), .inr (some (g.length + 4)), .inl 0, .inl 0, .inl 0, .inl 0, .inr none, .inr none, .inl 0, .inl 0, .inr none, .inl 0, .inl 0, .inl 0, .inl 0, .inl 0, .inl 0, .inl 0, .inr none, .inr none, .inr none, .inr none, .inr none, .inr none, .inr none, .inl 0, .inl 0, .inr none, .inr none, .inr none, .inr none], bz_ci 2296 (fun _ => 0), bz_ci 2296 (fun _ => 0), bz_ci 7 (fun _ => 0), bz_ci 256 (fun _ => 0), bz_ci 2 (fun _ => 0)]) rfl ?_
  refine lp_wR (i := 0) h5 rfl (Nat.le_of_ble_eq_true rfl) (l' := [bz_co 12 [.inr (some (g.length + 1)), .inr (some (g.length + 2)), .inl 0, .inr (some (g.length + 3)), .inr (some (g.length + 4)), .inl 0, .inl 0, .inl 0, .inl 0, .inr (some (g.length + 5)), .inr none, .inl 0, .inl 0, .inr none, .inl 0, .inl 0, .inl 0, .inl 0, .inl 0, .inl 0, .inl 0, .inr none, .inr none, .inr none, .inr none, .inr none, .inr none, .inr none, .inl 0, .inl 0, .inr none, .inr none, .inr none, .inr none], bz_ci 2296 (fun _ => 0), bz_ci 2296 (fun _ => 0), bz_ci 7 (fun _ => 0), bz_ci 256 (fun _ => 0), bz_ci 2 (fun _ => 0)]) rfl ?_
  refine lp_an (m := 2) (n := 6) ⟨by decide, by decide⟩ (by decide) rfl (l' := [bz_co 12 [.inr (some (g.length + 1)), .inr (some (g.length + 2)), .inl 0, .inr (some (g.length + 3)), .inr (some (g.length + 4)), .inl 0, .inl 0, .inl 0, .inl 0, .inr (some (g.length + 5)), .inr none, .inl 0, .inl 0, .inr none, .inl 0, .inl 0, .inl 0, .inl 0, .inl 0, .inl 0, .inl 0, .inr none, .inr none, .inr none, .inr none, .inr none, .inr none, .inr none, .inl 0, .inl 0, .inr none, .inr none, .inr none, .inr none], bz_ci 2296 (fun _ => 0), bz_ci 2296 (fun _ => 0), bz_ci 7 (fun _ => 0), bz_ci 256 (fun _ => 0), bz_ci 2 (fun _ => 0), bz_ci 2 (fun _ => 0)]) rfl ?_
  refine lp_wR (i := 0) h5 rfl (Nat.le_of_ble_eq_true rfl) (l' := [bz_co 12 [.inr (some (g.length + 1)), .inr (some (g.length + 2)), .inl 0, .inr (some (g.length + 3)), .inr (some (g.length + 4)), .inl 0, .inl 0, .inl 0, .inl 0, .inr (some (g.length + 5)), .inr (some (g.length + 6)), .inl 0, .inl 0, .inr none, .inl 0, .inl 0, .inl 0, .inl 0, .inl 0, .inl 0, .inl 0, .inr none, .inr none, .inr none, .inr none, .inr none, .inr none, .inr none, .inl 0, .inl 0, .inr none, .inr none, .inr none, .inr none], bz_ci 2296 (fun _ => 0), bz_ci 2296 (fun _ => 0), bz_ci 7 (fun _ => 0), bz_ci 256 (fun _ => 0), bz_ci 2 (fun _ => 0), bz_ci 2 (fun _ => 0)]) rfl ?_
  refine lp_an (m := 80) (n := 7) ⟨by decide, by decide⟩ (by decide) rfl (l' := [bz_co 12 [.inr (some (g.length + 1)), .inr (some (g.length + 2)), .inl 0, .inr (some (g.length + 3)), .inr (some (g.length + 4)), .inl 0, .inl 0, .inl 0, .inl 0, .inr (some (g.length + 5)), .inr (some (g.length + 6)), .inl 0, .inl 0, .inr none, .inl 0, .inl 0, .inl 0, .inl 0, .inl 0, .inl 0, .inl 0, .inr none, .inr none, .inr none, .inr none, .inr none, .inr none, .inr none, .inl 0, .inl 0, .inr none, .inr none, .inr none, .inr none], bz_ci 2296 (fun _ => 0), bz_ci 2296 (fun _ => 0), bz_ci 7 (fun _ => 0), bz_ci 256 (fun _ => 0), bz_ci 2 (fun _ => 0), bz_ci 2 (fun _ => 0), bz_ci 80 (fun _ => 0)]) rfl ?_
  refine lp_wR (i := 0) h5 rfl (Nat.le_of_ble_eq_true rfl) (l' := [bz_co 12 [.inr (some (g.length + 1)), .inr (some (g.length + 2)), .inl 0, .inr (some (g.length + 3)), .inr (some (g.length + 4)), .inl 0, .inl 0, .inl 0, .inl 0, .inr (some (g.length + 5)), .inr (some (g.length + 6)), .inl 0, .inl 0, .inr (some (g.length + 7)), .inl 0, .inl 0, .inl 0, .inl 0, .inl 0, .inl 0, .inl 0, .inr none, .inr none, .inr none, .inr none, .inr none, .inr none, .inr none, .inl 0, .inl 0, .inr none, .inr none, .inr none, .inr none], bz_ci 2296 (fun _ => 0), bz_ci 2296 (fun _ => 0), bz_ci 7 (fun _ => 0), bz_ci 256 (fun _ => 0), bz_ci 2 (fun _ => 0), bz_ci 2 (fun _ => 0), bz_ci 80 (fun _ => 0)]) rfl ?_
  refine lp_an (m := 164) (n := 8) ⟨by decide, by decide⟩ (by decide) rfl (l' := [bz_co 12 [.inr (some (g.length + 1)), .inr (some (g.length + 2)), .inl 0, .inr (some (g.length + 3)), .inr (some (g.length + 4)), .inl 0, .inl 0, .inl 0, .inl 0, .inr (some (g.length + 5)), .inr (some (g.length + 6)), .inl 0, .inl 0, .inr (some (g.length + 7)), .inl 0, .inl 0, .inl 0, .inl 0, .inl 0, .inl 0, .inl 0, .inr none, .inr none, .inr none, .inr none, .inr none, .inr none, .inr none, .inl 0, .inl 0, .inr none, .inr none, .inr none, .inr none], bz_ci 2296 (fun _ => 0), bz_ci 2296 (fun _ => 0), bz_ci 7 (fun _ => 0), bz_ci 256 (fun _ => 0), bz_ci 2 (fun _ => 0), bz_ci 2 (fun _ => 0), bz_ci 80 (fun _ => 0), bz_ci 164 (fun _ => 0)]) rfl ?_
  refine lp_wR (i := 0) h5 rfl (Nat.le_of_ble_eq_true rfl) (l' := [bz_co 12 [.inr (some (g.length + 1)), .inr (some (g.length + 2)), .inl 0, .inr (some (g.length + 3)), .inr (some (g.length + 4)), .inl 0, .inl 0, .inl 0, .inl 0, .inr (some (g.length + 5)), .inr (some (g.length + 6)), .inl 0, .inl 0, .inr (some (g.length + 7)), .inl 0, .inl 0, .inl 0, .inl 0, .inl 0, .inl 0, .inl 0, .inr (some (g.length + 8)), .inr none, .inr none, .inr none, .inr none, .inr none, .inr none, .inl 0, .inl 0, .inr none, .inr none, .inr none, .inr none], bz_ci 2296 (fun _ => 0), bz_ci 2296 (fun _ => 0), bz_ci 7 (fun _ => 0), bz_ci 256 (fun _ => 0), bz_ci 2 (fun _ => 0), bz_ci 2 (fun _ => 0), bz_ci 80 (fun _ => 0), bz_ci 164 (fun _ => 0)]) rfl ?_
  refine lp_an (m := 128) (n := 9) ⟨by decide, by decide⟩ (by decide) rfl (l' := [bz_co 12 [.inr (some (g.length + 1)), .inr (some (g.length + 2)), .inl 0, .inr (some (g.length + 3)), .inr (some (g.length + 4)), .inl 0, .inl 0, .inl 0, .inl 0, .inr (some (g.length + 5)), .inr (some (g.length + 6)), .inl 0, .inl 0, .inr (some (g.length + 7)), .inl 0, .inl 0, .inl 0, .inl 0, .inl 0, .inl 0, .inl 0, .inr (some (g.length + 8)), .inr none, .inr none, .inr none, .inr none, .inr none, .inr none, .inl 0, .inl 0, .inr none, .inr none, .inr none, .inr none], bz_ci 2296 (fun _ => 0), bz_ci 2296 (fun _ => 0), bz_ci 7 (fun _ => 0), bz_ci 256 (fun _ => 0), bz_ci 2 (fun _ => 0), bz_ci 2 (fun _ => 0), bz_ci 80 (fun _ => 0), bz_ci 164 (fun _ => 0), bz_ci 128 (fun _ => 0)]) rfl ?_
  refine lp_wR (i := 0) h5 rfl (Nat.le_of_ble_eq_true rfl) (l' := [bz_co 12 [.inr (some (g.length + 1)), .inr (some (g.length + 2)), .inl 0, .inr (some (g.length + 3)), .inr (some (g.length + 4)), .inl 0, .inl 0, .inl 0, .inl 0, .inr (some (g.length + 5)), .inr (some (g.length + 6)), .inl 0, .inl 0, .inr (some (g.length + 7)), .inl 0, .inl 0, .inl 0, .inl 0, .inl 0, .inl 0, .inl 0, .inr (some (g.length + 8)), .inr (some (g.length + 9)), .inr none, .inr none, .inr none, .inr none, .inr none, .inl 0, .inl 0, .inr none, .inr none, .inr none, .inr none], bz_ci 2296 (fun _ => 0), bz_ci 2296 (fun _ => 0), bz_ci 7 (fun _ => 0), bz_ci 256 (fun _ => 0), bz_ci 2 (fun _ => 0), bz_ci 2 (fun _ => 0), bz_ci 80 (fun _ => 0), bz_ci 164 (fun _ => 0), bz_ci 128 (fun _ => 0)]) rfl ?_
  refine lp_an (m := 84) (n := 10) ⟨by decide, by decide⟩ (by decide) rfl (l' := [bz_co 12 [.inr (some (g.length + 1)), .inr (some (g.length + 2)), .inl 0, .inr (some (g.length + 3)), .inr (some (g.length + 4)), .inl 0, .inl 0, .inl 0, .inl 0, .inr (some (g.length + 5)), .inr (some (g.length + 6)), .inl 0, .inl 0, .inr (some (g.length + 7)), .inl 0, .inl 0, .inl 0, .inl 0, .inl 0, .inl 0, .inl 0, .inr (some (g.length + 8)), .inr (some (g.length + 9)), .inr none, .inr none, .inr none, .inr none, .inr none, .inl 0, .inl 0, .inr none, .inr none, .inr none, .inr none], bz_ci 2296 (fun _ => 0), bz_ci 2296 (fun _ => 0), bz_ci 7 (fun _ => 0), bz_ci 256 (fun _ => 0), bz_ci 2 (fun _ => 0), bz_ci 2 (fun _ => 0), bz_ci 80 (fun _ => 0), bz_ci 164 (fun _ => 0), bz_ci 128 (fun _ => 0), bz_ci 84 (fun _ => 0)]) rfl ?_
  refine lp_wR (i := 0) h5 rfl (Nat.le_of_ble_eq_true rfl) (l' := [bz_co 12 [.inr (some (g.length + 1)), .inr (some (g.length + 2)), .inl 0, .inr (some (g.length + 3)), .inr (some (g.length + 4)), .inl 0, .inl 0, .inl 0, .inl 0, .inr (some (g.length + 5)), .inr (some (g.length + 6)), .inl 0, .inl 0, .inr (some (g.length + 7)), .inl 0, .inl 0, .inl 0, .inl 0, .inl 0, .inl 0, .inl 0, .inr (some (g.length + 8)), .inr (some (g.length + 9)), .inr (some (g.length + 10)), .inr none, .inr none, .inr none, .inr none, .inl 0, .inl 0, .inr none, .inr none, .inr none, .inr none], bz_ci 2296 (fun _ => 0), bz_ci 2296 (fun _ => 0), bz_ci 7 (fun _ => 0), bz_ci 256 (fun _ => 0), bz_ci 2 (fun _ => 0), bz_ci 2 (fun _ => 0), bz_ci 80 (fun _ => 0), bz_ci 164 (fun _ => 0), bz_ci 128 (fun _ => 0), bz_ci 84 (fun _ => 0)]) rfl ?_
  refine lp_an (m := 12) (n := 11) ⟨by decide, by decide⟩ (by decide) rfl (l' := [bz_co 12 [.inr (some (g.length + 1)), .inr (some (g.length + 2)), .inl 0, .inr (some (g.length + 3)), .inr (some (g.length + 4)), .inl 0, .inl 0, .inl 0, .inl 0, .inr (some (g.length + 5)), .inr (some (g.length + 6)), .inl 0, .inl 0, .inr (some (g.length + 7)), .inl 0, .inl 0, .inl 0, .inl 0, .inl 0, .inl 0, .inl 0, .inr (some (g.length + 8)), .inr (some (g.length + 9)), .inr (some (g.length + 10)), .inr none, .inr none, .inr none, .inr none, .inl 0, .inl 0, .inr none, .inr none, .inr none, .inr none], bz_ci 2296 (fun _ => 0), bz_ci 2296 (fun _ => 0), bz_ci 7 (fun _ => 0), bz_ci 256 (fun _ => 0), bz_ci 2 (fun _ => 0), bz_ci 2 (fun _ => 0), bz_ci 80 (fun _ => 0), bz_ci 164 (fun _ => 0), bz_ci 128 (fun _ => 0), bz_ci 84 (fun _ => 0), bz_ci 12 (fun _ => 0)]) rfl ?_
  refine lp_wR (i := 0) h5 rfl (Nat.le_of_ble_eq_true rfl) (l' := [bz_co 12 [.inr (some (g.length + 1)), .inr (some (g.length + 2)), .inl 0, .inr (some (g.length + 3)), .inr (some (g.length + 4)), .inl 0, .inl 0, .inl 0, .inl 0, .inr (some (g.length + 5)), .inr (some (g.length + 6)), .inl 0, .inl 0, .inr (some (g.length + 7)), .inl 0, .inl 0, .inl 0, .inl 0, .inl 0, .inl 0, .inl 0, .inr (some (g.length + 8)), .inr (some (g.length + 9)), .inr (some (g.length + 10)), .inr (some (g.length + 11)), .inr none, .inr none, .inr none, .inl 0, .inl 0, .inr none, .inr none, .inr none, .inr none], bz_ci 2296 (fun _ => 0), bz_ci 2296 (fun _ => 0), bz_ci 7 (fun _ => 0), bz_ci 256 (fun _ => 0), bz_ci 2 (fun _ => 0), bz_ci 2 (fun _ => 0), bz_ci 80 (fun _ => 0), bz_ci 164 (fun _ => 0), bz_ci 128 (fun _ => 0), bz_ci 84 (fun _ => 0), bz_ci 12 (fun _ => 0)]) rfl ?_
  refine lp_an (m := 12) (n := 12) ⟨by decide, by decide⟩ (by decide) rfl (l' := [bz_co 12 [.inr (some (g.length + 1)), .inr (some (g.length + 2)), .inl 0, .inr (some (g.length + 3)), .inr (some (g.length + 4)), .inl 0, .inl 0, .inl 0, .inl 0, .inr (some (g.length + 5)), .inr (some (g.length + 6)), .inl 0, .inl 0, .inr (some (g.length + 7)), .inl 0, .inl 0, .inl 0, .inl 0, .inl 0, .inl 0, .inl 0, .inr (some (g.length + 8)), .inr (some (g.length + 9)), .inr (some (g.length + 10)), .inr (some (g.length + 11)), .inr none, .inr none, .inr none, .inl 0, .inl 0, .inr none, .inr none, .inr none, .inr none], bz_ci 2296 (fun _ => 0), bz_ci 2296 (fun _ => 0), bz_ci 7 (fun _ => 0), bz_ci 256 (fun _ => 0), bz_ci 2 (fun _ => 0), bz_ci 2 (fun _ => 0), bz_ci 80 (fun _ => 0), bz_ci 164 (fun _ => 0), bz_ci 128 (fun _ => 0), bz_ci 84 (fun _ => 0), bz_ci 12 (fun _ => 0), bz_ci 12 (fun _ => 0)]) rfl ?_
  refine lp_wR (i := 0) h5 rfl (Nat.le_of_ble_eq_true rfl) (l' := [bz_co 12 [.inr (some (g.length + 1)), .inr (some (g.length + 2)), .inl 0, .inr (some (g.length + 3)), .inr (some (g.length + 4)), .inl 0, .inl 0, .inl 0, .inl 0, .inr (some (g.length + 5)), .inr (some (g.length + 6)), .inl 0, .inl 0, .inr (some (g.length + 7)), .inl 0, .inl 0, .inl 0, .inl 0, .inl 0, .inl 0, .inl 0, .inr (some (g.length + 8)), .inr (some (g.length + 9)), .inr (some (g.length + 10)), .inr (some (g.length + 11)), .inr (some (g.length + 12)), .inr none, .inr none, .inl 0, .inl 0, .inr none, .inr none, .inr none, .inr none], bz_ci 2296 (fun _ => 0), bz_ci 2296 (fun _ => 0), bz_ci 7 (fun _ => 0), bz_ci 256 (fun _ => 0), bz_ci 2 (fun _ => 0), bz_ci 2 (fun _ => 0), bz_ci 80 (fun _ => 0), bz_ci 164 (fun _ => 0), bz_ci 128 (fun _ => 0), bz_ci 84 (fun _ => 0), bz_ci 12 (fun _ => 0), bz_ci 12 (fun _ => 0)]) rfl ?_
  refine lp_an (m := 12) (n := 13) ⟨by decide, by decide⟩ (by decide) rfl (l' := [bz_co 12 [.inr (some (g.length + 1)), .inr (some (g.length + 2)), .inl 0, .inr (some (g.length + 3)), .inr (some (g.length + 4)), .inl 0, .inl 0, .inl 0, .inl 0, .inr (some (g.length + 5)), .inr (some (g.length + 6)), .inl 0, .inl 0, .inr (some (g.length + 7)), .inl 0, .inl 0, .inl 0, .inl 0, .inl 0, .inl 0, .inl 0, .inr (some (g.length + 8)), .inr (some (g.length + 9)), .inr (some (g.length + 10)), .inr (some (g.length + 11)), .inr (some (g.length + 12)), .inr none, .inr none, .inl 0, .inl 0, .inr none, .inr none, .inr none, .inr none], bz_ci 2296 (fun _ => 0), bz_ci 2296 (fun _ => 0), bz_ci 7 (fun _ => 0), bz_ci 256 (fun _ => 0), bz_ci 2 (fun _ => 0), bz_ci 2 (fun _ => 0), bz_ci 80 (fun _ => 0), bz_ci 164 (fun _ => 0), bz_ci 128 (fun _ => 0), bz_ci 84 (fun _ => 0), bz_ci 12 (fun _ => 0), bz_ci 12 (fun _ => 0), bz_ci 12 (fun _ => 0)]) rfl ?_
  refine lp_wR (i := 0) h5 rfl (Nat.le_of_ble_eq_true rfl) (l' := [bz_co 12 [.inr (some (g.length + 1)), .inr (some (g.length + 2)), .inl 0, .inr (some (g.length + 3)), .inr (some (g.length + 4)), .inl 0, .inl 0, .inl 0, .inl 0, .inr (some (g.length + 5)), .inr (some (g.length + 6)), .inl 0, .inl 0, .inr (some (g.length + 7)), .inl 0, .inl 0, .inl 0, .inl 0, .inl 0, .inl 0, .inl 0, .inr (some (g.length + 8)), .inr (some (g.length + 9)), .inr (some (g.length + 10)), .inr (some (g.length + 11)), .inr (some (g.length + 12)), .inr (some (g.length + 13)), .inr none, .inl 0, .inl 0, .inr none, .inr none, .inr none, .inr none], bz_ci 2296 (fun _ => 0), bz_ci 2296 (fun _ => 0), bz_ci 7 (fun _ => 0), bz_ci 256 (fun _ => 0), bz_ci 2 (fun _ => 0), bz_ci 2 (fun _ => 0), bz_ci 80 (fun _ => 0), bz_ci 164 (fun _ => 0), bz_ci 128 (fun _ => 0), bz_ci 84 (fun _ => 0), bz_ci 12 (fun _ => 0), bz_ci 12 (fun _ => 0), bz_ci 12 (fun _ => 0)]) rfl ?_
  refine lp_an (m := 24) (n := 14) ⟨by decide, by decide⟩ (by decide) rfl (l' := [bz_co 12 [.inr (some (g.length + 1)), .inr (some (g.length + 2)), .inl 0, .inr (some (g.length + 3)), .inr (some (g.length + 4)), .inl 0, .inl 0, .inl 0, .inl 0, .inr (some (g.length + 5)), .inr (some (g.length + 6)), .inl 0, .inl 0, .inr (some (g.length + 7)), .inl 0, .inl 0, .inl 0, .inl 0, .inl 0, .inl 0, .inl 0, .inr (some (g.length + 8)), .inr (some (g.length + 9)), .inr (some (g.length + 10)), .inr (some (g.length + 11)), .inr (some (g.length + 12)), .inr (some (g.length + 13)), .inr none, .inl 0, .inl 0, .inr none, .inr none, .inr none, .inr none], bz_ci 2296 (fun _ => 0), bz_ci 2296 (fun _ => 0), bz_ci 7 (fun _ => 0), bz_ci 256 (fun _ => 0), bz_ci 2 (fun _ => 0), bz_ci 2 (fun _ => 0), bz_ci 80 (fun _ => 0), bz_ci 164 (fun _ => 0), bz_ci 128 (fun _ => 0), bz_ci 84 (fun _ => 0), bz_ci 12 (fun _ => 0), bz_ci 12 (fun _ => 0), bz_ci 12 (fun _ => 0), bz_ci 24 (fun _ => 0)]) rfl ?_
  refine lp_wR (i := 0) h5 rfl (Nat.le_of_ble_eq_true rfl) (l' := [bz_co 12 [.inr (some (g.length + 1)), .inr (some (g.length + 2)), .inl 0, .inr (some (g.length + 3)), .inr (some (g.length + 4)), .inl 0, .inl 0, .inl 0, .inl 0, .inr (some (g.length + 5)), .inr (some (g.length + 6)), .inl 0, .inl 0, .inr (some (g.length + 7)), .inl 0, .inl 0, .inl 0, .inl 0, .inl 0, .inl 0, .inl 0, .inr (some (g.length + 8)), .inr (some (g.length + 9)), .inr (some (g.length + 10)), .inr (some (g.length + 11)), .inr (some (g.length + 12)), .inr (some (g.length + 13)), .inr (some (g.length + 14)), .inl 0, .inl 0, .inr none, .inr none, .inr none, .inr none], bz_ci 2296 (fun _ => 0), bz_ci 2296 (fun _ => 0), bz_ci 7 (fun _ => 0), bz_ci 256 (fun _ => 0), bz_ci 2 (fun _ => 0), bz_ci 2 (fun _ => 0), bz_ci 80 (fun _ => 0), bz_ci 164 (fun _ => 0), bz_ci 128 (fun _ => 0), bz_ci 84 (fun _ => 0), bz_ci 12 (fun _ => 0), bz_ci 12 (fun _ => 0), bz_ci 12 (fun _ => 0), bz_ci 24 (fun _ => 0)]) rfl ?_
  refine lp_an (m := 4) (n := 15) ⟨by decide, by decide⟩ (by decide) rfl (l' := [bz_co 12 [.inr (some (g.length + 1)), .inr (some (g.length + 2)), .inl 0, .inr (some (g.length + 3)), .inr (some (g.length + 4)), .inl 0, .inl 0, .inl 0, .inl 0, .inr (some (g.length + 5)), .inr (some (g.length + 6)), .inl 0, .inl 0, .inr (some (g.length + 7)), .inl 0, .inl 0, .inl 0, .inl 0, .inl 0, .inl 0, .inl 0, .inr (some (g.length + 8)), .inr (some (g.length + 9)), .inr (some (g.length + 10)), .inr (some (g.length + 11)), .inr (some (g.length + 12)), .inr (some (g.length + 13)), .inr (some (g.length + 14)), .inl 0, .inl 0, .inr none, .inr none, .inr none, .inr none], bz_ci 2296 (fun _ => 0), bz_ci 2296 (fun _ => 0), bz_ci 7 (fun _ => 0), bz_ci 256 (fun _ => 0), bz_ci 2 (fun _ => 0), bz_ci 2 (fun _ => 0), bz_ci 80 (fun _ => 0), bz_ci 164 (fun _ => 0), bz_ci 128 (fun _ => 0), bz_ci 84 (fun _ => 0), bz_ci 12 (fun _ => 0), bz_ci 12 (fun _ => 0), bz_ci 12 (fun _ => 0), bz_ci 24 (fun _ => 0), bz_ci 4 (fun _ => 0)]) rfl ?_
  refine lp_wR (i := 0) h5 rfl (Nat.le_of_ble_eq_true rfl) (l' := [bz_co 12 [.inr (some (g.length + 1)), .inr (some (g.length + 2)), .inl 0, .inr (some (g.length + 3)), .inr (some (g.length + 4)), .inl 0, .inl 0, .inl 0, .inl 0, .inr (some (g.length + 5)), .inr (some (g.length + 6)), .inl 0, .inl 0, .inr (some (g.length + 7)), .inl 0, .inl 0, .inl 0, .inl 0, .inl 0, .inl 0, .inl 0, .inr (some (g.length + 8)), .inr (some (g.length + 9)), .inr (some (g.length + 10)), .inr (some (g.length + 11)), .inr (some (g.length + 12)), .inr (some (g.length + 13)), .inr (some (g.length + 14)), .inl 0, .inl 0, .inr (some (g.length + 15)), .inr none, .inr none, .inr none], bz_ci 2296 (fun _ => 0), bz_ci 2296 (fun _ => 0), bz_ci 7 (fun _ => 0), bz_ci 256 (fun _ => 0), bz_ci 2 (fun _ => 0), bz_ci 2 (fun _ => 0), bz_ci 80 (fun _ => 0), bz_ci 164 (fun _ => 0), bz_ci 128 (fun _ => 0), bz_ci 84 (fun _ => 0), bz_ci 12 (fun _ => 0), bz_ci 12 (fun _ => 0), bz_ci 12 (fun _ => 0), bz_ci 24 (fun _ => 0), bz_ci 4 (fun _ => 0)]) rfl ?_
  refine lp_an (m := 4) (n := 16) ⟨by decide, by decide⟩ (by decide) rfl (l' := [bz_co 12 [.inr (some (g.length + 1)), .inr (some (g.length + 2)), .inl 0, .inr (some (g.length + 3)), .inr (some (g.length + 4)), .inl 0, .inl 0, .inl 0, .inl 0, .inr (some (g.length + 5)), .inr (some (g.length + 6)), .inl 0, .inl 0, .inr (some (g.length + 7)), .inl 0, .inl 0, .inl 0, .inl 0, .inl 0, .inl 0, .inl 0, .inr (some (g.length + 8)), .inr (some (g.length + 9)), .inr (some (g.length + 10)), .inr (some (g.length + 11)), .inr (some (g.length + 12)), .inr (some (g.length + 13)), .inr (some (g.length + 14)), .inl 0, .inl 0, .inr (some (g.length + 15)), .inr none, .inr none, .inr none], bz_ci 2296 (fun _ => 0), bz_ci 2296 (fun _ => 0), bz_ci 7 (fun _ => 0), bz_ci 256 (fun _ => 0), bz_ci 2 (fun _ => 0), bz_ci 2 (fun _ => 0), bz_ci 80 (fun _ => 0), bz_ci 164 (fun _ => 0), bz_ci 128 (fun _ => 0), bz_ci 84 (fun _ => 0), bz_ci 12 (fun _ => 0), bz_ci 12 (fun _ => 0), bz_ci 12 (fun _ => 0), bz_ci 24 (fun _ => 0), bz_ci 4 (fun _ => 0), bz_ci 4 (fun _ => 0)]) rfl ?_
  refine lp_wR (i := 0) h5 rfl (Nat.le_of_ble_eq_true rfl) (l' := [bz_co 12 [.inr (some (g.length + 1)), .inr (some (g.length + 2)), .inl 0, .inr (some (g.length + 3)), .inr (some (g.length + 4)), .inl 0, .inl 0, .inl 0, .inl 0, .inr (some (g.length + 5)), .inr (some (g.length + 6)), .inl 0, .inl 0, .inr (some (g.length + 7)), .inl 0, .inl 0, .inl 0, .inl 0, .inl 0, .inl 0, .inl 0, .inr (some (g.length + 8)), .inr (some (g.length + 9)), .inr (some (g.length + 10)), .inr (some (g.length + 11)), .inr (some (g.length + 12)), .inr (some (g.length + 13)), .inr (some (g.length + 14)), .inl 0, .inl 0, .inr (some (g.length + 15)), .inr (some (g.length + 16)), .inr none, .inr none], bz_ci 2296 (fun _ => 0), bz_ci 2296 (fun _ => 0), bz_ci 7 (fun _ => 0), bz_ci 256 (fun _ => 0), bz_ci 2 (fun _ => 0), bz_ci 2 (fun _ => 0), bz_ci 80 (fun _ => 0), bz_ci 164 (fun _ => 0), bz_ci 128 (fun _ => 0), bz_ci 84 (fun _ => 0), bz_ci 12 (fun _ => 0), bz_ci 12 (fun _ => 0), bz_ci 12 (fun _ => 0), bz_ci 24 (fun _ => 0), bz_ci 4 (fun _ => 0), bz_ci 4 (fun _ => 0)]) rfl ?_
  refine lp_an (m := 240) (n := 17) ⟨by decide, by decide⟩ (by decide) rfl (l' := [bz_co 12 [.inr (some (g.length + 1)), .inr (some (g.length + 2)), .inl 0, .inr (some (g.length + 3)), .inr (some (g.length + 4)), .inl 0, .inl 0, .inl 0, .inl 0, .inr (some (g.length + 5)), .inr (some (g.length + 6)), .inl 0, .inl 0, .inr (some (g.length + 7)), .inl 0, .inl 0, .inl 0, .inl 0, .inl 0, .inl 0, .inl 0, .inr (some (g.length + 8)), .inr (some (g.length + 9)), .inr (some (g.length + 10)), .inr (some (g.length + 11)), .inr (some (g.length + 12)), .inr (some (g.length + 13)), .inr (some (g.length + 14)), .inl 0, .inl 0, .inr (some (g.length + 15)), .inr (some (g.length + 16)), .inr none, .inr none], bz_ci 2296 (fun _ => 0), bz_ci 2296 (fun _ => 0), bz_ci 7 (fun _ => 0), bz_ci 256 (fun _ => 0), bz_ci 2 (fun _ => 0), bz_ci 2 (fun _ => 0), bz_ci 80 (fun _ => 0), bz_ci 164 (fun _ => 0), bz_ci 128 (fun _ => 0), bz_ci 84 (fun _ => 0), bz_ci 12 (fun _ => 0), bz_ci 12 (fun _ => 0), bz_ci 12 (fun _ => 0), bz_ci 24 (fun _ => 0), bz_ci 4 (fun _ => 0), bz_ci 4 (fun _ => 0), bz_ci 240 (fun _ => 0)]) rfl ?_
  refine lp_wR (i := 0) h5 rfl (Nat.le_of_ble_eq_true rfl) (l' := [bz_co 12 [.inr (some (g.length + 1)), .inr (some (g.length + 2)), .inl 0, .inr (some (g.length + 3)), .inr (some (g.length + 4)), .inl 0, .inl 0, .inl 0, .inl 0, .inr (some (g.length + 5)), .inr (some (g.length + 6)), .inl 0, .inl 0, .inr (some (g.length + 7)), .inl 0, .inl 0, .inl 0, .inl 0, .inl 0, .inl 0, .inl 0, .inr (some (g.length + 8)), .inr (some (g.length + 9)), .inr (some (g.length + 10)), .inr (some (g.length + 11)), .inr (some (g.length + 12)), .inr (some (g.length + 13)), .inr (some (g.length + 14)), .inl 0, .inl 0, .inr (some (g.length + 15)), .inr (some (g.length + 16)), .inr (some (g.length + 17)), .inr none], bz_ci 2296 (fun _ => 0), bz_ci 2296 (fun _ => 0), bz_ci 7 (fun _ => 0), bz_ci 256 (fun _ => 0), bz_ci 2 (fun _ => 0), bz_ci 2 (fun _ => 0), bz_ci 80 (fun _ => 0), bz_ci 164 (fun _ => 0), bz_ci 128 (fun _ => 0), bz_ci 84 (fun _ => 0), bz_ci 12 (fun _ => 0), bz_ci 12 (fun _ => 0), bz_ci 12 (fun _ => 0), bz_ci 24 (fun _ => 0), bz_ci 4 (fun _ => 0), bz_ci 4 (fun _ => 0), bz_ci 240 (fun _ => 0)]) rfl ?_
  refine lp_an (m := 60) (n := 18) ⟨by decide, by decide⟩ (by decide) rfl (l' := [bz_co 12 [.inr (some (g.length + 1)), .inr (some (g.length + 2)), .inl 0, .inr (some (g.length + 3)), .inr (some (g.length + 4)), .inl 0, .inl 0, .inl 0, .inl 0, .inr (some (g.length + 5)), .inr (some (g.length + 6)), .inl 0, .inl 0, .inr (some (g.length + 7)), .inl 0, .inl 0, .inl 0, .inl 0, .inl 0, .inl 0, .inl 0, .inr (some (g.length + 8)), .inr (some (g.length + 9)), .inr (some (g.length + 10)), .inr (some (g.length + 11)), .inr (some (g.length + 12)), .inr (some (g.length + 13)), .inr (some (g.length + 14)), .inl 0, .inl 0, .inr (some (g.length + 15)), .inr (some (g.length + 16)), .inr (some (g.length + 17)), .inr none], bz_ci 2296 (fun _ => 0), bz_ci 2296 (fun _ => 0), bz_ci 7 (fun _ => 0), bz_ci 256 (fun _ => 0), bz_ci 2 (fun _ => 0), bz_ci 2 (fun _ => 0), bz_ci 80 (fun _ => 0), bz_ci 164 (fun _ => 0), bz_ci 128 (fun _ => 0), bz_ci 84 (fun _ => 0), bz_ci 12 (fun _ => 0), bz_ci 12 (fun _ => 0), bz_ci 12 (fun _ => 0), bz_ci 24 (fun _ => 0), bz_ci 4 (fun _ => 0), bz_ci 4 (fun _ => 0), bz_ci 240 (fun _ => 0), bz_ci 60 (fun _ => 0)]) rfl ?_
  refine lp_wR (i := 0) h5 rfl (Nat.le_of_ble_eq_true rfl) (l' := [bz_co 12 [.inr (some (g.length + 1)), .inr (some (g.length + 2)), .inl 0, .inr (some (g.length + 3)), .inr (some (g.length + 4)), .inl 0, .inl 0, .inl 0, .inl 0, .inr (some (g.length + 5)), .inr (some (g.length + 6)), .inl 0, .inl 0, .inr (some (g.length + 7)), .inl 0, .inl 0, .inl 0, .inl 0, .inl 0, .inl 0, .inl 0, .inr (some (g.length + 8)), .inr (some (g.length + 9)), .inr (some (g.length + 10)), .inr (some (g.length + 11)), .inr (some (g.length + 12)), .inr (some (g.length + 13)), .inr (some (g.length + 14)), .inl 0, .inl 0, .inr (some (g.length + 15)), .inr (some (g.length + 16)), .inr (some (g.length + 17)), .inr (some (g.length + 18))], bz_ci 2296 (fun _ => 0), bz_ci 2296 (fun _ => 0), bz_ci 7 (fun _ => 0), bz_ci 256 (fun _ => 0), bz_ci 2 (fun _ => 0), bz_ci 2 (fun _ => 0), bz_ci 80 (fun _ => 0), bz_ci 164 (fun _ => 0), bz_ci 128 (fun _ => 0), bz_ci 84 (fun _ => 0), bz_ci 12 (fun _ => 0), bz_ci 12 (fun _ => 0), bz_ci 12 (fun _ => 0), bz_ci 24 (fun _ => 0), bz_ci 4 (fun _ => 0), bz_ci 4 (fun _ => 0), bz_ci 240 (fun _ => 0), bz_ci 60 (fun _ => 0)]) rfl ?_
  refine lp_rR (i := 0) h5 rfl rfl ?_
  refine ap_nn (lp_wA (i := 1) (m := 2296) h5 rfl (vp_in_nI (n := 5) (by decide) (by decide)) rfl ?_)
  refine lp_rR (i := 0) h5 rfl rfl ?_
  refine ap_nn (lp_wA (i := 1) (m := 2296) h5 rfl (vp_in_nI (n := 6) (by decide) (by decide)) (l' := bz_mc g.length (upd (upd (fun _ => 0) 5 (-1)) 6 (-1))) rfl ?_)
  refine in_MJ h5 hP 10 0 _ rfl (fun j => ?_)
  by_cases h6 : j = 6
  · subst h6; rfl
  · rw [pk_un h6]
    by_cases h5' : j = 5
    · subst h5'; rfl
    · rw [pk_un h5', if_neg (by omega)]
/-- the state in which both begin -/
def bz_mu0 (wy sp wy2 sp2 f : Nat → Int32) : Nat → Nat → Int32 := fun a =>
  if a = 11 then wy else if a = 89 then wy2 else if a = 23 then sp else if a = 101 then sp2 else if a = 187 then f else
  if a = 6 ∨ a = 84 then (fun k => if k = 13 ∨ k = 14 then -1 else 0) else
  if 48 ≤ a ∧ a < 84 ∧ a % 3 = 0 then (fun k => if k = 0 then nI ((a - 48) / 3) else 0) else
  if 126 ≤ a ∧ a < 162 ∧ a % 3 = 0 then (fun k => if k = 0 then nI ((a - 126) / 3) else 0) else fun _ => 0
set_option maxRecDepth 100000 in
set_option maxHeartbeats 40000000 in
theorem bz_hp0 (E : Nat × (Nat → Int32)) (wy sp wy2 sp2 f : Nat → Int32) : bz_olds E ++ bz_xc 5 wy sp wy2 sp2 ++ bz_mc 186 f = bz_hp E (bz_mu0 wy sp wy2 sp2 f, (fun _ _ => none), []) := by
  unfold bz_hp
  rw [List.append_assoc]
  congr 1
end INI
