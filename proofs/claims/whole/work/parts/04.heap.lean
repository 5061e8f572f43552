set_option maxRecDepth 20000 in
theorem bz_in0 : ∀ w ∈ u_ws RX0 TX0 2, w ∈ bz_tbl := by
  intro w hw
  obtain ⟨k, hk, rfl⟩ := List.mem_map.mp hw
  have hk := List.mem_range.mp hk
  match k, hk with
  | 0, _ => exact bz_mem 478 (by decide +kernel) (by decide +kernel)
  | 1, _ => exact bz_mem 480 (by decide +kernel) (by decide +kernel)
  | n + 2, h => exact absurd h (by omega)
set_option maxRecDepth 20000 in
theorem bz_in1 : ∀ w ∈ u_ws RX1 TX1 10, w ∈ bz_tbl := by
  intro w hw
  obtain ⟨k, hk, rfl⟩ := List.mem_map.mp hw
  have hk := List.mem_range.mp hk
  match k, hk with
  | 0, _ => exact bz_mem 503 (by decide +kernel) (by decide +kernel)
  | 1, _ => exact bz_mem 505 (by decide +kernel) (by decide +kernel)
  | 2, _ => exact bz_mem 507 (by decide +kernel) (by decide +kernel)
  | 3, _ => exact bz_mem 509 (by decide +kernel) (by decide +kernel)
  | 4, _ => exact bz_mem 511 (by decide +kernel) (by decide +kernel)
  | 5, _ => exact bz_mem 513 (by decide +kernel) (by decide +kernel)
  | 6, _ => exact bz_mem 515 (by decide +kernel) (by decide +kernel)
  | 7, _ => exact bz_mem 517 (by decide +kernel) (by decide +kernel)
  | 8, _ => exact bz_mem 519 (by decide +kernel) (by decide +kernel)
  | 9, _ => exact bz_mem 521 (by decide +kernel) (by decide +kernel)
  | n + 10, h => exact absurd h (by omega)
set_option maxRecDepth 20000 in
theorem bz_in2 : ∀ w ∈ u_ws RX2 TX2 15, w ∈ bz_tbl := by
  intro w hw
  obtain ⟨k, hk, rfl⟩ := List.mem_map.mp hw
  have hk := List.mem_range.mp hk
  match k, hk with
  | 0, _ => exact bz_mem 216 (by decide +kernel) (by decide +kernel)
  | 1, _ => exact bz_mem 218 (by decide +kernel) (by decide +kernel)
  | 2, _ => exact bz_mem 220 (by decide +kernel) (by decide +kernel)
  | 3, _ => exact bz_mem 222 (by decide +kernel) (by decide +kernel)
  | 4, _ => exact bz_mem 224 (by decide +kernel) (by decide +kernel)
  | 5, _ => exact bz_mem 226 (by decide +kernel) (by decide +kernel)
  | 6, _ => exact bz_mem 228 (by decide +kernel) (by decide +kernel)
  | 7, _ => exact bz_mem 230 (by decide +kernel) (by decide +kernel)
  | 8, _ => exact bz_mem 232 (by decide +kernel) (by decide +kernel)
  | 9, _ => exact bz_mem 234 (by decide +kernel) (by decide +kernel)
  | 10, _ => exact bz_mem 236 (by decide +kernel) (by decide +kernel)
  | 11, _ => exact bz_mem 238 (by decide +kernel) (by decide +kernel)
  | 12, _ => exact bz_mem 240 (by decide +kernel) (by decide +kernel)
  | 13, _ => exact bz_mem 242 (by decide +kernel) (by decide +kernel)
  | 14, _ => exact bz_mem 244 (by decide +kernel) (by decide +kernel)
  | n + 15, h => exact absurd h (by omega)
set_option maxRecDepth 20000 in
theorem bz_in3 : ∀ w ∈ u_ws RX3 TX3 9, w ∈ bz_tbl := by
  intro w hw
  obtain ⟨k, hk, rfl⟩ := List.mem_map.mp hw
  have hk := List.mem_range.mp hk
  match k, hk with
  | 0, _ => exact bz_mem 278 (by decide +kernel) (by decide +kernel)
  | 1, _ => exact bz_mem 280 (by decide +kernel) (by decide +kernel)
  | 2, _ => exact bz_mem 282 (by decide +kernel) (by decide +kernel)
  | 3, _ => exact bz_mem 284 (by decide +kernel) (by decide +kernel)
  | 4, _ => exact bz_mem 286 (by decide +kernel) (by decide +kernel)
  | 5, _ => exact bz_mem 288 (by decide +kernel) (by decide +kernel)
  | 6, _ => exact bz_mem 290 (by decide +kernel) (by decide +kernel)
  | 7, _ => exact bz_mem 292 (by decide +kernel) (by decide +kernel)
  | 8, _ => exact bz_mem 294 (by decide +kernel) (by decide +kernel)
  | n + 9, h => exact absurd h (by omega)
set_option maxRecDepth 20000 in
theorem bz_in4 : ∀ w ∈ u_ws RX4 TX4 2, w ∈ bz_tbl := by
  intro w hw
  obtain ⟨k, hk, rfl⟩ := List.mem_map.mp hw
  have hk := List.mem_range.mp hk
  match k, hk with
  | 0, _ => exact bz_mem 155 (by decide +kernel) (by decide +kernel)
  | 1, _ => exact bz_mem 157 (by decide +kernel) (by decide +kernel)
  | n + 2, h => exact absurd h (by omega)
set_option maxRecDepth 20000 in
theorem bz_in5 : ∀ w ∈ u_ws RX5 TX5 3, w ∈ bz_tbl := by
  intro w hw
  obtain ⟨k, hk, rfl⟩ := List.mem_map.mp hw
  have hk := List.mem_range.mp hk
  match k, hk with
  | 0, _ => exact bz_mem 413 (by decide +kernel) (by decide +kernel)
  | 1, _ => exact bz_mem 415 (by decide +kernel) (by decide +kernel)
  | 2, _ => exact bz_mem 417 (by decide +kernel) (by decide +kernel)
  | n + 3, h => exact absurd h (by omega)
set_option maxRecDepth 20000 in
theorem bz_in6 : ∀ w ∈ u_ws RX6 TX6 8, w ∈ bz_tbl := by
  intro w hw
  obtain ⟨k, hk, rfl⟩ := List.mem_map.mp hw
  have hk := List.mem_range.mp hk
  match k, hk with
  | 0, _ => exact bz_mem 383 (by decide +kernel) (by decide +kernel)
  | 1, _ => exact bz_mem 385 (by decide +kernel) (by decide +kernel)
  | 2, _ => exact bz_mem 387 (by decide +kernel) (by decide +kernel)
  | 3, _ => exact bz_mem 389 (by decide +kernel) (by decide +kernel)
  | 4, _ => exact bz_mem 391 (by decide +kernel) (by decide +kernel)
  | 5, _ => exact bz_mem 393 (by decide +kernel) (by decide +kernel)
  | 6, _ => exact bz_mem 395 (by decide +kernel) (by decide +kernel)
  | 7, _ => exact bz_mem 397 (by decide +kernel) (by decide +kernel)
  | n + 8, h => exact absurd h (by omega)
set_option maxRecDepth 20000 in
theorem bz_in7 : ∀ w ∈ u_ws RX7 TX7 1, w ∈ bz_tbl := by
  intro w hw
  obtain ⟨k, hk, rfl⟩ := List.mem_map.mp hw
  have hk := List.mem_range.mp hk
  match k, hk with
  | 0, _ => exact bz_mem 989 (by decide +kernel) (by decide +kernel)
  | n + 1, h => exact absurd h (by omega)
set_option maxRecDepth 20000 in
theorem bz_in8 : ∀ w ∈ u_ws RX8 TX8 4, w ∈ bz_tbl := by
  intro w hw
  obtain ⟨k, hk, rfl⟩ := List.mem_map.mp hw
  have hk := List.mem_range.mp hk
  match k, hk with
  | 0, _ => exact bz_mem 134 (by decide +kernel) (by decide +kernel)
  | 1, _ => exact bz_mem 136 (by decide +kernel) (by decide +kernel)
  | 2, _ => exact bz_mem 138 (by decide +kernel) (by decide +kernel)
  | 3, _ => exact bz_mem 140 (by decide +kernel) (by decide +kernel)
  | n + 4, h => exact absurd h (by omega)
set_option maxRecDepth 20000 in
theorem bz_in9 : ∀ w ∈ u_ws RX9 TX9 11, w ∈ bz_tbl := by
  intro w hw
  obtain ⟨k, hk, rfl⟩ := List.mem_map.mp hw
  have hk := List.mem_range.mp hk
  match k, hk with
  | 0, _ => exact bz_mem 447 (by decide +kernel) (by decide +kernel)
  | 1, _ => exact bz_mem 449 (by decide +kernel) (by decide +kernel)
  | 2, _ => exact bz_mem 451 (by decide +kernel) (by decide +kernel)
  | 3, _ => exact bz_mem 453 (by decide +kernel) (by decide +kernel)
  | 4, _ => exact bz_mem 455 (by decide +kernel) (by decide +kernel)
  | 5, _ => exact bz_mem 457 (by decide +kernel) (by decide +kernel)
  | 6, _ => exact bz_mem 459 (by decide +kernel) (by decide +kernel)
  | 7, _ => exact bz_mem 461 (by decide +kernel) (by decide +kernel)
  | 8, _ => exact bz_mem 463 (by decide +kernel) (by decide +kernel)
  | 9, _ => exact bz_mem 465 (by decide +kernel) (by decide +kernel)
  | 10, _ => exact bz_mem 467 (by decide +kernel) (by decide +kernel)
  | n + 11, h => exact absurd h (by omega)
set_option maxRecDepth 20000 in
theorem bz_in10 : ∀ w ∈ u_ws RX10 TX10 16, w ∈ bz_tbl := by
  intro w hw
  obtain ⟨k, hk, rfl⟩ := List.mem_map.mp hw
  have hk := List.mem_range.mp hk
  match k, hk with
  | 0, _ => exact bz_mem 333 (by decide +kernel) (by decide +kernel)
  | 1, _ => exact bz_mem 335 (by decide +kernel) (by decide +kernel)
  | 2, _ => exact bz_mem 337 (by decide +kernel) (by decide +kernel)
  | 3, _ => exact bz_mem 339 (by decide +kernel) (by decide +kernel)
  | 4, _ => exact bz_mem 341 (by decide +kernel) (by decide +kernel)
  | 5, _ => exact bz_mem 343 (by decide +kernel) (by decide +kernel)
  | 6, _ => exact bz_mem 345 (by decide +kernel) (by decide +kernel)
  | 7, _ => exact bz_mem 347 (by decide +kernel) (by decide +kernel)
  | 8, _ => exact bz_mem 349 (by decide +kernel) (by decide +kernel)
  | 9, _ => exact bz_mem 351 (by decide +kernel) (by decide +kernel)
  | 10, _ => exact bz_mem 353 (by decide +kernel) (by decide +kernel)
  | 11, _ => exact bz_mem 355 (by decide +kernel) (by decide +kernel)
  | 12, _ => exact bz_mem 357 (by decide +kernel) (by decide +kernel)
  | 13, _ => exact bz_mem 359 (by decide +kernel) (by decide +kernel)
  | 14, _ => exact bz_mem 361 (by decide +kernel) (by decide +kernel)
  | 15, _ => exact bz_mem 363 (by decide +kernel) (by decide +kernel)
  | n + 16, h => exact absurd h (by omega)
set_option maxRecDepth 20000 in
theorem bz_in11 : ∀ w ∈ u_ws RX11 TX11 9, w ∈ bz_tbl := by
  intro w hw
  obtain ⟨k, hk, rfl⟩ := List.mem_map.mp hw
  have hk := List.mem_range.mp hk
  match k, hk with
  | 0, _ => exact bz_mem 533 (by decide +kernel) (by decide +kernel)
  | 1, _ => exact bz_mem 535 (by decide +kernel) (by decide +kernel)
  | 2, _ => exact bz_mem 537 (by decide +kernel) (by decide +kernel)
  | 3, _ => exact bz_mem 539 (by decide +kernel) (by decide +kernel)
  | 4, _ => exact bz_mem 541 (by decide +kernel) (by decide +kernel)
  | 5, _ => exact bz_mem 543 (by decide +kernel) (by decide +kernel)
  | 6, _ => exact bz_mem 545 (by decide +kernel) (by decide +kernel)
  | 7, _ => exact bz_mem 547 (by decide +kernel) (by decide +kernel)
  | 8, _ => exact bz_mem 549 (by decide +kernel) (by decide +kernel)
  | n + 9, h => exact absurd h (by omega)
set_option maxRecDepth 20000 in
theorem bz_in12 : ∀ w ∈ u_ws RX12 TX12 34, w ∈ bz_tbl := by
  intro w hw
  obtain ⟨k, hk, rfl⟩ := List.mem_map.mp hw
  have hk := List.mem_range.mp hk
  match k, hk with
  | 0, _ => exact bz_mem 1290 (by decide +kernel) (by decide +kernel)
  | 1, _ => exact bz_mem 1292 (by decide +kernel) (by decide +kernel)
  | 2, _ => exact bz_mem 1294 (by decide +kernel) (by decide +kernel)
  | 3, _ => exact bz_mem 1296 (by decide +kernel) (by decide +kernel)
  | 4, _ => exact bz_mem 1298 (by decide +kernel) (by decide +kernel)
  | 5, _ => exact bz_mem 1300 (by decide +kernel) (by decide +kernel)
  | 6, _ => exact bz_mem 1302 (by decide +kernel) (by decide +kernel)
  | 7, _ => exact bz_mem 1304 (by decide +kernel) (by decide +kernel)
  | 8, _ => exact bz_mem 1306 (by decide +kernel) (by decide +kernel)
  | 9, _ => exact bz_mem 1308 (by decide +kernel) (by decide +kernel)
  | 10, _ => exact bz_mem 1310 (by decide +kernel) (by decide +kernel)
  | 11, _ => exact bz_mem 1312 (by decide +kernel) (by decide +kernel)
  | 12, _ => exact bz_mem 1314 (by decide +kernel) (by decide +kernel)
  | 13, _ => exact bz_mem 1316 (by decide +kernel) (by decide +kernel)
  | 14, _ => exact bz_mem 1318 (by decide +kernel) (by decide +kernel)
  | 15, _ => exact bz_mem 1320 (by decide +kernel) (by decide +kernel)
  | 16, _ => exact bz_mem 1322 (by decide +kernel) (by decide +kernel)
  | 17, _ => exact bz_mem 1324 (by decide +kernel) (by decide +kernel)
  | 18, _ => exact bz_mem 1326 (by decide +kernel) (by decide +kernel)
  | 19, _ => exact bz_mem 1328 (by decide +kernel) (by decide +kernel)
  | 20, _ => exact bz_mem 1330 (by decide +kernel) (by decide +kernel)
  | 21, _ => exact bz_mem 1332 (by decide +kernel) (by decide +kernel)
  | 22, _ => exact bz_mem 1334 (by decide +kernel) (by decide +kernel)
  | 23, _ => exact bz_mem 1336 (by decide +kernel) (by decide +kernel)
  | 24, _ => exact bz_mem 1338 (by decide +kernel) (by decide +kernel)
  | 25, _ => exact bz_mem 1340 (by decide +kernel) (by decide +kernel)
  | 26, _ => exact bz_mem 1342 (by decide +kernel) (by decide +kernel)
  | 27, _ => exact bz_mem 1344 (by decide +kernel) (by decide +kernel)
  | 28, _ => exact bz_mem 1346 (by decide +kernel) (by decide +kernel)
  | 29, _ => exact bz_mem 1348 (by decide +kernel) (by decide +kernel)
  | 30, _ => exact bz_mem 1350 (by decide +kernel) (by decide +kernel)
  | 31, _ => exact bz_mem 1352 (by decide +kernel) (by decide +kernel)
  | 32, _ => exact bz_mem 1354 (by decide +kernel) (by decide +kernel)
  | 33, _ => exact bz_mem 1356 (by decide +kernel) (by decide +kernel)
  | n + 34, h => exact absurd h (by omega)
/-! classes: words, types, names; one row for all thirteen -/
def bz_tyOf (ci : Nat) : Nat → FieldType := match ci with
  | 0 => tyX0 | 1 => tyX1 | 2 => tyX2 | 3 => tyX3 | 4 => tyX4 | 5 => tyX5 | 6 => tyX6 | 7 => tyX7 | 8 => tyX8 | 9 => tyX9 | 10 => tyX10 | 11 => tyX11 | _ => tyX12
theorem bz_cl {ci : Nat} {q : vw_C} (h : vwCl[ci]? = some q) : (∀ w ∈ u_ws q.1 q.2.1 q.2.2, w ∈ bz_tbl) ∧ (∀ k, k < q.2.2 → parseFieldDescriptor (q.2.1 k).2.2.1 = some (bz_tyOf ci k)) ∧ (∀ a, a < q.2.2 → ∀ b, b < q.2.2 → a ≠ b → (q.2.1 a).2.1 ≠ (q.2.1 b).2.1) := by
  match ci, h with
  | 0, h => cases h; exact ⟨bz_in0, tyX0_ok, nmX0⟩
  | 1, h => cases h; exact ⟨bz_in1, tyX1_ok, nmX1⟩
  | 2, h => cases h; exact ⟨bz_in2, tyX2_ok, nmX2⟩
  | 3, h => cases h; exact ⟨bz_in3, tyX3_ok, nmX3⟩
  | 4, h => cases h; exact ⟨bz_in4, tyX4_ok, nmX4⟩
  | 5, h => cases h; exact ⟨bz_in5, tyX5_ok, nmX5⟩
  | 6, h => cases h; exact ⟨bz_in6, tyX6_ok, nmX6⟩
  | 7, h => cases h; exact ⟨bz_in7, tyX7_ok, nmX7⟩
  | 8, h => cases h; exact ⟨bz_in8, tyX8_ok, nmX8⟩
  | 9, h => cases h; exact ⟨bz_in9, tyX9_ok, nmX9⟩
  | 10, h => cases h; exact ⟨bz_in10, tyX10_ok, nmX10⟩
  | 11, h => cases h; exact ⟨bz_in11, tyX11_ok, nmX11⟩
  | 12, h => cases h; exact ⟨bz_in12, tyX12_ok, nmX12⟩
  | n + 13, h => simp [vwCl] at h
section BZH
variable {G : bz_G} {κ : bz_K} {y : bz_M} {d : Nat} {F : Option bz_V → bz_H → Prop} {bc bs pc : Nat} {ls : List (Option bz_V)} {st : List bz_V} {h : bz_H}
/-- a field's link: class number, place -/
def bz_FL (own : String) (ix ci k : Nat) : Prop := ∃ q : vw_C, vwCl[ci]? = some q ∧ k < q.2.2 ∧ Cond.fieldLink own ix (q.2.1 k).1 (q.2.1 k).2.1 (q.2.1 k).2.2.1 ∈ bz_tbl
theorem bz_at {G : bz_G} {h : bz_H} {H : Heap} {a ci : Nat} {fs : List bz_V} (w : bz_W G h H) (ha : bz_nb ≤ a) (hc : h[a]? = some (bz_co ci fs)) : va_P G.2.2.1 vwCl [(bz_adr G a, .inr (ci, fs.map (bz_v G)))] H := by
  intro k q hk
  match k, hk with
  | 0, hk => cases hk; exact w.2.2 a _ ha hc
  | n + 1, hk => simp at hk
theorem bz_arr {G : bz_G} {h : bz_H} {H : Heap} {s : State} {locs : List Loc} {a n : Nat} {f : Nat → Int32} (w : bz_W G h H) (hK : va_K G.2.2.1 vwCl (bz_tys G) s) (hold : bz_old G s s.heap) (hS : va_S (bz_A G) s.heap H locs) (ha5 : a < 3 ∨ bz_nb ≤ a) (hh : h[a]? = some (bz_ci n f)) :
    ∃ cell : Cell, H[bz_adr G a]? = some cell ∧ s.isArrayOf cell .int ∧ cell.vm ≠ .unknown ∧ n ≤ cell.slots.size ∧ cell.slots.size.toInt32 = Int32.ofNat n ∧ ∀ j : Nat, j < n → cell.slots[j]? = some (.int (f j)) := by
  by_cases ha : a < bz_nb
  · have e := w.2.1 a ha
    rw [hh] at e
    have e := Option.some.inj e
    by_cases ha3 : a < 3
    · obtain ⟨n', f', e', cell, h1, h2, h3, h4, h5, h6, h7⟩ := hold.1 a ha3
      rw [e'] at e
      cases e
      refine ⟨cell, ?_, h2, h3, h4, h5, h6⟩
      unfold bz_adr
      rw [if_pos ha, hS.2.1 _ (Array.getElem?_eq_some_iff.mp h1).1 h7]
      exact h1
    · omega
  · have h1 := w.2.2 a _ (by omega) hh
    refine ⟨vp_cell (G.2.2.2.1 0) (n, .inl f), h1, (hK.2 0 _ rfl).1 n (fun j => .int (f j)), (fun q => by cases q), ?_, ?_, fun j hj => ?_⟩
    · rw [vp_cell_i, arrV_size]; exact Nat.le_refl _
    · rw [vp_cell_i, arrV_size] <;> rfl
    · show (arrV _ _ _).slots[j]? = _
      rw [arrV_read _ _ hj]
theorem bz_sum (G : bz_G) : ∀ st : List bz_V, ((st.map (bz_v G)).map fun v => v.category).sum = st.length
  | [] => rfl
  | v :: r => by
    have := bz_sum G r
    rw [List.map_cons, List.map_cons, List.sum_cons, this, bz_cat, List.length_cons]
    omega
theorem bz_get {ix ci k0 a : Nat} {fs : List bz_V} {v : bz_V} (hd : decode y.2.1 pc = .ok (.getfield ix, 3)) (hf : bz_FL y.1.cls ix ci k0) (ha : bz_nb ≤ a) (hh : h[a]? = some (bz_co ci fs)) (hv : fs[k0]? = some v) (k : bz_J G κ y d F bc bs (pc + 3) ls (v :: st) h) : bz_J G κ y d F bc bs (pc) ls (.inr (some a) :: st) h := by
  obtain ⟨p, l, e, R, s, m, args, below, meth, c, Q⟩ := κ
  intro X H locs cells slots lsC hW hL hS hc hs
  obtain ⟨⟨C, T, N⟩, q1, q2, q3⟩ := hf
  exact va_get X.1 X.2.1 X.2.2.2.2.1 (bz_cl q1).1 X.2.2.2.1 X.2.2.2.2.2.2.1 (bz_at hW ha hh) 0 rfl q1 k0 q2 (X.2.2.2.2.1 _ q3) (fun _ h9 => h9) (by rw [List.getElem?_map, hv]; rfl) hd (k X H locs cells slots lsC hW hL hS hc hs)
theorem bz_put {ix ci k0 a : Nat} {fs : List bz_V} {v : bz_V} (hd : decode y.2.1 pc = .ok (.putfield ix, 3)) (hf : bz_FL y.1.cls ix ci k0) (ha : bz_nb ≤ a) (hh : h[a]? = some (bz_co ci fs)) (hl : k0 < fs.length) (hfin : ∀ q, vwCl[ci]? = some q → (q.2.1 k0).2.2.2 = false) (hn : narrow (bz_tyOf ci k0) (bz_v G v) = bz_v G v) (hfit : fits (bz_tyOf ci k0) (bz_v G v) = true) (k : bz_J G κ y d F bc bs (pc + 3) ls st (h.set a (bz_co ci (fs.set k0 v)))) : bz_J G κ y d F bc bs (pc) ls (v :: .inr (some a) :: st) h := by
  obtain ⟨p, l, e, R, s, m, args, below, meth, c, Q⟩ := κ
  intro X H locs cells slots lsC hW hL hS hc hs
  obtain ⟨⟨C, T, N⟩, q1, q2, q3⟩ := hf
  obtain ⟨hx, hb, hml, hown, hts, hnm, hK, hdd, hsz, hold, hend⟩ := X
  have hP := hW.2.2 a _ ha hh
  obtain ⟨w1, w2, w3⟩ := bz_cl q1
  have hap := va_apart (own := y.1.cls) (args := args) hts w1 (bz_tyOf ci) w2 w3 hK q1
  obtain ⟨r, h1, cell, p1, p2, p3, p4⟩ := hP
  have hr : r = (C, T, N) := Option.some.inj (h1.symm.trans q1)
  subst hr
  obtain ⟨hSl, hfc, kC, hkC, hkind⟩ := hK.1 ci _ q1
  obtain ⟨cf, kf, fi, f, hi, hsl⟩ := hSl k0 q2
  have hlay := hts _ (w1 _ (u_in_lay q2))
  unfold u_lay at hlay
  have hst := (u_facts hfc hkC (u_lays hts w1 q2) hi).1
  rw [if_neg (by rw [hfin _ q1]; decide)] at hlay
  have h6 := u_store hfc hkC hkind hlay hi (w2 k0 q2) hn hfit
  refine W.putK hx hb (f := f) ⟨hown, hts _ q3, ⟨_, _, _, hi⟩, hst⟩ (by rw [p2]; exact h6) p1 p3 (by rw [hsl]; exact k2_hasslot (p4 k0 q2)) rfl rfl hd fun H' e1 e2 e3 => ?_
  rw [hsl] at e1
  have hlen : k0 < (fs.map (bz_v G)).length := by rw [List.length_map]; exact hl
  have hal : a < h.length := (List.getElem?_eq_some_iff.mp hh).1
  rw [hsl]
  refine k ⟨hx, hb, hml, hown, hts, hnm, hK, hdd, hsz, hold, hend⟩ H' _ cells slots lsC (hW.set ha hal ?_ e2 e3) hL (hS.put e2 e3 ?_) hc hs
  · refine ⟨_, q1, ?_⟩
    show t_OB _ _ _ _ _ (vp_V (List.map (bz_v G) (fs.set k0 v)))
    rw [List.map_set]
    exact t_OB.to (V := updV (vp_V (fs.map (bz_v G))) k0 (bz_v G v)) ⟨_, e1, p2, p3, t_set p4 hap q2 _⟩ (fun j _ => vp_updV_set hlen _ j)
  · show G.1 ≤ bz_adr G a
    rw [bz_adr_hi G ha]
    omega
theorem bz_putF {ix ci k0 a : Nat} {fs : List bz_V} {v : bz_V} (hd : decode y.2.1 pc = .ok (.putfield ix, 3)) (hf : bz_FL y.1.cls ix ci k0) (ha : bz_nb ≤ a) (hh : h[a]? = some (bz_co ci fs)) (hl : k0 < fs.length) (hfin : ∀ q, vwCl[ci]? = some q → (q.2.1 k0).2.2.2 = true ∧ (q.2.1 k0).1 = y.1.cls) (hin : y.1.name = "<init>") (hn : narrow (bz_tyOf ci k0) (bz_v G v) = bz_v G v) (hfit : fits (bz_tyOf ci k0) (bz_v G v) = true) (k : bz_J G κ y d F bc bs (pc + 3) ls st (h.set a (bz_co ci (fs.set k0 v)))) : bz_J G κ y d F bc bs (pc) ls (v :: .inr (some a) :: st) h := by
  obtain ⟨p, l, e, R, s, m, args, below, meth, c, Q⟩ := κ
  intro X H locs cells slots lsC hW hL hS hc hs
  obtain ⟨⟨C, T, N⟩, q1, q2, q3⟩ := hf
  obtain ⟨hx, hb, hml, hown, hts, hnm, hK, hdd, hsz, hold, hend⟩ := X
  have hP := hW.2.2 a _ ha hh
  obtain ⟨w1, w2, w3⟩ := bz_cl q1
  have hap := va_apart (own := y.1.cls) (args := args) hts w1 (bz_tyOf ci) w2 w3 hK q1
  obtain ⟨r, h1, cell, p1, p2, p3, p4⟩ := hP
  have hr : r = (C, T, N) := Option.some.inj (h1.symm.trans q1)
  subst hr
  obtain ⟨hSl, hfc, kC, hkC, hkind⟩ := hK.1 ci _ q1
  obtain ⟨cf, kf, fi, f, hi, hsl⟩ := hSl k0 q2
  have hlay := hts _ (w1 _ (u_in_lay q2))
  unfold u_lay at hlay
  have hst := (u_facts hfc hkC (u_lays hts w1 q2) hi).1
  have hdecl := (hfin _ q1).2
  rw [if_pos (hfin _ q1).1] at hlay
  have hcf : m.cls = cf := by
    obtain ⟨_, _, c', _, _, _, -, -, hf', -, -, -, hown2, -⟩ := Cond.laysFinal_spec hlay
    have e1 : c' = cf := by have := hi.symm.trans hf'; simp at this; exact this.1.symm
    dsimp only at hdecl hown2
    rw [hdecl] at hown2
    rw [← e1]; exact Option.some.inj (hown.symm.trans hown2)
  have h6 := u_fits hfc hkC hkind (Or.inr hlay) hi (w2 k0 q2) hn hfit
  refine W.putFinK hx hb hown (hts _ q3) hi hst hcf (hnm hin) (by rw [p2]; exact h6) p1 p3 (by rw [hsl]; exact k2_hasslot (p4 k0 q2)) rfl rfl hd fun H' e1 e2 e3 => ?_
  rw [hsl] at e1
  have hlen : k0 < (fs.map (bz_v G)).length := by rw [List.length_map]; exact hl
  have hal : a < h.length := (List.getElem?_eq_some_iff.mp hh).1
  rw [hsl]
  refine k ⟨hx, hb, hml, hown, hts, hnm, hK, hdd, hsz, hold, hend⟩ H' _ cells slots lsC (hW.set ha hal ?_ e2 e3) hL (hS.put e2 e3 ?_) hc hs
  · refine ⟨_, q1, ?_⟩
    show t_OB _ _ _ _ _ (vp_V (List.map (bz_v G) (fs.set k0 v)))
    rw [List.map_set]
    exact t_OB.to (V := updV (vp_V (fs.map (bz_v G))) k0 (bz_v G v)) ⟨_, e1, p2, p3, t_set p4 hap q2 _⟩ (fun j _ => vp_updV_set hlen _ j)
  · show G.1 ≤ bz_adr G a
    rw [bz_adr_hi G ha]
    omega
theorem bz_iaload {a n : Nat} {f : Nat → Int32} {j : Int32} (hd : decode y.2.1 pc = .ok (.iaload, 1)) (ha : a < 3 ∨ bz_nb ≤ a) (hh : h[a]? = some (bz_ci n f)) (hin : vp_in j n) (k : bz_J G κ y d F bc bs (pc + 1) ls (.inl (f j.toNatClampNeg) :: st) h) : bz_J G κ y d F bc bs (pc) ls (.inl j :: .inr (some a) :: st) h := by
  obtain ⟨p, l, e, R, s, m, args, below, meth, c, Q⟩ := κ
  intro X H locs cells slots lsC hW hL hS hc hs
  obtain ⟨cell, g1, g2, g3, g4, g5, g6⟩ := bz_arr hW X.2.2.2.2.2.2.1 X.2.2.2.2.2.2.2.2.2.1 hS ha hh
  have hlt : j.toNatClampNeg < n := Nat.not_le.mp fun q => hin (Or.inr q)
  exact W.iald (v := .int (f j.toNatClampNeg)) X.1 X.2.1 g1 g2 g3 (fun q => hin (q.elim Or.inl (fun q => Or.inr (Nat.le_trans g4 q)))) (g6 _ hlt) rfl rfl hd (k X H locs cells slots lsC hW hL hS hc hs)
theorem bz_alen {a n : Nat} {f : Nat → Int32} (hd : decode y.2.1 pc = .ok (.arraylength, 1)) (ha : a < 3 ∨ bz_nb ≤ a) (hh : h[a]? = some (bz_ci n f)) (k : bz_J G κ y d F bc bs (pc + 1) ls (.inl (Int32.ofNat n) :: st) h) : bz_J G κ y d F bc bs (pc) ls (.inr (some a) :: st) h := by
  obtain ⟨p, l, e, R, s, m, args, below, meth, c, Q⟩ := κ
  intro X H locs cells slots lsC hW hL hS hc hs
  obtain ⟨cell, g1, g2, g3, g4, g5, g6⟩ := bz_arr hW X.2.2.2.2.2.2.1 X.2.2.2.2.2.2.2.2.2.1 hS ha hh
  exact W.alen (n := Int32.ofNat n) X.1 X.2.1 g1 g2 g5 rfl rfl hd (k X H locs cells slots lsC hW hL hS hc hs)
theorem bz_iastore {a n : Nat} {f : Nat → Int32} {j x : Int32} (hd : decode y.2.1 pc = .ok (.iastore, 1)) (ha : bz_nb ≤ a) (hh : h[a]? = some (bz_ci n f)) (hin : vp_in j n) (k : bz_J G κ y d F bc bs (pc + 1) ls st (h.set a (bz_ci n (upd f j.toNatClampNeg x)))) : bz_J G κ y d F bc bs (pc) ls (.inl x :: .inl j :: .inr (some a) :: st) h := by
  obtain ⟨p, l, e, R, s, m, args, below, meth, c, Q⟩ := κ
  intro X H locs cells slots lsC hW hL hS hc hs
  have h1 := hW.2.2 a _ ha hh
  refine W.iast X.1 X.2.1 h1 ((X.2.2.2.2.2.2.1.2 0 _ rfl).1 n (fun j => .int (f j))) (fun q => by cases q) (by show ¬ (j < 0 ∨ (arrV _ _ _).slots.size ≤ _); rw [arrV_size]; exact hin) rfl rfl hd fun H1 e z oq => ?_
  refine k X H1 _ cells slots lsC (hW.set ha (List.getElem?_eq_some_iff.mp hh).1 ?_ z oq) hL (hS.put z oq ?_) hc hs
  · show H1[bz_adr G a]? = some (vp_cell _ _)
    rw [e]
    rw [vp_cell_i, vp_cell_i, arrV_store]
    congr 2
    funext q
    by_cases hq : q = j.toNatClampNeg
    · subst hq
      simp [updV, upd]
    · simp [updV, upd, hq]
  · show G.1 ≤ bz_adr G a
    rw [bz_adr_hi G ha]
    omega
theorem bz_aaload {a t n : Nat} {C : String} {f : Nat → Option Nat} {j : Int32} (hd : decode y.2.1 pc = .ok (.aaload, 1)) (ha : bz_nb ≤ a) (hh : h[a]? = some (bz_cr t n f)) (ht : (bz_tys G)[t]? = some (G.2.2.2.1 t, .object C)) (hin : vp_in j n) (k : bz_J G κ y d F bc bs (pc + 1) ls (.inr (f j.toNatClampNeg) :: st) h) : bz_J G κ y d F bc bs (pc) ls (.inl j :: .inr (some a) :: st) h := by
  obtain ⟨p, l, e, R, s, m, args, below, meth, c, Q⟩ := κ
  intro X H locs cells slots lsC hW hL hS hc hs
  have h1 := hW.2.2 a _ ha hh
  have hlt : j.toNatClampNeg < n := Nat.not_le.mp fun q => hin (Or.inr q)
  have hk := k X H locs cells slots lsC hW hL hS hc hs
  have ev : bz_v G (.inr (f j.toNatClampNeg)) = va_rf ((f j.toNatClampNeg).map (bz_adr G)) := by cases f j.toNatClampNeg <;> rfl
  rw [List.map_cons, ev] at hk
  exact W.aald (v := va_rf ((f j.toNatClampNeg).map (bz_adr G))) (ty := .object C) X.1 X.2.1 h1 ((X.2.2.2.2.2.2.1.2 t _ ht).1 n (fun j => va_rf ((f j).map (bz_adr G)))) rfl (fun q => by cases q) (by show ¬ (j < 0 ∨ (arrV _ _ _).slots.size ≤ _); rw [arrV_size]; exact hin) (by show (arrV _ _ _).slots[_]? = _; rw [arrV_read _ _ hlt]) rfl rfl hd hk
theorem bz_aastore {a b t ci n : Nat} {q : vw_C} {vs : List bz_V} {f : Nat → Option Nat} {j : Int32} (hd : decode y.2.1 pc = .ok (.aastore, 1)) (ha : bz_nb ≤ a) (hh : h[a]? = some (bz_cr t n f)) (ht : (bz_tys G)[t]? = some (G.2.2.2.1 t, .object q.1)) (hb : bz_nb ≤ b) (hv : h[b]? = some (bz_co ci vs)) (hc1 : vwCl[ci]? = some q) (hin : vp_in j n) (k : bz_J G κ y d F bc bs (pc + 1) ls st (h.set a (bz_cr t n (va_up f j.toNatClampNeg (some b))))) : bz_J G κ y d F bc bs (pc) ls (.inr (some b) :: .inl j :: .inr (some a) :: st) h := by
  obtain ⟨p, l, e, R, s, m, args, below, meth, c, Q⟩ := κ
  intro X H locs cells slots lsC hW hL hS hc hs
  have h1 := hW.2.2 a _ ha hh
  have hlt : j.toNatClampNeg < n := Nat.not_le.mp fun q => hin (Or.inr q)
  have h0 : ¬ j < 0 := fun q => hin (Or.inl q)
  obtain ⟨r', hr', cellV, g1, g2, g3, -⟩ := hW.2.2 b _ hb hv
  have hcls := (X.2.2.2.2.2.2.1.1 ci q hc1).2
  obtain ⟨kA, comp, k1, k2, k3, -⟩ := (X.2.2.2.2.2.2.1.2 t _ ht).2
  have hcomp : comp = G.2.2.1.1 ci := Option.some.inj (k3.symm.trans hcls.1)
  subst hcomp
  obtain ⟨kC, hkC, -⟩ := hcls.2
  refine W.aast X.1 X.2.1 h1 (fun q h => by cases h) (fun h => by cases h) k1 k2 rfl hkC ⟨h0, by show _ < (arrV _ _ _).slots.size; rw [arrV_size]; exact hlt⟩ g1 (fun q h => by rw [g3] at h; cases h) (by rw [g2]; exact hkC) (by rw [g2]; exact va_assign hcls) rfl rfl hd fun H1 e z oq => ?_
  refine k X H1 _ cells slots lsC (hW.set ha (List.getElem?_eq_some_iff.mp hh).1 ?_ z oq) hL (hS.put z oq ?_) hc hs
  · show H1[bz_adr G a]? = some (vp_cell _ _)
    rw [e]
    rw [vp_cell_q, vp_cell_q, arrV_store]
    congr 2
    funext q
    by_cases hq : q = j.toNatClampNeg
    · subst hq
      simp [updV, va_up, va_rf]
    · simp [updV, va_up, hq]
  · show G.1 ≤ bz_adr G a
    rw [bz_adr_hi G ha]
    omega
theorem bz_aastoreN {a t n : Nat} {C : String} {f : Nat → Option Nat} {j : Int32} (hd : decode y.2.1 pc = .ok (.aastore, 1)) (ha : bz_nb ≤ a) (hh : h[a]? = some (bz_cr t n f)) (ht : (bz_tys G)[t]? = some (G.2.2.2.1 t, .object C)) (hin : vp_in j n) (k : bz_J G κ y d F bc bs (pc + 1) ls st (h.set a (bz_cr t n (va_up f j.toNatClampNeg none)))) : bz_J G κ y d F bc bs (pc) ls (.inr none :: .inl j :: .inr (some a) :: st) h := by
  obtain ⟨p, l, e, R, s, m, args, below, meth, c, Q⟩ := κ
  intro X H locs cells slots lsC hW hL hS hc hs
  have h1 := hW.2.2 a _ ha hh
  refine va_WaastN (C := C) X.1 X.2.1 h1 ((X.2.2.2.2.2.2.1.2 t _ ht).1 n (fun j => va_rf ((f j).map (bz_adr G)))) (fun h => by cases h) (by show ¬ (j < 0 ∨ (arrV _ _ _).slots.size ≤ _); rw [arrV_size]; exact hin) rfl rfl hd fun H1 e z oq => ?_
  refine k X H1 _ cells slots lsC (hW.set ha (List.getElem?_eq_some_iff.mp hh).1 ?_ z oq) hL (hS.put z oq ?_) hc hs
  · show H1[bz_adr G a]? = some (vp_cell _ _)
    rw [e]
    rw [vp_cell_q, vp_cell_q, arrV_store]
    congr 2
    funext q
    by_cases hq : q = j.toNatClampNeg
    · subst hq
      simp [updV, va_up, va_rf]
    · simp [updV, va_up, hq]
  · show G.1 ≤ bz_adr G a
    rw [bz_adr_hi G ha]
    omega
theorem bz_new {ix ci n : Nat} {q : vw_C} {fs : List bz_V} (hd : decode y.2.1 pc = .ok (.new ix, 3)) (hc1 : vwCl[ci]? = some q) (hw1 : Cond.classLink y.1.cls ix q.1 ∈ bz_tbl) (hw2 : Cond.instantiable q.1 q.2.2 ∈ bz_tbl) (hw3 : Cond.initialized q.1 ∈ bz_tbl) (hn : q.2.2 = n) (hfs : ∀ j, j < n → defaultValue (bz_tyOf ci j) = vp_V (fs.map (bz_v G)) j) (k : bz_J G κ y d F bc bs (pc + 3) ls (.inr (some h.length) :: st) (h ++ [bz_co ci fs])) : bz_J G κ y d F (bc + 1) (bs + n) (pc) ls st h := by
  obtain ⟨p, l, e, R, s, m, args, below, meth, c, Q⟩ := κ
  intro X H locs cells slots lsC hW hL hS hc hs
  subst hn
  obtain ⟨w1, w2, w3⟩ := bz_cl hc1
  have hKn := X.2.2.2.2.2.2.1.1 ci _ hc1
  refine W.newcK X.1 X.2.1 X.2.2.2.1 (X.2.2.2.2.1 _ hw1) (X.2.2.2.2.1 _ hw2) (X.2.2.2.2.1 _ hw3) rfl hd (by omega) (by omega) hKn.2.1 rfl fun H1 kC hkC e1 z1 o1 => ?_
  have hk := k X H1 locs (cells + 1) (slots + q.2.2) lsC (hW.push ⟨_, hc1, (u_born (bz_tyOf ci) X.2.2.2.2.1 w1 hKn hkC e1 w2).to hfs⟩ z1 o1) hL ⟨Nat.le_trans hS.1 (by omega), fun x h1 h2 => (o1 x (Nat.lt_of_lt_of_le h1 hS.1)).trans (hS.2.1 x h1 h2), hS.2.2⟩ (by omega) (by omega)
  rw [List.map_cons, show bz_v G (.inr (some h.length)) = .ref H.size by show Value.ref (bz_adr G h.length) = _; rw [hW.next]] at hk
  exact hk
theorem bz_newarr {j : Int32} {n : Nat} (hd : decode y.2.1 pc = .ok (.newarray .int, 2)) (hw : Cond.arrayClass .int ∈ bz_tbl) (h0 : ¬ j < 0) (hn : j.toNatClampNeg = n) (hb : n ≤ 100000) (k : bz_J G κ y d F bc bs (pc + 2) ls (.inr (some h.length) :: st) (h ++ [bz_ci n (fun _ => 0)])) : bz_J G κ y d F (bc + 1) (bs + n) (pc) ls (.inl j :: st) h := by
  obtain ⟨p, l, e, R, s, m, args, below, meth, c, Q⟩ := κ
  intro X H locs cells slots lsC hW hL hS hc hs
  refine va_newaK (atype := .int) X.1 X.2.1 (X.2.2.2.2.1 _ hw) rfl hd rfl h0 hn (by show n * 4 ≤ 536870912; omega) (by omega) (by omega) rfl fun H1 cA e1 z1 o1 hAr hNm => ?_
  have hcA : cA = G.2.2.2.1 0 := Option.some.inj (hNm.symm.trans (X.2.2.2.2.2.2.1.2 0 _ rfl).2)
  subst hcA
  have hk := k X H1 locs (cells + 1) (slots + n) lsC (hW.push (show H1[H.size]? = some (vp_cell _ _) from e1) z1 o1) hL ⟨Nat.le_trans hS.1 (by omega), fun x h1 h2 => (o1 x (Nat.lt_of_lt_of_le h1 hS.1)).trans (hS.2.1 x h1 h2), hS.2.2⟩ (by omega) (by omega)
  rw [List.map_cons, show bz_v G (.inr (some h.length)) = .ref H.size by show Value.ref (bz_adr G h.length) = _; rw [hW.next]] at hk
  exact hk
theorem bz_anew {ix t n : Nat} {C : String} {j : Int32} (hd : decode y.2.1 pc = .ok (.anewarray ix, 3)) (hw1 : Cond.classLink y.1.cls ix C ∈ bz_tbl) (hw2 : C ∈ [RX2, RX3, RX7, RX5]) (ht : (bz_tys G)[t]? = some (G.2.2.2.1 t, .object C)) (h0 : ¬ j < 0) (hn : j.toNatClampNeg = n) (hb : n ≤ 100000) (k : bz_J G κ y d F bc bs (pc + 3) ls (.inr (some h.length) :: st) (h ++ [bz_cr t n (fun _ => none)])) : bz_J G κ y d F (bc + 1) (bs + n) (pc) ls (.inl j :: st) h := by
  obtain ⟨p, l, e, R, s, m, args, below, meth, c, Q⟩ := κ
  intro X H locs cells slots lsC hW hL hS hc hs
  subst hn
  refine W.anew X.1 X.2.1 X.2.2.2.1 (X.2.2.2.2.1 _ hw1) (va_AO.use (X.2.2.2.2.2.2.2.2.2.1.2.2.2.2.2.2.2 C hw2)) rfl hd rfl h0 (by omega) (by omega) (by omega) fun cA kA comp f1 f2 f3 f4 => ?_
  obtain ⟨kA', comp', k1, k2, k3, k4⟩ := (X.2.2.2.2.2.2.1.2 t _ ht).2
  have hcA : cA = G.2.2.2.1 t := Option.some.inj (f1.symm.trans k4)
  subst hcA
  generalize hH1 : H.push ({ cls := G.2.2.2.1 t, slots := Array.replicate j.toNatClampNeg .null, vm := .none } : Cell) = H1
  have z1 : H1.size = H.size + 1 := by rw [← hH1, Array.size_push]
  have e1 : H1[H.size]? = some (arrV (G.2.2.2.1 t) j.toNatClampNeg (fun _ => .null)) := by rw [← hH1, Array.getElem?_push_size, ← arrV_new]
  have o1 : ∀ q : Nat, q < H.size → H1[q]? = H[q]? := fun q hq => by rw [← hH1, Array.getElem?_push, if_neg (Nat.ne_of_lt hq)]
  have hk := k X H1 locs (cells + 1) (slots + j.toNatClampNeg) lsC (hW.push (show H1[H.size]? = some (vp_cell _ _) from e1) z1 o1) hL ⟨Nat.le_trans hS.1 (by omega), fun x h1 h2 => (o1 x (Nat.lt_of_lt_of_le h1 hS.1)).trans (hS.2.1 x h1 h2), hS.2.2⟩ (by omega) (by omega)
  rw [List.map_cons, show bz_v G (.inr (some h.length)) = .ref H.size by show Value.ref (bz_adr G h.length) = _; rw [hW.next]] at hk
  exact hk
theorem bz_objInit {ix a : Nat} (hd : decode y.2.1 pc = .ok (.invokespecial ix, 3)) (hw1 : Cond.methodLink y.1.cls ix Lib.objectInit ∈ bz_tbl) (hw2 : Cond.instanceMethod Lib.objectInit ∈ bz_tbl) (hw3 : Cond.code Lib.objectInit ⟨#[0xb1]⟩ 1 none ∈ bz_tbl) (hd0 : 0 < d) (hst : st.length ≤ 8) (k : bz_J G κ y d F bc bs (pc + 3) ls st h) : bz_J G κ y d F bc bs (pc) ls (.inr (some a) :: st) h := by
  obtain ⟨p, l, e, R, s, m, args, below, meth, c, Q⟩ := κ
  intro X H locs cells slots lsC hW hL hS hc hs
  have hsum : ((st.map (bz_v G)).map fun v => v.category).sum = st.length := bz_sum G st
  refine W.objInit X.1 X.2.1 X.2.2.2.1 (X.2.2.2.2.1 _ hw1) (X.2.2.2.2.1 _ hw2) (X.2.2.2.2.1 _ hw3) rfl (by rw [X.2.2.1]; exact hL.1) rfl hd (by have := X.2.2.2.2.2.2.2.1.1; omega) ?_ (k X H locs cells slots lsC hW hL hS hc hs)
  show 2 * 0 + _ + 12 ≤ _
  have := X.2.2.2.2.2.2.2.1.2
  omega
end BZH
