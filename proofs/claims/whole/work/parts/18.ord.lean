/-! what the reference tells of an order and of a rider, as functions of its row -/
theorem bz_for {n : Nat} {Q : Nat → Prop} (hs : ∀ k, k < n → Q (k + 1) → Q k) (hl : Q n) : Q 0 := by
  have : ∀ m k, n - k = m → k ≤ n → Q k := by
    intro m
    induction m with
    | zero => intro k h1 h2; rw [show k = n by omega]; exact hl
    | succ m ih => intro k h1 h2; exact hs k (by omega) (ih (k + 1) (by omega) (by omega))
  exact this (n - 0) 0 rfl (Nat.zero_le _)
theorem tb_bo : ∀ o, o < 24 → ∀ w, w < 12 → tb_b (312 + 12 * o + w) = tb_o.getD w 0 := by decide +kernel
theorem tb_br : ∀ r, r < 12 → ∀ w, w < 8 → tb_b (600 + 8 * r + w) = tb_r.getD w 0 := by decide +kernel
theorem tb_ba : ∀ r, r < 12 → ∀ w, w < 9 → tb_b (726 + 9 * r + w) = tb_a.getD w 0 := by decide +kernel
theorem gb_o {s : Nat → Int32} (h : gd_b s) {o : Nat} (ho : o < 24) (w : Nat) (hw : w < 12) : bz_lt (s (312 + 12 * o + w)) (tb_o.getD w 0) := by
  rw [← tb_bo o ho w hw]
  exact h _ (by omega) (by omega) (by omega)
theorem gb_r {s : Nat → Int32} (h : gd_b s) {r : Nat} (hr : r < 12) (w : Nat) (hw : w < 8) : bz_lt (s (600 + 8 * r + w)) (tb_r.getD w 0) := by
  rw [← tb_br r hr w hw]
  exact h _ (by omega) (by omega) (by omega)
theorem gb_a {s : Nat → Int32} (h : gd_b s) {r : Nat} (hr : r < 12) (w : Nat) (hw : w < 9) : bz_lt (s (726 + 9 * r + w)) (tb_a.getD w 0) := by
  rw [← tb_ba r hr w hw]
  exact h _ (by omega) (by omega) (by omega)
def f_lateBy (s : Nat → Int32) (o : Nat) (x : Int32) : Int32 := if x - s (312 + 12 * o + 2) - s (312 + 12 * o + 3) ≤ 0 then 0 else x - s (312 + 12 * o + 2) - s (312 + 12 * o + 3)
def f_late (s : Nat → Int32) (o : Nat) : Int32 := f_lateBy s o (s (312 + 12 * o + 8))
def f_l0 (s : Nat → Int32) (o : Nat) : Int32 := s (312 + 12 * o + 4) / 5
def f_l1 (s : Nat → Int32) (o : Nat) : Int32 := if f_late s o / 5 - f_l0 s o ≤ 0 then 0 else f_late s o / 5 - f_l0 s o
def f_l2 (s : Nat → Int32) (o : Nat) : Int32 := (s (312 + 12 * o + 7) - f_rdy s o) / 4
def f_lack (s : Nat → Int32) (o : Nat) (p : Int32) : Int32 := if p = 0 then f_l0 s o else if p = 1 then f_l1 s o else f_l2 s o
def f_50 (x : Int32) : Int32 := if 50 ≤ x then 0 else 50 - x
def f_rat (s : Nat → Int32) (o : Nat) : Int32 := f_50 (f_l0 s o + f_l1 s o + f_l2 s o)
def f_is (s : Nat → Int32) (o : Nat) (x : Int32) : Int32 := if s (312 + 12 * o + 5) = x then 1 else 0
def f_his (s : Nat → Int32) (r o : Nat) : Int32 := if s (312 + 12 * o + 5) = 1 then (if s (312 + 12 * o + 6) = nI r then 1 else 0) else 0
/-- a sum over the numbers below n -/
def f_sum (g : Nat → Int32) : Nat → Int32
  | 0 => 0
  | k + 1 => f_sum g k + g k
def f_mo (s : Nat → Int32) (p : Int32) (r : Nat) : Int32 := if bz_in p (s (708 + 3 * r)) (s (708 + 3 * r + 1)) = 0 then 0 else s (708 + 3 * r + 2)
def f_pay (s : Nat → Int32) (o : Nat) : Int32 := s (312 + 12 * o + 9) + s (312 + 12 * o + 9) * f_sum (f_mo s (s (312 + 12 * o + 7))) (s 7).toNatClampNeg / 100
def f_pays (s : Nat → Int32) (r : Nat) : Int32 := f_sum (fun o => if f_his s r o = 0 then 0 else f_pay s o) (s 2).toNatClampNeg
def f_rats (s : Nat → Int32) (r : Nat) : Int32 := f_sum (fun o => if f_his s r o = 0 then 0 else f_rat s o) (s 2).toNatClampNeg
def f_ratR (s : Nat → Int32) (r : Nat) : Int32 := if s (600 + 8 * r + 3) = 0 then 25 else f_rats s r / s (600 + 8 * r + 3)
def f_en (s : Nat → Int32) (r t : Nat) : Int32 := if s (894 + 3 * t) = nI r then s (894 + 3 * t + 2) - s (894 + 3 * t + 1) else 0
def f_eng (s : Nat → Int32) (r : Nat) : Int32 := f_sum (f_en s r) (s 10).toNatClampNeg
def f_ref (v : Int32) : Int32 := f_sum (fun o => (v >>> (nI o &&& 31)) &&& 1) 24
section HLQ
variable {G : bz_G} {l : Launch} {d : Nat} {E : Nat × (Nat → Int32)} {S : bz_S} {P : Int32 → bz_H → Prop}
theorem M_lateBy {o : Nat} {x : Int32} (ho : o < 24) (hP : P (f_lateBy (S.1 187) o x) (bz_hp E S)) : bz_cI G l (d + 2) kX12_lateBy [.inr (some 186), .inl (nI o), .inl x] (bz_hp E S) 0 0 P := by
  refine m_X12_lateBy _ _ _ _ ?_
  unfold w_X12_lateBy_0
  repeat (first | ((with_reducible apply ap_rc); rfl) | ((with_reducible apply ap_nn)) | ((with_reducible apply ap_rR); rfl) | ((with_reducible apply M_ofOrder); rfl; (exact bz_lit _); omega; (first | omega | decide)) | ((with_reducible apply M_ofRider); rfl; (exact bz_lit _); omega; (first | omega | decide)) | ((with_reducible apply M_in)) | ((with_reducible apply X_isWithin)) | ((with_reducible apply ap_rI); rfl) | ((with_reducible apply ap_wI); rfl) | ((with_reducible apply ap_iA); rfl; (try simp only [bz_lit, pk_mul, nI_add]); rfl; omega) | ((with_reducible apply ap_iW); rfl; (try simp only [bz_lit, pk_mul, nI_add]); rfl; omega))
  exact ⟨_, rfl, hP⟩
theorem M_lateOf {o : Nat} (ho : o < 24) (hP : P (f_late (S.1 187) o) (bz_hp E S)) : bz_cI G l (d + 3) kX12_lateOf [.inr (some 186), .inl (nI o)] (bz_hp E S) 0 0 P := by
  refine m_X12_lateOf _ _ _ ?_
  unfold w_X12_lateOf_0
  repeat (first | ((with_reducible apply ap_rc); rfl) | ((with_reducible apply ap_nn)) | ((with_reducible apply ap_rR); rfl) | ((with_reducible apply M_ofOrder); rfl; (exact bz_lit _); omega; (first | omega | decide)) | ((with_reducible apply M_ofRider); rfl; (exact bz_lit _); omega; (first | omega | decide)) | ((with_reducible apply M_in)) | ((with_reducible apply X_isWithin)) | ((with_reducible apply ap_rI); rfl) | ((with_reducible apply ap_wI); rfl) | ((with_reducible apply ap_iA); rfl; (try simp only [bz_lit, pk_mul, nI_add]); rfl; omega) | ((with_reducible apply ap_iW); rfl; (try simp only [bz_lit, pk_mul, nI_add]); rfl; omega))
  exact M_lateBy ho ⟨_, rfl, hP⟩
theorem M_lack {o : Nat} {x : Int32} (ho : o < 24) (hg : gd_b (S.1 187)) (hP : P (f_lack (S.1 187) o x) (bz_hp E S)) : bz_cI G l (d + 4) kX12_lack [.inr (some 186), .inl (nI o), .inl x] (bz_hp E S) 0 0 P := by
  refine m_X12_lack _ _ _ _ ?_
  unfold w_X12_lack_0
  unfold f_lack at hP
  repeat (first | ((with_reducible apply ap_rc); rfl) | ((with_reducible apply ap_nn)) | ((with_reducible apply ap_rR); rfl) | ((with_reducible apply M_ofOrder); rfl; (exact bz_lit _); omega; (first | omega | decide)) | ((with_reducible apply M_ofRider); rfl; (exact bz_lit _); omega; (first | omega | decide)) | ((with_reducible apply M_in)) | ((with_reducible apply X_isWithin)) | ((with_reducible apply ap_rI); rfl) | ((with_reducible apply ap_wI); rfl) | ((with_reducible apply ap_iA); rfl; (try simp only [bz_lit, pk_mul, nI_add]); rfl; omega) | ((with_reducible apply ap_iW); rfl; (try simp only [bz_lit, pk_mul, nI_add]); rfl; omega))
  refine M_lateOf ho ⟨fun c => ⟨fun c1 => ?_, fun c1 => ?_⟩, fun c => ?_⟩
  · rw [if_neg c, if_neg c1] at hP
    repeat (first | ((with_reducible apply ap_rc); rfl) | ((with_reducible apply ap_nn)) | ((with_reducible apply ap_rR); rfl) | ((with_reducible apply M_ofOrder); rfl; (exact bz_lit _); omega; (first | omega | decide)) | ((with_reducible apply M_ofRider); rfl; (exact bz_lit _); omega; (first | omega | decide)) | ((with_reducible apply M_in)) | ((with_reducible apply X_isWithin)) | ((with_reducible apply ap_rI); rfl) | ((with_reducible apply ap_wI); rfl) | ((with_reducible apply ap_iA); rfl; (try simp only [bz_lit, pk_mul, nI_add]); rfl; omega) | ((with_reducible apply ap_iW); rfl; (try simp only [bz_lit, pk_mul, nI_add]); rfl; omega))
    exact M_ready ho (gb_o hg ho 0 (by decide)) ⟨_, rfl, hP⟩
  · rw [if_neg c, if_pos c1] at hP
    exact ⟨_, rfl, hP⟩
  · rw [if_pos c] at hP
    exact ⟨_, rfl, hP⟩
theorem M_lessOf50 {x : Int32} {h : bz_H} (hP : P (f_50 x) h) : bz_cI G l (d + 1) kX12_lessOf50 [.inl x] h 0 0 P := m_X12_lessOf50 _ _ ⟨_, rfl, hP⟩
theorem M_ratingOf {o : Nat} (ho : o < 24) (hg : gd_b (S.1 187)) (hP : P (f_rat (S.1 187) o) (bz_hp E S)) : bz_cI G l (d + 5) kX12_ratingOf [.inr (some 186), .inl (nI o)] (bz_hp E S) 0 0 P := by
  refine m_X12_ratingOf _ _ _ ?_
  unfold w_X12_ratingOf_0
  repeat (first | ((with_reducible apply ap_rc); rfl) | ((with_reducible apply ap_nn)) | ((with_reducible apply ap_rR); rfl) | ((with_reducible apply M_ofOrder); rfl; (exact bz_lit _); omega; (first | omega | decide)) | ((with_reducible apply M_ofRider); rfl; (exact bz_lit _); omega; (first | omega | decide)) | ((with_reducible apply M_in)) | ((with_reducible apply X_isWithin)) | ((with_reducible apply ap_rI); rfl) | ((with_reducible apply ap_wI); rfl) | ((with_reducible apply ap_iA); rfl; (try simp only [bz_lit, pk_mul, nI_add]); rfl; omega) | ((with_reducible apply ap_iW); rfl; (try simp only [bz_lit, pk_mul, nI_add]); rfl; omega))
  refine M_lack ho hg ?_
  repeat (first | ((with_reducible apply ap_rc); rfl) | ((with_reducible apply ap_nn)) | ((with_reducible apply ap_rR); rfl) | ((with_reducible apply M_ofOrder); rfl; (exact bz_lit _); omega; (first | omega | decide)) | ((with_reducible apply M_ofRider); rfl; (exact bz_lit _); omega; (first | omega | decide)) | ((with_reducible apply M_in)) | ((with_reducible apply X_isWithin)) | ((with_reducible apply ap_rI); rfl) | ((with_reducible apply ap_wI); rfl) | ((with_reducible apply ap_iA); rfl; (try simp only [bz_lit, pk_mul, nI_add]); rfl; omega) | ((with_reducible apply ap_iW); rfl; (try simp only [bz_lit, pk_mul, nI_add]); rfl; omega))
  refine M_lack ho hg ?_
  repeat (first | ((with_reducible apply ap_rc); rfl) | ((with_reducible apply ap_nn)) | ((with_reducible apply ap_rR); rfl) | ((with_reducible apply M_ofOrder); rfl; (exact bz_lit _); omega; (first | omega | decide)) | ((with_reducible apply M_ofRider); rfl; (exact bz_lit _); omega; (first | omega | decide)) | ((with_reducible apply M_in)) | ((with_reducible apply X_isWithin)) | ((with_reducible apply ap_rI); rfl) | ((with_reducible apply ap_wI); rfl) | ((with_reducible apply ap_iA); rfl; (try simp only [bz_lit, pk_mul, nI_add]); rfl; omega) | ((with_reducible apply ap_iW); rfl; (try simp only [bz_lit, pk_mul, nI_add]); rfl; omega))
  refine M_lack ho hg ?_
  exact M_lessOf50 ⟨_, rfl, hP⟩
theorem M_isGiven {o : Nat} (ho : o < 24) (hP : P (f_is (S.1 187) o 1) (bz_hp E S)) : bz_cI G l (d + 2) kX12_isGiven [.inr (some 186), .inl (nI o)] (bz_hp E S) 0 0 P := by
  refine m_X12_isGiven _ _ _ ?_
  unfold w_X12_isGiven_0
  repeat (first | ((with_reducible apply ap_rc); rfl) | ((with_reducible apply ap_nn)) | ((with_reducible apply ap_rR); rfl) | ((with_reducible apply M_ofOrder); rfl; (exact bz_lit _); omega; (first | omega | decide)) | ((with_reducible apply M_ofRider); rfl; (exact bz_lit _); omega; (first | omega | decide)) | ((with_reducible apply M_in)) | ((with_reducible apply X_isWithin)) | ((with_reducible apply ap_rI); rfl) | ((with_reducible apply ap_wI); rfl) | ((with_reducible apply ap_iA); rfl; (try simp only [bz_lit, pk_mul, nI_add]); rfl; omega) | ((with_reducible apply ap_iW); rfl; (try simp only [bz_lit, pk_mul, nI_add]); rfl; omega))
  exact ⟨_, rfl, hP⟩
theorem M_isWaiting {o : Nat} (ho : o < 24) (hP : P (f_is (S.1 187) o 0) (bz_hp E S)) : bz_cI G l (d + 2) kX12_isWaiting [.inr (some 186), .inl (nI o)] (bz_hp E S) 0 0 P := by
  refine m_X12_isWaiting _ _ _ ?_
  unfold w_X12_isWaiting_0
  repeat (first | ((with_reducible apply ap_rc); rfl) | ((with_reducible apply ap_nn)) | ((with_reducible apply ap_rR); rfl) | ((with_reducible apply M_ofOrder); rfl; (exact bz_lit _); omega; (first | omega | decide)) | ((with_reducible apply M_ofRider); rfl; (exact bz_lit _); omega; (first | omega | decide)) | ((with_reducible apply M_in)) | ((with_reducible apply X_isWithin)) | ((with_reducible apply ap_rI); rfl) | ((with_reducible apply ap_wI); rfl) | ((with_reducible apply ap_iA); rfl; (try simp only [bz_lit, pk_mul, nI_add]); rfl; omega) | ((with_reducible apply ap_iW); rfl; (try simp only [bz_lit, pk_mul, nI_add]); rfl; omega))
  exact ⟨_, rfl, hP⟩
theorem f_is_0 {s : Nat → Int32} {o : Nat} {x : Int32} : f_is s o x = 0 ↔ ¬ s (312 + 12 * o + 5) = x := by
  unfold f_is
  split
  · next h => exact ⟨fun q => absurd q (by decide), fun q => absurd h q⟩
  · next h => exact ⟨fun _ => h, fun _ => rfl⟩
theorem M_isHis {r o : Nat} (ho : o < 24) (hP : P (f_his (S.1 187) r o) (bz_hp E S)) : bz_cI G l (d + 3) kX12_isHis [.inr (some 186), .inl (nI r), .inl (nI o)] (bz_hp E S) 0 0 P := by
  refine m_X12_isHis _ _ _ _ ?_
  unfold w_X12_isHis_0
  unfold f_his at hP
  repeat (first | ((with_reducible apply ap_rc); rfl) | ((with_reducible apply ap_nn)) | ((with_reducible apply ap_rR); rfl) | ((with_reducible apply M_ofOrder); rfl; (exact bz_lit _); omega; (first | omega | decide)) | ((with_reducible apply M_ofRider); rfl; (exact bz_lit _); omega; (first | omega | decide)) | ((with_reducible apply M_in)) | ((with_reducible apply X_isWithin)) | ((with_reducible apply ap_rI); rfl) | ((with_reducible apply ap_wI); rfl) | ((with_reducible apply ap_iA); rfl; (try simp only [bz_lit, pk_mul, nI_add]); rfl; omega) | ((with_reducible apply ap_iW); rfl; (try simp only [bz_lit, pk_mul, nI_add]); rfl; omega))
  refine M_isGiven ho ⟨fun c => ?_, fun c => ?_⟩
  · rw [if_neg (f_is_0.mp c)] at hP
    exact ⟨_, rfl, hP⟩
  · rw [if_pos (Classical.byContradiction (fun q => c (f_is_0.mpr q)))] at hP
    repeat (first | ((with_reducible apply ap_rc); rfl) | ((with_reducible apply ap_nn)) | ((with_reducible apply ap_rR); rfl) | ((with_reducible apply M_ofOrder); rfl; (exact bz_lit _); omega; (first | omega | decide)) | ((with_reducible apply M_ofRider); rfl; (exact bz_lit _); omega; (first | omega | decide)) | ((with_reducible apply M_in)) | ((with_reducible apply X_isWithin)) | ((with_reducible apply ap_rI); rfl) | ((with_reducible apply ap_wI); rfl) | ((with_reducible apply ap_iA); rfl; (try simp only [bz_lit, pk_mul, nI_add]); rfl; omega) | ((with_reducible apply ap_iW); rfl; (try simp only [bz_lit, pk_mul, nI_add]); rfl; omega))
    exact ⟨_, rfl, hP⟩
theorem M_payOf {o : Nat} (ho : o < 24) (hg : gd_b (S.1 187)) (hP : P (f_pay (S.1 187) o) (bz_hp E S)) : bz_cI G l (d + 2) kX12_payOf [.inr (some 186), .inl (nI o)] (bz_hp E S) 0 0 P := by
  refine m_X12_payOf _ _ _ (fun κ bc bs hl => ?_)
  unfold w_X12_payOf_0
  obtain ⟨n, hn, en⟩ : bz_lt (S.1 187 7) 7 := hg 7 (by decide) (by decide) (by decide)
  unfold f_pay at hP
  rw [en, nI_clamp (by omega)] at hP
  refine bz_for (n := n) (Q := fun k => bz_J G κ kX12_payOf (d + 1 + 1) (fun v h' => ∃ x, v = some (.inl x) ∧ P x h') bc bs 4 [some (.inr (some 186)), some (.inl (nI o)), some (.inl (f_sum (f_mo (S.1 187) (S.1 187 (312 + 12 * o + 7))) k)), some (.inl (nI k))] [] (bz_hp E S)) (fun k hk ih => ?_) ?_
  · refine g_X12_payOf_4 hl _ _ _ _ _ ?_
    unfold w_X12_payOf_4
    repeat (first | ((with_reducible apply ap_rc); rfl) | ((with_reducible apply ap_nn)) | ((with_reducible apply ap_rR); rfl) | ((with_reducible apply M_ofOrder); rfl; (exact bz_lit _); omega; (first | omega | decide)) | ((with_reducible apply M_ofRider); rfl; (exact bz_lit _); omega; (first | omega | decide)) | ((with_reducible apply M_in)) | ((with_reducible apply X_isWithin)) | ((with_reducible apply ap_rI); rfl) | ((with_reducible apply ap_wI); rfl) | ((with_reducible apply ap_iA); rfl; (try simp only [bz_lit, pk_mul, nI_add]); rfl; omega) | ((with_reducible apply ap_iW); rfl; (try simp only [bz_lit, pk_mul, nI_add]); rfl; omega))
    rw [en]
    refine ⟨fun c => absurd ((nI_leI (by omega) (by omega)).mp c) (by omega), fun c => ?_⟩
    rw [f_sum, nI_succ] at ih
    repeat (first | ((with_reducible apply ap_rc); rfl) | ((with_reducible apply ap_nn)) | ((with_reducible apply ap_rR); rfl) | ((with_reducible apply M_ofOrder); rfl; (exact bz_lit _); omega; (first | omega | decide)) | ((with_reducible apply M_ofRider); rfl; (exact bz_lit _); omega; (first | omega | decide)) | ((with_reducible apply M_in)) | ((with_reducible apply X_isWithin)) | ((with_reducible apply ap_rI); rfl) | ((with_reducible apply ap_wI); rfl) | ((with_reducible apply ap_iA); rfl; (try simp only [bz_lit, pk_mul, nI_add]); rfl; omega) | ((with_reducible apply ap_iW); rfl; (try simp only [bz_lit, pk_mul, nI_add]); rfl; omega))
    refine ⟨fun c1 => ?_, fun c1 => ?_⟩
    · rw [show f_mo (S.1 187) _ k = 0 from if_pos c1] at ih
      exact ih
    · rw [show f_mo (S.1 187) _ k = _ from if_neg c1] at ih
      repeat (first | ((with_reducible apply ap_rc); rfl) | ((with_reducible apply ap_nn)) | ((with_reducible apply ap_rR); rfl) | ((with_reducible apply M_ofOrder); rfl; (exact bz_lit _); omega; (first | omega | decide)) | ((with_reducible apply M_ofRider); rfl; (exact bz_lit _); omega; (first | omega | decide)) | ((with_reducible apply M_in)) | ((with_reducible apply X_isWithin)) | ((with_reducible apply ap_rI); rfl) | ((with_reducible apply ap_wI); rfl) | ((with_reducible apply ap_iA); rfl; (try simp only [bz_lit, pk_mul, nI_add]); rfl; omega) | ((with_reducible apply ap_iW); rfl; (try simp only [bz_lit, pk_mul, nI_add]); rfl; omega))
      exact ih
  · refine g_X12_payOf_4 hl _ _ _ _ _ ?_
    unfold w_X12_payOf_4
    repeat (first | ((with_reducible apply ap_rc); rfl) | ((with_reducible apply ap_nn)) | ((with_reducible apply ap_rR); rfl) | ((with_reducible apply M_ofOrder); rfl; (exact bz_lit _); omega; (first | omega | decide)) | ((with_reducible apply M_ofRider); rfl; (exact bz_lit _); omega; (first | omega | decide)) | ((with_reducible apply M_in)) | ((with_reducible apply X_isWithin)) | ((with_reducible apply ap_rI); rfl) | ((with_reducible apply ap_wI); rfl) | ((with_reducible apply ap_iA); rfl; (try simp only [bz_lit, pk_mul, nI_add]); rfl; omega) | ((with_reducible apply ap_iW); rfl; (try simp only [bz_lit, pk_mul, nI_add]); rfl; omega))
    rw [en]
    refine ⟨fun c => ?_, fun c => absurd (nI_le (by omega) (by omega)) c⟩
    repeat (first | ((with_reducible apply ap_rc); rfl) | ((with_reducible apply ap_nn)) | ((with_reducible apply ap_rR); rfl) | ((with_reducible apply M_ofOrder); rfl; (exact bz_lit _); omega; (first | omega | decide)) | ((with_reducible apply M_ofRider); rfl; (exact bz_lit _); omega; (first | omega | decide)) | ((with_reducible apply M_in)) | ((with_reducible apply X_isWithin)) | ((with_reducible apply ap_rI); rfl) | ((with_reducible apply ap_wI); rfl) | ((with_reducible apply ap_iA); rfl; (try simp only [bz_lit, pk_mul, nI_add]); rfl; omega) | ((with_reducible apply ap_iW); rfl; (try simp only [bz_lit, pk_mul, nI_add]); rfl; omega))
    exact ⟨_, rfl, hP⟩
theorem M_payOfAll {r : Nat} (hg : gd_b (S.1 187)) (hP : P (f_pays (S.1 187) r) (bz_hp E S)) : bz_cI G l (d + 4) kX12_payOfAll [.inr (some 186), .inl (nI r)] (bz_hp E S) 0 0 P := by
  refine m_X12_payOfAll _ _ _ (fun κ bc bs hl => ?_)
  unfold w_X12_payOfAll_0
  obtain ⟨n, hn, en⟩ : bz_lt (S.1 187 2) 25 := hg 2 (by decide) (by decide) (by decide)
  unfold f_pays at hP
  rw [en, nI_clamp (by omega)] at hP
  refine bz_for (n := n) (Q := fun k => bz_J G κ kX12_payOfAll (d + 3 + 1) (fun v h' => ∃ x, v = some (.inl x) ∧ P x h') bc bs 4 [some (.inr (some 186)), some (.inl (nI r)), some (.inl (f_sum (fun o => if f_his (S.1 187) r o = 0 then 0 else f_pay (S.1 187) o) k)), some (.inl (nI k))] [] (bz_hp E S)) (fun k hk ih => ?_) ?_
  · refine g_X12_payOfAll_4 hl _ _ _ _ _ ?_
    unfold w_X12_payOfAll_4
    repeat (first | ((with_reducible apply ap_rc); rfl) | ((with_reducible apply ap_nn)) | ((with_reducible apply ap_rR); rfl) | ((with_reducible apply M_ofOrder); rfl; (exact bz_lit _); omega; (first | omega | decide)) | ((with_reducible apply M_ofRider); rfl; (exact bz_lit _); omega; (first | omega | decide)) | ((with_reducible apply M_in)) | ((with_reducible apply X_isWithin)) | ((with_reducible apply ap_rI); rfl) | ((with_reducible apply ap_wI); rfl) | ((with_reducible apply ap_iA); rfl; (try simp only [bz_lit, pk_mul, nI_add]); rfl; omega) | ((with_reducible apply ap_iW); rfl; (try simp only [bz_lit, pk_mul, nI_add]); rfl; omega))
    rw [en]
    refine ⟨fun c => absurd ((nI_leI (by omega) (by omega)).mp c) (by omega), fun c => ?_⟩
    rw [f_sum, nI_succ] at ih
    repeat (first | ((with_reducible apply ap_rc); rfl) | ((with_reducible apply ap_nn)) | ((with_reducible apply ap_rR); rfl) | ((with_reducible apply M_ofOrder); rfl; (exact bz_lit _); omega; (first | omega | decide)) | ((with_reducible apply M_ofRider); rfl; (exact bz_lit _); omega; (first | omega | decide)) | ((with_reducible apply M_in)) | ((with_reducible apply X_isWithin)) | ((with_reducible apply ap_rI); rfl) | ((with_reducible apply ap_wI); rfl) | ((with_reducible apply ap_iA); rfl; (try simp only [bz_lit, pk_mul, nI_add]); rfl; omega) | ((with_reducible apply ap_iW); rfl; (try simp only [bz_lit, pk_mul, nI_add]); rfl; omega))
    refine M_isHis (by omega) ⟨fun c1 => ?_, fun c1 => ?_⟩
    · rw [if_pos c1] at ih
      exact ih
    · rw [if_neg c1] at ih
      repeat (first | ((with_reducible apply ap_rc); rfl) | ((with_reducible apply ap_nn)) | ((with_reducible apply ap_rR); rfl) | ((with_reducible apply M_ofOrder); rfl; (exact bz_lit _); omega; (first | omega | decide)) | ((with_reducible apply M_ofRider); rfl; (exact bz_lit _); omega; (first | omega | decide)) | ((with_reducible apply M_in)) | ((with_reducible apply X_isWithin)) | ((with_reducible apply ap_rI); rfl) | ((with_reducible apply ap_wI); rfl) | ((with_reducible apply ap_iA); rfl; (try simp only [bz_lit, pk_mul, nI_add]); rfl; omega) | ((with_reducible apply ap_iW); rfl; (try simp only [bz_lit, pk_mul, nI_add]); rfl; omega))
      exact M_payOf (by omega) hg ih
  · refine g_X12_payOfAll_4 hl _ _ _ _ _ ?_
    unfold w_X12_payOfAll_4
    repeat (first | ((with_reducible apply ap_rc); rfl) | ((with_reducible apply ap_nn)) | ((with_reducible apply ap_rR); rfl) | ((with_reducible apply M_ofOrder); rfl; (exact bz_lit _); omega; (first | omega | decide)) | ((with_reducible apply M_ofRider); rfl; (exact bz_lit _); omega; (first | omega | decide)) | ((with_reducible apply M_in)) | ((with_reducible apply X_isWithin)) | ((with_reducible apply ap_rI); rfl) | ((with_reducible apply ap_wI); rfl) | ((with_reducible apply ap_iA); rfl; (try simp only [bz_lit, pk_mul, nI_add]); rfl; omega) | ((with_reducible apply ap_iW); rfl; (try simp only [bz_lit, pk_mul, nI_add]); rfl; omega))
    rw [en]
    refine ⟨fun c => ?_, fun c => absurd (nI_le (by omega) (by omega)) c⟩
    exact ⟨_, rfl, hP⟩
theorem M_ratingOfRider {r : Nat} (hr : r < 12) (hg : gd_b (S.1 187)) (hP : P (f_ratR (S.1 187) r) (bz_hp E S)) : bz_cI G l (d + 6) kX12_ratingOfRider [.inr (some 186), .inl (nI r)] (bz_hp E S) 0 0 P := by
  refine m_X12_ratingOfRider _ _ _ (fun κ bc bs hl => ?_)
  unfold w_X12_ratingOfRider_0
  obtain ⟨n, hn, en⟩ : bz_lt (S.1 187 2) 25 := hg 2 (by decide) (by decide) (by decide)
  unfold f_ratR f_rats at hP
  rw [en, nI_clamp (by omega)] at hP
  refine bz_for (n := n) (Q := fun k => bz_J G κ kX12_ratingOfRider (d + 5 + 1) (fun v h' => ∃ x, v = some (.inl x) ∧ P x h') bc bs 4 [some (.inr (some 186)), some (.inl (nI r)), some (.inl (f_sum (fun o => if f_his (S.1 187) r o = 0 then 0 else f_rat (S.1 187) o) k)), some (.inl (nI k))] [] (bz_hp E S)) (fun k hk ih => ?_) ?_
  · refine g_X12_ratingOfRider_4 hl _ _ _ _ _ ?_
    unfold w_X12_ratingOfRider_4
    repeat (first | ((with_reducible apply ap_rc); rfl) | ((with_reducible apply ap_nn)) | ((with_reducible apply ap_rR); rfl) | ((with_reducible apply M_ofOrder); rfl; (exact bz_lit _); omega; (first | omega | decide)) | ((with_reducible apply M_ofRider); rfl; (exact bz_lit _); omega; (first | omega | decide)) | ((with_reducible apply M_in)) | ((with_reducible apply X_isWithin)) | ((with_reducible apply ap_rI); rfl) | ((with_reducible apply ap_wI); rfl) | ((with_reducible apply ap_iA); rfl; (try simp only [bz_lit, pk_mul, nI_add]); rfl; omega) | ((with_reducible apply ap_iW); rfl; (try simp only [bz_lit, pk_mul, nI_add]); rfl; omega))
    rw [en]
    refine ⟨fun c => absurd ((nI_leI (by omega) (by omega)).mp c) (by omega), fun c => ?_⟩
    rw [f_sum, nI_succ] at ih
    repeat (first | ((with_reducible apply ap_rc); rfl) | ((with_reducible apply ap_nn)) | ((with_reducible apply ap_rR); rfl) | ((with_reducible apply M_ofOrder); rfl; (exact bz_lit _); omega; (first | omega | decide)) | ((with_reducible apply M_ofRider); rfl; (exact bz_lit _); omega; (first | omega | decide)) | ((with_reducible apply M_in)) | ((with_reducible apply X_isWithin)) | ((with_reducible apply ap_rI); rfl) | ((with_reducible apply ap_wI); rfl) | ((with_reducible apply ap_iA); rfl; (try simp only [bz_lit, pk_mul, nI_add]); rfl; omega) | ((with_reducible apply ap_iW); rfl; (try simp only [bz_lit, pk_mul, nI_add]); rfl; omega))
    refine M_isHis (by omega) ⟨fun c1 => ?_, fun c1 => ?_⟩
    · rw [if_pos c1] at ih
      exact ih
    · rw [if_neg c1] at ih
      repeat (first | ((with_reducible apply ap_rc); rfl) | ((with_reducible apply ap_nn)) | ((with_reducible apply ap_rR); rfl) | ((with_reducible apply M_ofOrder); rfl; (exact bz_lit _); omega; (first | omega | decide)) | ((with_reducible apply M_ofRider); rfl; (exact bz_lit _); omega; (first | omega | decide)) | ((with_reducible apply M_in)) | ((with_reducible apply X_isWithin)) | ((with_reducible apply ap_rI); rfl) | ((with_reducible apply ap_wI); rfl) | ((with_reducible apply ap_iA); rfl; (try simp only [bz_lit, pk_mul, nI_add]); rfl; omega) | ((with_reducible apply ap_iW); rfl; (try simp only [bz_lit, pk_mul, nI_add]); rfl; omega))
      exact M_ratingOf (by omega) hg ih
  · refine g_X12_ratingOfRider_4 hl _ _ _ _ _ ?_
    unfold w_X12_ratingOfRider_4
    repeat (first | ((with_reducible apply ap_rc); rfl) | ((with_reducible apply ap_nn)) | ((with_reducible apply ap_rR); rfl) | ((with_reducible apply M_ofOrder); rfl; (exact bz_lit _); omega; (first | omega | decide)) | ((with_reducible apply M_ofRider); rfl; (exact bz_lit _); omega; (first | omega | decide)) | ((with_reducible apply M_in)) | ((with_reducible apply X_isWithin)) | ((with_reducible apply ap_rI); rfl) | ((with_reducible apply ap_wI); rfl) | ((with_reducible apply ap_iA); rfl; (try simp only [bz_lit, pk_mul, nI_add]); rfl; omega) | ((with_reducible apply ap_iW); rfl; (try simp only [bz_lit, pk_mul, nI_add]); rfl; omega))
    rw [en]
    refine ⟨fun c => ?_, fun c => absurd (nI_le (by omega) (by omega)) c⟩
    repeat (first | ((with_reducible apply ap_rc); rfl) | ((with_reducible apply ap_nn)) | ((with_reducible apply ap_rR); rfl) | ((with_reducible apply M_ofOrder); rfl; (exact bz_lit _); omega; (first | omega | decide)) | ((with_reducible apply M_ofRider); rfl; (exact bz_lit _); omega; (first | omega | decide)) | ((with_reducible apply M_in)) | ((with_reducible apply X_isWithin)) | ((with_reducible apply ap_rI); rfl) | ((with_reducible apply ap_wI); rfl) | ((with_reducible apply ap_iA); rfl; (try simp only [bz_lit, pk_mul, nI_add]); rfl; omega) | ((with_reducible apply ap_iW); rfl; (try simp only [bz_lit, pk_mul, nI_add]); rfl; omega))
    refine ⟨fun c1 => ?_, fun c1 => ?_⟩
    · rw [if_neg c1] at hP
      repeat (first | ((with_reducible apply ap_rc); rfl) | ((with_reducible apply ap_nn)) | ((with_reducible apply ap_rR); rfl) | ((with_reducible apply M_ofOrder); rfl; (exact bz_lit _); omega; (first | omega | decide)) | ((with_reducible apply M_ofRider); rfl; (exact bz_lit _); omega; (first | omega | decide)) | ((with_reducible apply M_in)) | ((with_reducible apply X_isWithin)) | ((with_reducible apply ap_rI); rfl) | ((with_reducible apply ap_wI); rfl) | ((with_reducible apply ap_iA); rfl; (try simp only [bz_lit, pk_mul, nI_add]); rfl; omega) | ((with_reducible apply ap_iW); rfl; (try simp only [bz_lit, pk_mul, nI_add]); rfl; omega))
      exact ⟨c1, _, rfl, hP⟩
    · rw [if_pos c1] at hP
      exact ⟨_, rfl, hP⟩
theorem M_engaged {r : Nat} (hg : gd_b (S.1 187)) (hP : P (f_eng (S.1 187) r) (bz_hp E S)) : bz_cI G l (d + 1) kX12_engaged [.inr (some 186), .inl (nI r)] (bz_hp E S) 0 0 P := by
  refine m_X12_engaged _ _ _ (fun κ bc bs hl => ?_)
  unfold w_X12_engaged_0
  obtain ⟨n, hn, en⟩ : bz_lt (S.1 187 10) 25 := hg 10 (by decide) (by decide) (by decide)
  unfold f_eng at hP
  rw [en, nI_clamp (by omega)] at hP
  refine bz_for (n := n) (Q := fun k => bz_J G κ kX12_engaged (d + 1) (fun v h' => ∃ x, v = some (.inl x) ∧ P x h') bc bs 4 [some (.inr (some 186)), some (.inl (nI r)), some (.inl (f_sum (f_en (S.1 187) r) k)), some (.inl (nI k))] [] (bz_hp E S)) (fun k hk ih => ?_) ?_
  · refine g_X12_engaged_4 hl _ _ _ _ _ ?_
    unfold w_X12_engaged_4
    repeat (first | ((with_reducible apply ap_rc); rfl) | ((with_reducible apply ap_nn)) | ((with_reducible apply ap_rR); rfl) | ((with_reducible apply M_ofOrder); rfl; (exact bz_lit _); omega; (first | omega | decide)) | ((with_reducible apply M_ofRider); rfl; (exact bz_lit _); omega; (first | omega | decide)) | ((with_reducible apply M_in)) | ((with_reducible apply X_isWithin)) | ((with_reducible apply ap_rI); rfl) | ((with_reducible apply ap_wI); rfl) | ((with_reducible apply ap_iA); rfl; (try simp only [bz_lit, pk_mul, nI_add]); rfl; omega) | ((with_reducible apply ap_iW); rfl; (try simp only [bz_lit, pk_mul, nI_add]); rfl; omega))
    rw [en]
    refine ⟨fun c => absurd ((nI_leI (by omega) (by omega)).mp c) (by omega), fun c => ?_⟩
    rw [f_sum, nI_succ] at ih
    repeat (first | ((with_reducible apply ap_rc); rfl) | ((with_reducible apply ap_nn)) | ((with_reducible apply ap_rR); rfl) | ((with_reducible apply M_ofOrder); rfl; (exact bz_lit _); omega; (first | omega | decide)) | ((with_reducible apply M_ofRider); rfl; (exact bz_lit _); omega; (first | omega | decide)) | ((with_reducible apply M_in)) | ((with_reducible apply X_isWithin)) | ((with_reducible apply ap_rI); rfl) | ((with_reducible apply ap_wI); rfl) | ((with_reducible apply ap_iA); rfl; (try simp only [bz_lit, pk_mul, nI_add]); rfl; omega) | ((with_reducible apply ap_iW); rfl; (try simp only [bz_lit, pk_mul, nI_add]); rfl; omega))
    refine ⟨fun c1 => ?_, fun c1 => ?_⟩
    · rw [show f_en (S.1 187) r k = _ from if_neg c1] at ih
      exact ih
    · rw [show f_en (S.1 187) r k = _ from if_pos c1] at ih
      repeat (first | ((with_reducible apply ap_rc); rfl) | ((with_reducible apply ap_nn)) | ((with_reducible apply ap_rR); rfl) | ((with_reducible apply M_ofOrder); rfl; (exact bz_lit _); omega; (first | omega | decide)) | ((with_reducible apply M_ofRider); rfl; (exact bz_lit _); omega; (first | omega | decide)) | ((with_reducible apply M_in)) | ((with_reducible apply X_isWithin)) | ((with_reducible apply ap_rI); rfl) | ((with_reducible apply ap_wI); rfl) | ((with_reducible apply ap_iA); rfl; (try simp only [bz_lit, pk_mul, nI_add]); rfl; omega) | ((with_reducible apply ap_iW); rfl; (try simp only [bz_lit, pk_mul, nI_add]); rfl; omega))
      exact ih
  · refine g_X12_engaged_4 hl _ _ _ _ _ ?_
    unfold w_X12_engaged_4
    repeat (first | ((with_reducible apply ap_rc); rfl) | ((with_reducible apply ap_nn)) | ((with_reducible apply ap_rR); rfl) | ((with_reducible apply M_ofOrder); rfl; (exact bz_lit _); omega; (first | omega | decide)) | ((with_reducible apply M_ofRider); rfl; (exact bz_lit _); omega; (first | omega | decide)) | ((with_reducible apply M_in)) | ((with_reducible apply X_isWithin)) | ((with_reducible apply ap_rI); rfl) | ((with_reducible apply ap_wI); rfl) | ((with_reducible apply ap_iA); rfl; (try simp only [bz_lit, pk_mul, nI_add]); rfl; omega) | ((with_reducible apply ap_iW); rfl; (try simp only [bz_lit, pk_mul, nI_add]); rfl; omega))
    rw [en]
    refine ⟨fun c => ?_, fun c => absurd (nI_le (by omega) (by omega)) c⟩
    exact ⟨_, rfl, hP⟩
theorem M_refusals {r : Nat} (hr : r < 12) (hP : P (f_ref (S.1 187 (696 + r))) (bz_hp E S)) : bz_cI G l (d + 1) kX12_refusals [.inr (some 186), .inl (nI r)] (bz_hp E S) 0 0 P := by
  refine m_X12_refusals _ _ _ (fun κ bc bs hl => ?_)
  unfold w_X12_refusals_0
  unfold f_ref at hP
  refine bz_for (n := 24) (Q := fun k => bz_J G κ kX12_refusals (d + 1) (fun v h' => ∃ x, v = some (.inl x) ∧ P x h') bc bs 4 [some (.inr (some 186)), some (.inl (nI r)), some (.inl (f_sum (fun o => (S.1 187 (696 + r) >>> (nI o &&& 31)) &&& 1) k)), some (.inl (nI k))] [] (bz_hp E S)) (fun k hk ih => ?_) ?_
  · refine g_X12_refusals_4 hl _ _ _ _ _ ?_
    unfold w_X12_refusals_4
    refine ⟨fun c => absurd ((nI_leI (a := 24) (by omega) (by omega)).mp c) (by omega), fun c => ?_⟩
    rw [f_sum, nI_succ] at ih
    repeat (first | ((with_reducible apply ap_rc); rfl) | ((with_reducible apply ap_nn)) | ((with_reducible apply ap_rR); rfl) | ((with_reducible apply M_ofOrder); rfl; (exact bz_lit _); omega; (first | omega | decide)) | ((with_reducible apply M_ofRider); rfl; (exact bz_lit _); omega; (first | omega | decide)) | ((with_reducible apply M_in)) | ((with_reducible apply X_isWithin)) | ((with_reducible apply ap_rI); rfl) | ((with_reducible apply ap_wI); rfl) | ((with_reducible apply ap_iA); rfl; (try simp only [bz_lit, pk_mul, nI_add]); rfl; omega) | ((with_reducible apply ap_iW); rfl; (try simp only [bz_lit, pk_mul, nI_add]); rfl; omega))
    exact ih
  · refine g_X12_refusals_4 hl _ _ _ _ _ ?_
    unfold w_X12_refusals_4
    refine ⟨fun c => ?_, fun c => absurd (show (24 : Int32) ≤ nI 24 by decide) c⟩
    exact ⟨_, rfl, hP⟩
end HLQ
