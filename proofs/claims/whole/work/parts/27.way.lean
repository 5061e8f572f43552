/-! the way from one to another one; how long one of a kind goes -/
def fd (S : bz_S) : Prop := S.1 186 5 = 0 ∨ (¬ S.1 186 5 = 0 ∧ ∀ j, j < 256 → S.1 190 j = f_tb f_far (S.1 187) 16 0 j)
/-- nothing but what is found of ways has changed -/
def wf (S S' : bz_S) : Prop := S'.2 = S.2 ∧ ∀ c k, ¬ c = 190 → ¬ (c = 186 ∧ k = 5) → S'.1 c k = S.1 c k
theorem wf_r (S : bz_S) : wf S S := ⟨rfl, fun _ _ _ _ => rfl⟩
theorem wf_t {S S' S'' : bz_S} (h : wf S S') (h' : wf S' S'') : wf S S'' := ⟨h'.1.trans h.1, fun c k h1 h2 => (h'.2 c k h1 h2).trans (h.2 c k h1 h2)⟩
theorem wf_c {S S' : bz_S} (h : wf S S') {c : Nat} (h1 : ¬ c = 190) (h2 : ¬ c = 186) : S'.1 c = S.1 c := funext (fun k => h.2 c k h1 (fun q => h2 q.1))
def f_way (s : Nat → Int32) (a b : Nat) : Int32 := f_no (f_wy s 16 a b)
theorem f_far_no {o : Option Nat} (hb : ∀ v, o = some v → v ≤ 1173) : (if 1000000 ≤ f_far o then (-1 : Int32) else f_far o) = f_no o := by
  cases o with
  | none => decide
  | some v =>
    have := hb v rfl
    show (if nI 1000000 ≤ nI v then (-1 : Int32) else nI v) = nI v
    rw [if_neg (nI_ge (by omega) (by omega))]
section WAY
variable {G : bz_G} {l : Launch} {d : Nat} {E : Nat × (Nat → Int32)} {S : bz_S} {P : Int32 → bz_H → Prop} {s : Nat → Int32}
theorem M_wayOf {a b : Nat} (ha : a < 16) (hb : b < 16) (hg : gd_b (S.1 187)) (hf : fd S) (hP : ∀ S', wf S S' → fd S' → P (f_way (S.1 187) a b) (bz_hp E S')) : bz_cI G l (d + 2) kX12_wayOf [.inr (some 186), .inl (nI a), .inl (nI b)] (bz_hp E S) 0 0 P := by
  refine m_X12_wayOf _ _ _ _ ?_
  unfold w_X12_wayOf_0
  have q : f_tb f_far (S.1 187) 16 0 (16 * a + b) = f_far (f_wy (S.1 187) 16 a b) := by
    unfold f_tb
    rw [if_neg (by omega), show (16 * a + b) / 16 = a by omega, show (16 * a + b) % 16 = b by omega]
  repeat (first | ((with_reducible apply ap_rc); rfl) | ((with_reducible apply ap_nn)) | ((with_reducible apply ap_rR); rfl) | ((with_reducible apply M_ofOrder); rfl; (exact bz_lit _); omega; (first | omega | decide)) | ((with_reducible apply M_ofRider); rfl; (exact bz_lit _); omega; (first | omega | decide)) | ((with_reducible apply ap_rI); exact kd_ord _ (by omega) _ (by decide)) | ((with_reducible apply ap_wI); exact kd_ord _ (by omega) _ (by decide)) | ((with_reducible apply ap_rI); exact kd_rid _ (by omega) _ (by decide)) | ((with_reducible apply ap_wI); exact kd_rid _ (by omega) _ (by decide)) | ((with_reducible apply ap_rc); exact (kd_clO _ (by omega)).1) | ((with_reducible apply ap_rc); exact (kd_clR _ (by omega)).1) | ((with_reducible apply ap_rc); exact (kd_clR _ (by omega)).2.2.1) | ((with_reducible apply ap_rR); exact (kd_ridA _ (by omega)).1) | ((with_reducible apply ap_rN); rfl) | ((with_reducible apply M_in)) | ((with_reducible apply X_isWithin)) | ((with_reducible apply ap_rI); rfl) | ((with_reducible apply ap_wI); rfl) | ((with_reducible apply ap_iA); rfl; (try simp only [bz_lit, pk_mul, nI_add]); rfl; omega) | ((with_reducible apply ap_iW); rfl; (try simp only [bz_lit, pk_mul, nI_add]); rfl; omega))
  refine ⟨fun c => ?_, fun c => ?_⟩
  · obtain ⟨c1, h1⟩ := hf.resolve_left c
    repeat (first | ((with_reducible apply ap_rc); rfl) | ((with_reducible apply ap_nn)) | ((with_reducible apply ap_rR); rfl) | ((with_reducible apply M_ofOrder); rfl; (exact bz_lit _); omega; (first | omega | decide)) | ((with_reducible apply M_ofRider); rfl; (exact bz_lit _); omega; (first | omega | decide)) | ((with_reducible apply ap_rI); exact kd_ord _ (by omega) _ (by decide)) | ((with_reducible apply ap_wI); exact kd_ord _ (by omega) _ (by decide)) | ((with_reducible apply ap_rI); exact kd_rid _ (by omega) _ (by decide)) | ((with_reducible apply ap_wI); exact kd_rid _ (by omega) _ (by decide)) | ((with_reducible apply ap_rc); exact (kd_clO _ (by omega)).1) | ((with_reducible apply ap_rc); exact (kd_clR _ (by omega)).1) | ((with_reducible apply ap_rc); exact (kd_clR _ (by omega)).2.2.1) | ((with_reducible apply ap_rR); exact (kd_ridA _ (by omega)).1) | ((with_reducible apply ap_rN); rfl) | ((with_reducible apply M_in)) | ((with_reducible apply X_isWithin)) | ((with_reducible apply ap_rI); rfl) | ((with_reducible apply ap_wI); rfl) | ((with_reducible apply ap_iA); rfl; (try simp only [bz_lit, pk_mul, nI_add]); rfl; omega) | ((with_reducible apply ap_iW); rfl; (try simp only [bz_lit, pk_mul, nI_add]); rfl; omega))
    rw [h1 _ (by omega), q, f_far_no (fun v => f_wy_b hg (by omega))]
    exact ⟨_, rfl, hP S (wf_r S) (Or.inr ⟨c1, h1⟩)⟩
  · repeat (first | ((with_reducible apply ap_rc); rfl) | ((with_reducible apply ap_nn)) | ((with_reducible apply ap_rR); rfl) | ((with_reducible apply M_ofOrder); rfl; (exact bz_lit _); omega; (first | omega | decide)) | ((with_reducible apply M_ofRider); rfl; (exact bz_lit _); omega; (first | omega | decide)) | ((with_reducible apply ap_rI); exact kd_ord _ (by omega) _ (by decide)) | ((with_reducible apply ap_wI); exact kd_ord _ (by omega) _ (by decide)) | ((with_reducible apply ap_rI); exact kd_rid _ (by omega) _ (by decide)) | ((with_reducible apply ap_wI); exact kd_rid _ (by omega) _ (by decide)) | ((with_reducible apply ap_rc); exact (kd_clO _ (by omega)).1) | ((with_reducible apply ap_rc); exact (kd_clR _ (by omega)).1) | ((with_reducible apply ap_rc); exact (kd_clR _ (by omega)).2.2.1) | ((with_reducible apply ap_rR); exact (kd_ridA _ (by omega)).1) | ((with_reducible apply ap_rN); rfl) | ((with_reducible apply M_in)) | ((with_reducible apply X_isWithin)) | ((with_reducible apply ap_rI); rfl) | ((with_reducible apply ap_wI); rfl) | ((with_reducible apply ap_iA); rfl; (try simp only [bz_lit, pk_mul, nI_add]); rfl; omega) | ((with_reducible apply ap_iW); rfl; (try simp only [bz_lit, pk_mul, nI_add]); rfl; omega))
    refine M_findWays hg (fun g hgg => ?_)
    repeat (first | ((with_reducible apply ap_rc); rfl) | ((with_reducible apply ap_nn)) | ((with_reducible apply ap_rR); rfl) | ((with_reducible apply M_ofOrder); rfl; (exact bz_lit _); omega; (first | omega | decide)) | ((with_reducible apply M_ofRider); rfl; (exact bz_lit _); omega; (first | omega | decide)) | ((with_reducible apply ap_rI); exact kd_ord _ (by omega) _ (by decide)) | ((with_reducible apply ap_wI); exact kd_ord _ (by omega) _ (by decide)) | ((with_reducible apply ap_rI); exact kd_rid _ (by omega) _ (by decide)) | ((with_reducible apply ap_wI); exact kd_rid _ (by omega) _ (by decide)) | ((with_reducible apply ap_rc); exact (kd_clO _ (by omega)).1) | ((with_reducible apply ap_rc); exact (kd_clR _ (by omega)).1) | ((with_reducible apply ap_rc); exact (kd_clR _ (by omega)).2.2.1) | ((with_reducible apply ap_rR); exact (kd_ridA _ (by omega)).1) | ((with_reducible apply ap_rN); rfl) | ((with_reducible apply M_in)) | ((with_reducible apply X_isWithin)) | ((with_reducible apply ap_rI); rfl) | ((with_reducible apply ap_wI); rfl) | ((with_reducible apply ap_iA); rfl; (try simp only [bz_lit, pk_mul, nI_add]); rfl; omega) | ((with_reducible apply ap_iW); rfl; (try simp only [bz_lit, pk_mul, nI_add]); rfl; omega))
    dsimp only
    rw [bz_u_cell _ _ _ (by decide), bz_ur_same, hgg _ (by omega), q, f_far_no (fun v => f_wy_b hg (by omega))]
    refine ⟨_, rfl, hP _ ⟨rfl, fun c k h1 h2 => ?_⟩ (Or.inr ⟨?_, ?_⟩)⟩
    · dsimp only
      rw [bz_u_ne _ _ (by omega), bz_ur_ne _ _ h1]
    · dsimp only
      rw [bz_u_same]
      decide
    · intro j hj
      dsimp only
      rw [bz_u_cell _ _ _ (by decide), bz_ur_same, bz_u_cell _ _ _ (by decide), bz_ur_ne _ _ (by decide)]
      exact hgg j hj
end WAY
