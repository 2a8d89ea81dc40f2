/-! the model's plain public methods -/
theorem cx_n12 {o : Nat → Int32} {n : Int32} (h : ctxOK o n) : n = nI 12 ↔ ¬ n < nI 12 := by
  obtain ⟨m, rfl, m1, m2, -⟩ := h
  rw [nI_eq (by omega) (by omega), nI_ltI (by omega) (by omega)]; omega
theorem ctx_add {o : Nat → Int32} {n p : Nat} (h : ctxOK o (nI n)) (h1 : n < 12) (hp : p < n) : ctxOK (upd o n (nI p)) (nI (n + 1)) := by
  obtain ⟨m, hm, m1, m2, m3, m4⟩ := h
  have : n = m := (nI_eq (by omega) (by omega)).mp hm
  subst this
  refine ⟨n + 1, rfl, by omega, by omega, by rw [pk_un (by omega)]; exact m3, fun c h1 h2 => ?_⟩
  by_cases e : c = n
  · subst e; exact ⟨p, hp, pk_us⟩
  · rw [pk_un e]; exact m4 c h1 (by omega)
def pr_X10_context : SPre := fun As σ => ∃ x : Int32, As = [.ref 0, .int x] ∧ (InvM σ)
def po_X10_context : SPost := fun As σ r τ => match As with
  | [.ref _, .int x] => (InvM τ ∧ (isCx (σ 0 2) x = true ∧ σ 0 2 < nI 12 → fm [1] [0, 2] σ τ ∧ τ 1 = upd (σ 1) (tn (σ 0 2)) x ∧ τ 0 2 = σ 0 2 + nI 1 ∧ r = σ 0 2) ∧ (¬ (isCx (σ 0 2) x = true ∧ σ 0 2 < nI 12) → fm [] [0] σ τ ∧ r = -1))
  | _ => True
def ms_X10_context : List Me := [(88, 0, 9, 1, true, pr_X10_isContext, po_X10_isContext)]
theorem mk_X10_context : ∀ q ∈ ms_X10_context, kp_okM layM RX10 1 q := List.forall_mem_cons.mpr ⟨Or.inl ⟨0, yX10_isContext, cX10_isContext, 2, (some .boolean), c_X10_isContext, by omega, by decide, rfl, lk_X10_88⟩, fun _ h => absurd h List.not_mem_nil⟩
set_option maxRecDepth 100000 in
theorem v_X10_context {J : Nat → Lcl → List Value → Sg → Prop} {Q : Int32 → Sg → Prop} (x : Int32) (σ : Sg) (h : pr_X10_isContext [.ref 0, .int x] (kp_up σ 0 0 (nI 0)) ∧ ∀ (x2 : Int32) (τ1 : Sg), po_X10_isContext [.ref 0, .int x] (kp_up σ 0 0 (nI 0)) x2 τ1 → ((x2 = (nI 0) → Q (-1) τ1) ∧ (¬ x2 = (nI 0) → (¬ (τ1 0 2) = (nI 12) → vp_in (τ1 0 2) 12 ∧ (Q (((kp_up (kp_up τ1 1 (τ1 0 2).toNatClampNeg x) 0 2 (((kp_up τ1 1 (τ1 0 2).toNatClampNeg x) 0 2) + (nI 1))) 0 2) - (nI 1)) (kp_up (kp_up τ1 1 (τ1 0 2).toNatClampNeg x) 0 2 (((kp_up τ1 1 (τ1 0 2).toNatClampNeg x) 0 2) + (nI 1))))) ∧ ((τ1 0 2) = (nI 12) → Q (-1) τ1)))) : kp_T layM gl_X10 pl_X10 (ms_X10_context) tb_X10_context (kp_rk (some .int)) J Q 35 tb_X10_context (kp_en [.ref 0, .int x] 2) [] σ := h
set_option maxRecDepth 100000 in
set_option maxHeartbeats 4000000 in
theorem c_X10_context : kp_Met layM 1 yX10_context cX10_context 2 (some .int) (pr_X10_context) (po_X10_context) := by
  refine kp_met (N := 35) (by decide) tk_X10_context gk_X10 pk_X10 (mk_X10_context) rfl (fun _ _ _ _ _ _ _ => False) ?_ (fun _ _ _ _ _ _ _ _ h => h.elim)
  rintro As σ ⟨x, rfl, hp⟩
  refine ⟨⟨rfl, Nat.le_of_ble_eq_true rfl⟩, v_X10_context x σ ?_⟩
  obtain ⟨hL, hk, hty, hco, has⟩ := id hp
  have h0 := InvM_0 hp
  have e2 : kp_up σ 0 0 (nI 0) 0 2 = σ 0 2 := up_n (by decide)
  refine ⟨⟨_, rfl, trivial⟩, ?_⟩
  rintro x2 τ1 ⟨rfl, rfl⟩
  rw [e2, bI_0]
  refine ⟨fun h1 => ⟨h0, fun z => (by rw [h1] at z; cases z.1), fun _ => ⟨fm_0, rfl⟩⟩, fun h1 => ?_⟩
  have h1 : isCx (σ 0 2) x = true := by simpa using h1
  rw [cx_n12 hL.1]
  refine ⟨fun h2 => ?_, fun h2 => ⟨h0, fun z => absurd z.2 h2, fun _ => ⟨fm_0, rfl⟩⟩⟩
  have h2 : σ 0 2 < nI 12 := Decidable.not_not.mp h2
  obtain ⟨n, hn, n1, n2, n3, n4⟩ := id hL.1
  have en : tn (σ 0 2) = n := by rw [hn, tn_nI (by omega)]
  have ecl : (σ 0 2).toNatClampNeg = n := en
  have hlt : n < 12 := by rw [hn, nI_ltI (by omega) (by omega)] at h2; exact h2
  have h1' := h1
  rw [hn] at h1'
  obtain ⟨p, hp1, rfl⟩ := (isCx_iff (by omega)).mp h1'
  have e3 : kp_up (kp_up σ 0 0 (nI 0)) 1 n (nI p) 0 2 = nI n := by
    simp (disch := decide) only [up_c, kp_up_eq, pk_us, pk_un]
    exact hn
  rw [ecl, e3, nI_add, up_s, pk_sub (by omega)]
  refine ⟨by rw [hn]; exact (kp_in (by omega)).mpr hlt, ?_, fun _ => ⟨fm_up0 (fm_up (fm_up0 fm_rf (by decide)) (by decide) (by decide)) (by decide), ?_, ?_, ?_⟩, fun z => absurd ⟨h1, h2⟩ z⟩
  · have hfm : fm [1] [0, 2] σ (kp_up (kp_up (kp_up σ 0 0 (nI 0)) 1 n (nI p)) 0 2 (nI (n + 1))) := fm_up0 (fm_up (fm_up0 fm_rf (by decide)) (by decide) (by decide)) (by decide)
    have en2 : tn (nI (n + 1)) = n + 1 := tn_nI (by omega)
    refine ⟨⟨?_, ?_⟩, (kOM_fm hk hfm (by decide) (by decide)).1, ?_, cstM_fm hco hfm (by decide), ?_⟩
    · simp (disch := decide) only [up_c, kp_up_eq, pk_us, pk_un]
      have hc1 := hL.1
      rw [hn] at hc1
      exact ctx_add hc1 hlt hp1
    · simp (disch := decide) only [up_c, kp_up_eq, pk_us, pk_un]
      exact hL.2
    · obtain ⟨t1, t2, t3, t4, t5, t6, t7, t8⟩ := hty
      unfold tyM
      simp (disch := decide) only [up_c, kp_up_eq, pk_us, pk_un]
      rw [en2]
      exact ⟨t1, t2, t3, t4, t5, t6, by omega, t8⟩
    · obtain ⟨s1, s2, s3, s4, s5, s6⟩ := has
      unfold asM nwM noM
      simp (disch := decide) only [up_c, kp_up_eq, pk_us, pk_un]
      rw [en2]
      exact ⟨s1, s2, s3, s4, fun i hi => ⟨(s5 i hi).1, (s5 i hi).2.1, (s5 i hi).2.2.1, by have := (s5 i hi).2.2.2; omega⟩, s6⟩
  · simp (disch := decide) only [up_c, kp_up_eq, pk_us, pk_un]
    rw [en]
  · rw [up_s, hn, nI_add]
  · rw [hn]; rfl
def okM (σ : Sg) (c r m : Int32) : Prop := isCx (σ 0 2) c = true ∧ isRw r = true ∧ inR m (-1) (nI 40) = true ∧ ¬ (m ≠ -1 ∧ mM σ (kyC c r) = -1 ∧ ¬ tn (σ 0 8) < 120)
theorem cx_rowM {o : Nat → Int32} {n : Int32} (hcx : ctxOK o n) {c r : Int32} (h1 : isCx n c = true) (h2 : isRw r = true) : ∃ a b : Nat, c = nI a ∧ a < 12 ∧ a < tn n ∧ r = nI b ∧ rowOK b = true ∧ b < 16777216 := by
  obtain ⟨m, rfl, n1, n2, -, -⟩ := hcx
  obtain ⟨a, ha, rfl⟩ := (isCx_iff (by omega)).mp h1
  obtain ⟨b, rfl, hb⟩ := isRw_spec h2
  exact ⟨a, b, rfl, by omega, by rw [tn_nI (by omega)]; exact ha, rfl, hb, rowOK_lt hb⟩
def pr_X10_bind : SPre := fun As σ => ∃ c : Int32, ∃ row : Int32, ∃ m : Int32, As = [.ref 0, .int c, .int row, .int m] ∧ (InvM σ)
def po_X10_bind : SPost := fun As σ r τ => match As with
  | [.ref _, .int c, .int row, .int m] => (InvM τ ∧ fm [2, 3, 4] [0, 8] σ τ ∧ (okM σ c row m → r = mM σ (kyC c row) ∧ (∀ k, mM τ k = if k = kyC c row then m else mM σ k) ∧ tn (τ 0 8) = szp (tn (σ 0 8)) (mM σ (kyC c row)) m) ∧ (¬ okM σ c row m → fm [] [0] σ τ ∧ r = -2))
  | _ => True
def ms_X10_bind : List Me := [(88, 0, 9, 1, true, pr_X10_isContext, po_X10_isContext), (98, 1, 9, 1, true, pr_X10_isRow, po_X10_isRow), (84, 1, 9, 3, true, pr_X10_isIn, po_X10_isIn), (101, 0, 9, 2, true, pr_X10_hasFor, po_X10_hasFor), (104, 0, 9, 3, false, pr_X10_set, po_X10_set)]
theorem mk_X10_bind : ∀ q ∈ ms_X10_bind, kp_okM layM RX10 2 q := List.forall_mem_cons.mpr ⟨Or.inl ⟨0, yX10_isContext, cX10_isContext, 2, (some .boolean), c_X10_isContext, by omega, by decide, rfl, lk_X10_88⟩, List.forall_mem_cons.mpr ⟨Or.inl ⟨1, yX10_isRow, cX10_isRow, 4, (some .boolean), c_X10_isRow, by omega, by decide, rfl, lk_X10_98⟩, List.forall_mem_cons.mpr ⟨Or.inl ⟨0, yX10_isIn, cX10_isIn, 3, (some .boolean), c_X10_isIn, by omega, by decide, rfl, lk_X10_84⟩, List.forall_mem_cons.mpr ⟨Or.inl ⟨1, yX10_hasFor, cX10_hasFor, 4, (some .int), c_X10_hasFor, by omega, by decide, rfl, lk_X10_101⟩, List.forall_mem_cons.mpr ⟨Or.inl ⟨1, yX10_set, cX10_set, 6, none, c_X10_set, by omega, by decide, rfl, lk_X10_104⟩, fun _ h => absurd h List.not_mem_nil⟩⟩⟩⟩⟩
set_option maxRecDepth 100000 in
theorem v_X10_bind {J : Nat → Lcl → List Value → Sg → Prop} {Q : Int32 → Sg → Prop} (c row m : Int32) (σ : Sg) (h : pr_X10_isContext [.ref 0, .int c] (kp_up σ 0 0 (nI 0)) ∧ ∀ (x2 : Int32) (τ1 : Sg), po_X10_isContext [.ref 0, .int c] (kp_up σ 0 0 (nI 0)) x2 τ1 → ((x2 = (nI 0) → Q (-2) τ1) ∧ (¬ x2 = (nI 0) → pr_X10_isRow [.int row] τ1 ∧ ∀ (x4 : Int32) (τ3 : Sg), po_X10_isRow [.int row] τ1 x4 τ3 → ((x4 = (nI 0) → Q (-2) τ3) ∧ (¬ x4 = (nI 0) → pr_X10_isIn [.int m, .int (-1), .int (nI 40)] τ3 ∧ ∀ (x6 : Int32) (τ5 : Sg), po_X10_isIn [.int m, .int (-1), .int (nI 40)] τ3 x6 τ5 → ((¬ x6 = (nI 0) → pr_X10_hasFor [.ref 0, .int c, .int row] τ5 ∧ ∀ (x8 : Int32) (τ7 : Sg), po_X10_hasFor [.ref 0, .int c, .int row] τ5 x8 τ7 → ((¬ x8 = (-1) → pr_X10_set [.ref 0, .int c, .int row, .int m] τ7 ∧ ∀ (τ9 : Sg), po_X10_set [.ref 0, .int c, .int row, .int m] τ7 (nI 0) τ9 → (Q x8 τ9)) ∧ (x8 = (-1) → (m = (-1) → pr_X10_set [.ref 0, .int c, .int row, .int m] τ7 ∧ ∀ (τ10 : Sg), po_X10_set [.ref 0, .int c, .int row, .int m] τ7 (nI 0) τ10 → (Q x8 τ10)) ∧ (¬ m = (-1) → (¬ (τ7 0 8) = (nI 120) → pr_X10_set [.ref 0, .int c, .int row, .int m] τ7 ∧ ∀ (τ11 : Sg), po_X10_set [.ref 0, .int c, .int row, .int m] τ7 (nI 0) τ11 → (Q x8 τ11)) ∧ ((τ7 0 8) = (nI 120) → Q (-2) τ7))))) ∧ (x6 = (nI 0) → Q (-2) τ5))))))) : kp_T layM gl_X10 pl_X10 (ms_X10_bind) tb_X10_bind (kp_rk (some .int)) J Q 46 tb_X10_bind (kp_en [.ref 0, .int c, .int row, .int m] 5) [] σ := h
set_option maxRecDepth 100000 in
set_option maxHeartbeats 4000000 in
theorem c_X10_bind : kp_Met layM 2 yX10_bind cX10_bind 5 (some .int) (pr_X10_bind) (po_X10_bind) := by
  refine kp_met (N := 46) (by decide) tk_X10_bind gk_X10 pk_X10 (mk_X10_bind) rfl (fun _ _ _ _ _ _ _ => False) ?_ (fun _ _ _ _ _ _ _ _ h => h.elim)
  rintro As σ ⟨c, row, m, rfl, hp⟩
  refine ⟨⟨rfl, Nat.le_of_ble_eq_true rfl⟩, v_X10_bind c row m σ ?_⟩
  obtain ⟨hL, hk, hty, hco, has⟩ := id hp
  have h0 := InvM_0 hp
  obtain ⟨hL0, em⟩ := LM_fm hL fm_0 (by decide) (by decide)
  have e2 : kp_up σ 0 0 (nI 0) 0 2 = σ 0 2 := up_n (by decide)
  have e8 : kp_up σ 0 0 (nI 0) 0 8 = σ 0 8 := up_n (by decide)
  obtain ⟨z, hz, hz1, -, -⟩ := id hL.2
  have ez : tn (σ 0 8) = z := by rw [hz, tn_nI (by omega)]
  have hno : ¬ okM σ c row m → po_X10_bind [.ref 0, .int c, .int row, .int m] σ (-2) (kp_up σ 0 0 (nI 0)) := fun h => ⟨h0, fm_mono fm_0 (by decide) (by decide), fun q => absurd q h, fun _ => ⟨fm_0, rfl⟩⟩
  refine ⟨⟨_, rfl, trivial⟩, ?_⟩
  rintro x2 τ1 ⟨rfl, rfl⟩
  rw [e2, bI_0]
  refine ⟨fun h1 => hno (fun z => by have q := z.1; rw [h1] at q; cases q), fun h1 => ⟨⟨_, rfl, trivial⟩, ?_⟩⟩
  have h1 : isCx (σ 0 2) c = true := by simpa using h1
  rintro x4 τ3 ⟨rfl, rfl⟩
  rw [bI_0]
  refine ⟨fun h2 => hno (fun z => by have q := z.2.1; rw [h2] at q; cases q), fun h2 => ⟨⟨_, _, _, rfl, trivial⟩, ?_⟩⟩
  have h2 : isRw row = true := by simpa using h2
  rintro x6 τ5 ⟨rfl, rfl⟩
  rw [bI_0]
  refine ⟨fun h3 => ?_, fun h3 => hno (fun z => by have q := z.2.2.1; rw [h3] at q; cases q)⟩
  have hm : inR m (-1) (nI 40) = true := by simpa using h3
  obtain ⟨a, b, rfl, ha, ha2, rfl, hb, hb2⟩ := cx_rowM hL.1 h1 h2
  refine ⟨⟨_, _, rfl, hL0.2, a, b, rfl, ha, rfl, hb2⟩, ?_⟩
  rintro x8 τ7 ⟨rfl, rfl⟩
  rw [em]
  have hput : (m ≠ -1 → mM σ (kyC (nI a) (nI b)) = -1 → tn (σ 0 8) < 120) → pr_X10_set [.ref 0, .int (nI a), .int (nI b), .int m] (kp_up σ 0 0 (nI 0)) ∧ ∀ (τ9 : Sg), po_X10_set [.ref 0, .int (nI a), .int (nI b), .int m] (kp_up σ 0 0 (nI 0)) (nI 0) τ9 → po_X10_bind [.ref 0, .int (nI a), .int (nI b), .int m] σ (mM σ (kyC (nI a) (nI b))) τ9 := by
    intro hr
    refine ⟨⟨_, _, _, rfl, hL0.2, ⟨a, b, rfl, ha, rfl, hb⟩, m1_val hm, by rw [em, e8]; exact hr⟩, ?_⟩
    rintro τ9 ⟨p1, p2, p3, p4⟩
    rw [em] at p3 p4
    rw [e8] at p4
    have hI : InvM τ9 := by
      obtain ⟨hL1, hk1, hty1, hco1, has1⟩ := h0
      refine ⟨⟨?_, p1⟩, (kOM_fm hk1 p2 (by decide) (by decide)).1, tyM_fm hty1 p2 (by decide) (by decide), cstM_fm hco1 p2 (by decide), asM_fm has1 p2 (by decide) (by decide)⟩
      rw [p2.1 1 (by decide) (by decide), p2.2 2 (by decide)]; exact hL1.1
    exact ⟨hI, fm_tr (fm_mono fm_0 (by decide) (by decide)) (fm_mono p2 (by decide) (by decide)), fun _ => ⟨rfl, p3, p4⟩, fun h => absurd ⟨h1, h2, hm, fun ⟨q1, q2, q3⟩ => q3 (hr q1 q2)⟩ h⟩
  refine ⟨fun h5 => hput (fun _ z => absurd z h5), fun h5 => ⟨fun h6 => hput (fun z => absurd h6 z), fun h6 => ⟨fun h7 => hput (fun _ _ => ?_), fun h7 => hno (fun q => q.2.2.2 ⟨h6, h5, ?_⟩)⟩⟩⟩
  · rw [e8, hz, nI_eq (by omega) (by omega)] at h7; omega
  · rw [e8, hz, nI_eq (by omega) (by omega)] at h7; omega
def pr_X10_has : SPre := fun As σ => ∃ c : Int32, ∃ row : Int32, As = [.ref 0, .int c, .int row] ∧ (InvM σ)
def po_X10_has : SPost := fun As σ r τ => match As with
  | [.ref _, .int c, .int row] => (InvM τ ∧ fm [] [0] σ τ ∧ (isCx (σ 0 2) c = true ∧ isRw row = true → r = mM σ (kyC c row)) ∧ (¬ (isCx (σ 0 2) c = true ∧ isRw row = true) → r = -1))
  | _ => True
def ms_X10_has : List Me := [(88, 0, 9, 1, true, pr_X10_isContext, po_X10_isContext), (98, 1, 9, 1, true, pr_X10_isRow, po_X10_isRow), (101, 0, 9, 2, true, pr_X10_hasFor, po_X10_hasFor)]
theorem mk_X10_has : ∀ q ∈ ms_X10_has, kp_okM layM RX10 2 q := List.forall_mem_cons.mpr ⟨Or.inl ⟨0, yX10_isContext, cX10_isContext, 2, (some .boolean), c_X10_isContext, by omega, by decide, rfl, lk_X10_88⟩, List.forall_mem_cons.mpr ⟨Or.inl ⟨1, yX10_isRow, cX10_isRow, 4, (some .boolean), c_X10_isRow, by omega, by decide, rfl, lk_X10_98⟩, List.forall_mem_cons.mpr ⟨Or.inl ⟨1, yX10_hasFor, cX10_hasFor, 4, (some .int), c_X10_hasFor, by omega, by decide, rfl, lk_X10_101⟩, fun _ h => absurd h List.not_mem_nil⟩⟩⟩
set_option maxRecDepth 100000 in
theorem v_X10_has {J : Nat → Lcl → List Value → Sg → Prop} {Q : Int32 → Sg → Prop} (c row : Int32) (σ : Sg) (h : pr_X10_isContext [.ref 0, .int c] (kp_up σ 0 0 (nI 0)) ∧ ∀ (x2 : Int32) (τ1 : Sg), po_X10_isContext [.ref 0, .int c] (kp_up σ 0 0 (nI 0)) x2 τ1 → ((x2 = (nI 0) → Q (-1) τ1) ∧ (¬ x2 = (nI 0) → pr_X10_isRow [.int row] τ1 ∧ ∀ (x4 : Int32) (τ3 : Sg), po_X10_isRow [.int row] τ1 x4 τ3 → ((x4 = (nI 0) → Q (-1) τ3) ∧ (¬ x4 = (nI 0) → pr_X10_hasFor [.ref 0, .int c, .int row] τ3 ∧ ∀ (x6 : Int32) (τ5 : Sg), po_X10_hasFor [.ref 0, .int c, .int row] τ3 x6 τ5 → (Q x6 τ5)))))) : kp_T layM gl_X10 pl_X10 (ms_X10_has) tb_X10_has (kp_rk (some .int)) J Q 30 tb_X10_has (kp_en [.ref 0, .int c, .int row] 3) [] σ := h
set_option maxRecDepth 100000 in
set_option maxHeartbeats 4000000 in
theorem c_X10_has : kp_Met layM 2 yX10_has cX10_has 3 (some .int) (pr_X10_has) (po_X10_has) := by
  refine kp_met (N := 30) (by decide) tk_X10_has gk_X10 pk_X10 (mk_X10_has) rfl (fun _ _ _ _ _ _ _ => False) ?_ (fun _ _ _ _ _ _ _ _ h => h.elim)
  rintro As σ ⟨c, row, rfl, hp⟩
  refine ⟨⟨rfl, Nat.le_of_ble_eq_true rfl⟩, v_X10_has c row σ ?_⟩
  obtain ⟨hL, hk, hty, hco, has⟩ := id hp
  have h0 := InvM_0 hp
  obtain ⟨hL0, em⟩ := LM_fm hL fm_0 (by decide) (by decide)
  have e2 : kp_up σ 0 0 (nI 0) 0 2 = σ 0 2 := up_n (by decide)
  refine ⟨⟨_, rfl, trivial⟩, ?_⟩
  rintro x2 τ1 ⟨rfl, rfl⟩
  rw [e2, bI_0]
  refine ⟨fun h1 => ⟨h0, fm_0, fun z => (by rw [h1] at z; cases z.1), fun _ => rfl⟩, fun h1 => ⟨⟨_, rfl, trivial⟩, ?_⟩⟩
  have h1 : isCx (σ 0 2) c = true := by simpa using h1
  rintro x4 τ3 ⟨rfl, rfl⟩
  rw [bI_0]
  refine ⟨fun h2 => ⟨h0, fm_0, fun z => (by rw [h2] at z; cases z.2), fun _ => rfl⟩, fun h2 => ?_⟩
  have h2 : isRw row = true := by simpa using h2
  obtain ⟨a, b, rfl, ha, ha2, rfl, hb, hb2⟩ := cx_rowM hL.1 h1 h2
  refine ⟨⟨_, _, rfl, hL0.2, a, b, rfl, ha, rfl, hb2⟩, ?_⟩
  rintro x8 τ7 ⟨rfl, rfl⟩
  rw [em]
  exact ⟨h0, fm_0, fun _ => rfl, fun z => absurd ⟨h1, h2⟩ z⟩
def pr_X10_means : SPre := fun As σ => ∃ c : Int32, ∃ row : Int32, As = [.ref 0, .int c, .int row] ∧ (InvM σ)
def po_X10_means : SPost := fun As σ r τ => match As with
  | [.ref _, .int c, .int row] => (InvM τ ∧ fm [] [0] σ τ ∧ (isCx (σ 0 2) c = true ∧ isRw row = true → r = mean (σ 1) (mM σ) (tn row) 12 (tn c)) ∧ (¬ (isCx (σ 0 2) c = true ∧ isRw row = true) → r = -1))
  | _ => True
def ms_X10_means : List Me := [(88, 0, 9, 1, true, pr_X10_isContext, po_X10_isContext), (98, 1, 9, 1, true, pr_X10_isRow, po_X10_isRow), (108, 0, 9, 2, true, pr_X10_meaning, po_X10_meaning)]
theorem mk_X10_means : ∀ q ∈ ms_X10_means, kp_okM layM RX10 3 q := List.forall_mem_cons.mpr ⟨Or.inl ⟨0, yX10_isContext, cX10_isContext, 2, (some .boolean), c_X10_isContext, by omega, by decide, rfl, lk_X10_88⟩, List.forall_mem_cons.mpr ⟨Or.inl ⟨1, yX10_isRow, cX10_isRow, 4, (some .boolean), c_X10_isRow, by omega, by decide, rfl, lk_X10_98⟩, List.forall_mem_cons.mpr ⟨Or.inl ⟨2, yX10_meaning, cX10_meaning, 5, (some .int), c_X10_meaning, by omega, by decide, rfl, lk_X10_108⟩, fun _ h => absurd h List.not_mem_nil⟩⟩⟩
set_option maxRecDepth 100000 in
theorem v_X10_means {J : Nat → Lcl → List Value → Sg → Prop} {Q : Int32 → Sg → Prop} (c row : Int32) (σ : Sg) (h : pr_X10_isContext [.ref 0, .int c] (kp_up σ 0 0 (nI 0)) ∧ ∀ (x2 : Int32) (τ1 : Sg), po_X10_isContext [.ref 0, .int c] (kp_up σ 0 0 (nI 0)) x2 τ1 → ((x2 = (nI 0) → Q (-1) τ1) ∧ (¬ x2 = (nI 0) → pr_X10_isRow [.int row] τ1 ∧ ∀ (x4 : Int32) (τ3 : Sg), po_X10_isRow [.int row] τ1 x4 τ3 → ((x4 = (nI 0) → Q (-1) τ3) ∧ (¬ x4 = (nI 0) → pr_X10_meaning [.ref 0, .int c, .int row] τ3 ∧ ∀ (x6 : Int32) (τ5 : Sg), po_X10_meaning [.ref 0, .int c, .int row] τ3 x6 τ5 → (Q x6 τ5)))))) : kp_T layM gl_X10 pl_X10 (ms_X10_means) tb_X10_means (kp_rk (some .int)) J Q 30 tb_X10_means (kp_en [.ref 0, .int c, .int row] 3) [] σ := h
set_option maxRecDepth 100000 in
set_option maxHeartbeats 4000000 in
theorem c_X10_means : kp_Met layM 3 yX10_means cX10_means 3 (some .int) (pr_X10_means) (po_X10_means) := by
  refine kp_met (N := 30) (by decide) tk_X10_means gk_X10 pk_X10 (mk_X10_means) rfl (fun _ _ _ _ _ _ _ => False) ?_ (fun _ _ _ _ _ _ _ _ h => h.elim)
  rintro As σ ⟨c, row, rfl, hp⟩
  refine ⟨⟨rfl, Nat.le_of_ble_eq_true rfl⟩, v_X10_means c row σ ?_⟩
  obtain ⟨hL, hk, hty, hco, has⟩ := id hp
  have h0 := InvM_0 hp
  obtain ⟨hL0, em⟩ := LM_fm hL fm_0 (by decide) (by decide)
  have e2 : kp_up σ 0 0 (nI 0) 0 2 = σ 0 2 := up_n (by decide)
  have e1 : kp_up σ 0 0 (nI 0) 1 = σ 1 := up_c (by decide)
  refine ⟨⟨_, rfl, trivial⟩, ?_⟩
  rintro x2 τ1 ⟨rfl, rfl⟩
  rw [e2, bI_0]
  refine ⟨fun h1 => ⟨h0, fm_0, fun z => (by rw [h1] at z; cases z.1), fun _ => rfl⟩, fun h1 => ⟨⟨_, rfl, trivial⟩, ?_⟩⟩
  have h1 : isCx (σ 0 2) c = true := by simpa using h1
  rintro x4 τ3 ⟨rfl, rfl⟩
  rw [bI_0]
  refine ⟨fun h2 => ⟨h0, fm_0, fun z => (by rw [h2] at z; cases z.2), fun _ => rfl⟩, fun h2 => ?_⟩
  have h2 : isRw row = true := by simpa using h2
  obtain ⟨a, b, rfl, ha, ha2, rfl, hb, hb2⟩ := cx_rowM hL.1 h1 h2
  refine ⟨⟨_, _, rfl, hL0, a, b, rfl, by rw [e2]; exact ha2, rfl, hb2⟩, ?_⟩
  rintro x8 τ7 ⟨rfl, rfl⟩
  rw [em, e1]
  exact ⟨h0, fm_0, fun _ => rfl, fun z => absurd ⟨h1, h2⟩ z⟩
def pr_X10_patience : SPre := fun As σ => ∃ t : Int32, As = [.ref 0, .int t] ∧ (InvM σ)
def po_X10_patience : SPost := fun As σ r τ => match As with
  | [.ref _, .int t] => (InvM τ ∧ (inR t (nI 0) (nI 100) = true → fm [] [0, 4] σ τ ∧ τ 0 4 = t ∧ r = nI 1) ∧ (¬ inR t (nI 0) (nI 100) = true → fm [] [0] σ τ ∧ r = nI 0))
  | _ => True
def ms_X10_patience : List Me := [(84, 1, 9, 3, true, pr_X10_isIn, po_X10_isIn)]
theorem mk_X10_patience : ∀ q ∈ ms_X10_patience, kp_okM layM RX10 1 q := List.forall_mem_cons.mpr ⟨Or.inl ⟨0, yX10_isIn, cX10_isIn, 3, (some .boolean), c_X10_isIn, by omega, by decide, rfl, lk_X10_84⟩, fun _ h => absurd h List.not_mem_nil⟩
set_option maxRecDepth 100000 in
theorem v_X10_patience {J : Nat → Lcl → List Value → Sg → Prop} {Q : Int32 → Sg → Prop} (t : Int32) (σ : Sg) (h : pr_X10_isIn [.int t, .int (nI 0), .int (nI 100)] (kp_up σ 0 0 (nI 0)) ∧ ∀ (x2 : Int32) (τ1 : Sg), po_X10_isIn [.int t, .int (nI 0), .int (nI 100)] (kp_up σ 0 0 (nI 0)) x2 τ1 → ((¬ x2 = (nI 0) → ((nI 1) = nI 0 ∨ (nI 1) = nI 1) ∧ Q (nI 1) (kp_up τ1 0 4 t)) ∧ (x2 = (nI 0) → ((nI 0) = nI 0 ∨ (nI 0) = nI 1) ∧ Q (nI 0) τ1))) : kp_T layM gl_X10 pl_X10 (ms_X10_patience) tb_X10_patience (kp_rk (some .boolean)) J Q 30 tb_X10_patience (kp_en [.ref 0, .int t] 2) [] σ := h
set_option maxRecDepth 100000 in
set_option maxHeartbeats 4000000 in
theorem c_X10_patience : kp_Met layM 1 yX10_patience cX10_patience 2 (some .boolean) (pr_X10_patience) (po_X10_patience) := by
  refine kp_met (N := 30) (by decide) tk_X10_patience gk_X10 pk_X10 (mk_X10_patience) rfl (fun _ _ _ _ _ _ _ => False) ?_ (fun _ _ _ _ _ _ _ _ h => h.elim)
  rintro As σ ⟨t, rfl, hp⟩
  refine ⟨⟨rfl, Nat.le_of_ble_eq_true rfl⟩, v_X10_patience t σ ?_⟩
  obtain ⟨hL, hk, hty, hco, has⟩ := id hp
  have h0 := InvM_0 hp
  refine ⟨⟨_, _, _, rfl, trivial⟩, ?_⟩
  rintro x2 τ1 ⟨rfl, rfl⟩
  rw [bI_0]
  refine ⟨fun h1 => ?_, fun h1 => ⟨Or.inl rfl, h0, fun z => (by rw [h1] at z; cases z), fun _ => ⟨fm_0, rfl⟩⟩⟩
  have h1 : inR t (nI 0) (nI 100) = true := by simpa using h1
  obtain ⟨w1, -, w2⟩ := inR_nat (by omega) (by omega) h1
  have hf : fm [] [0, 4] σ (kp_up (kp_up σ 0 0 (nI 0)) 0 4 t) := fm_up0 (fm_up0 fm_rf (by decide)) (by decide)
  refine ⟨Or.inr rfl, ⟨(LM_fm hL hf (by decide) (by decide)).1, (kOM_fm hk hf (by decide) (by decide)).1, ?_, cstM_fm hco hf (by decide), asM_fm has hf (by decide) (by decide)⟩, fun _ => ⟨hf, up_s, rfl⟩, fun z => absurd h1 z⟩
  obtain ⟨t1, t2, t3, t4, t5, t6, t7, t8, t9, t10⟩ := hty
  unfold tyM
  simp (disch := decide) only [up_c, kp_up_eq, pk_us, pk_un]
  exact ⟨t1, t2, t3, t4, t5, t6, t7, w1, w2, t10⟩
def pr_X10_stretch : SPre := fun As σ => ∃ s : Int32, ∃ p : Int32, As = [.ref 0, .int s, .int p] ∧ (InvM σ)
def po_X10_stretch : SPost := fun As σ r τ => match As with
  | [.ref _, .int s, .int p] => (InvM τ ∧ (isSt s = true ∧ inR p (nI 0) (nI 100) = true → fm [11] [0] σ τ ∧ τ 11 = upd (σ 11) (tn s) p ∧ r = nI 1) ∧ (¬ (isSt s = true ∧ inR p (nI 0) (nI 100) = true) → fm [] [0] σ τ ∧ r = nI 0))
  | _ => True
def ms_X10_stretch : List Me := [(84, 1, 9, 3, true, pr_X10_isIn, po_X10_isIn)]
theorem mk_X10_stretch : ∀ q ∈ ms_X10_stretch, kp_okM layM RX10 1 q := List.forall_mem_cons.mpr ⟨Or.inl ⟨0, yX10_isIn, cX10_isIn, 3, (some .boolean), c_X10_isIn, by omega, by decide, rfl, lk_X10_84⟩, fun _ h => absurd h List.not_mem_nil⟩
set_option maxRecDepth 100000 in
theorem v_X10_stretch {J : Nat → Lcl → List Value → Sg → Prop} {Q : Int32 → Sg → Prop} (s p : Int32) (σ : Sg) (h : pr_X10_isIn [.int s, .int (nI 1), .int (nI 240)] (kp_up σ 0 0 (nI 0)) ∧ ∀ (x2 : Int32) (τ1 : Sg), po_X10_isIn [.int s, .int (nI 1), .int (nI 240)] (kp_up σ 0 0 (nI 0)) x2 τ1 → ((x2 = (nI 0) → ((nI 0) = nI 0 ∨ (nI 0) = nI 1) ∧ Q (nI 0) τ1) ∧ (¬ x2 = (nI 0) → pr_X10_isIn [.int p, .int (nI 0), .int (nI 100)] τ1 ∧ ∀ (x4 : Int32) (τ3 : Sg), po_X10_isIn [.int p, .int (nI 0), .int (nI 100)] τ1 x4 τ3 → ((¬ x4 = (nI 0) → vp_in s 241 ∧ (((nI 1) = nI 0 ∨ (nI 1) = nI 1) ∧ Q (nI 1) (kp_up τ3 11 (s).toNatClampNeg p))) ∧ (x4 = (nI 0) → ((nI 0) = nI 0 ∨ (nI 0) = nI 1) ∧ Q (nI 0) τ3))))) : kp_T layM gl_X10 pl_X10 (ms_X10_stretch) tb_X10_stretch (kp_rk (some .boolean)) J Q 30 tb_X10_stretch (kp_en [.ref 0, .int s, .int p] 3) [] σ := h
set_option maxRecDepth 100000 in
set_option maxHeartbeats 4000000 in
theorem c_X10_stretch : kp_Met layM 1 yX10_stretch cX10_stretch 3 (some .boolean) (pr_X10_stretch) (po_X10_stretch) := by
  refine kp_met (N := 30) (by decide) tk_X10_stretch gk_X10 pk_X10 (mk_X10_stretch) rfl (fun _ _ _ _ _ _ _ => False) ?_ (fun _ _ _ _ _ _ _ _ h => h.elim)
  rintro As σ ⟨s, p, rfl, hp⟩
  refine ⟨⟨rfl, Nat.le_of_ble_eq_true rfl⟩, v_X10_stretch s p σ ?_⟩
  obtain ⟨hL, hk, hty, hco, has⟩ := id hp
  have h0 := InvM_0 hp
  refine ⟨⟨_, _, _, rfl, trivial⟩, ?_⟩
  rintro x2 τ1 ⟨rfl, rfl⟩
  rw [bI_0, ← isSt_inR]
  refine ⟨fun h1 => ⟨Or.inl rfl, h0, fun z => (by rw [h1] at z; cases z.1), fun _ => ⟨fm_0, rfl⟩⟩, fun h1 => ⟨⟨_, _, _, rfl, trivial⟩, ?_⟩⟩
  have h1 : isSt s = true := by simpa using h1
  rintro x4 τ3 ⟨rfl, rfl⟩
  rw [bI_0]
  refine ⟨fun h2 => ?_, fun h2 => ⟨Or.inl rfl, h0, fun z => (by rw [h2] at z; cases z.2), fun _ => ⟨fm_0, rfl⟩⟩⟩
  have hq : inR p (nI 0) (nI 100) = true := by simpa using h2
  obtain ⟨u1, u2, u3⟩ := inR_nat (by omega) (by omega) (show inR s (nI 1) (nI 240) = true from h1)
  obtain ⟨v1, v2, v3⟩ := inR_nat (by omega) (by omega) hq
  have hf : fm [11] [0] σ (kp_up (kp_up σ 0 0 (nI 0)) 11 (tn s) p) := fm_up (fm_up0 fm_rf (by decide)) (by decide) (by decide)
  refine ⟨by rw [u1]; exact (kp_in (tn_lt _)).mpr (by omega), Or.inr rfl, ⟨(LM_fm hL hf (by decide) (by decide)).1, (kOM_fm hk hf (by decide) (by decide)).1, tyM_fm hty hf (by decide) (by decide), ?_, asM_fm has hf (by decide) (by decide)⟩, fun _ => ⟨hf, ?_, rfl⟩, fun z => absurd ⟨h1, hq⟩ z⟩
  · show cstM (kp_up (kp_up σ 0 0 (nI 0)) 11 (tn s) p)
    unfold cstM cstOK
    simp (disch := decide) only [up_c, kp_up_eq, pk_us, pk_un]
    refine ⟨fun x hx hx2 => ?_, hco.2⟩
    by_cases e : x = tn s
    · rw [e, pk_us]; exact ⟨v1, v3⟩
    · rw [pk_un e]; exact hco.1 x hx hx2
  · show kp_up (kp_up σ 0 0 (nI 0)) 11 (tn s) p 11 = _
    simp (disch := decide) only [up_c, kp_up_eq, pk_us, pk_un]
def pr_X10_uses : SPre := fun As σ => ∃ c : Int32, ∃ n : Int32, As = [.ref 0, .int c, .int n] ∧ (InvM σ)
def po_X10_uses : SPost := fun As σ r τ => match As with
  | [.ref _, .int c, .int n] => (InvM τ ∧ (isCx (nI 40) c = true ∧ inR n (nI 0) (nI 1000) = true → fm [12] [0] σ τ ∧ τ 12 = upd (σ 12) (tn c) n ∧ r = nI 1) ∧ (¬ (isCx (nI 40) c = true ∧ inR n (nI 0) (nI 1000) = true) → fm [] [0] σ τ ∧ r = nI 0))
  | _ => True
def ms_X10_uses : List Me := [(167, 1, 9, 1, true, pr_X10_isCommand, po_X10_isCommand), (84, 1, 9, 3, true, pr_X10_isIn, po_X10_isIn)]
theorem mk_X10_uses : ∀ q ∈ ms_X10_uses, kp_okM layM RX10 1 q := List.forall_mem_cons.mpr ⟨Or.inl ⟨0, yX10_isCommand, cX10_isCommand, 1, (some .boolean), c_X10_isCommand, by omega, by decide, rfl, lk_X10_167⟩, List.forall_mem_cons.mpr ⟨Or.inl ⟨0, yX10_isIn, cX10_isIn, 3, (some .boolean), c_X10_isIn, by omega, by decide, rfl, lk_X10_84⟩, fun _ h => absurd h List.not_mem_nil⟩⟩
set_option maxRecDepth 100000 in
theorem v_X10_uses {J : Nat → Lcl → List Value → Sg → Prop} {Q : Int32 → Sg → Prop} (c n : Int32) (σ : Sg) (h : pr_X10_isCommand [.int c] (kp_up σ 0 0 (nI 0)) ∧ ∀ (x2 : Int32) (τ1 : Sg), po_X10_isCommand [.int c] (kp_up σ 0 0 (nI 0)) x2 τ1 → ((x2 = (nI 0) → ((nI 0) = nI 0 ∨ (nI 0) = nI 1) ∧ Q (nI 0) τ1) ∧ (¬ x2 = (nI 0) → pr_X10_isIn [.int n, .int (nI 0), .int (nI 1000)] τ1 ∧ ∀ (x4 : Int32) (τ3 : Sg), po_X10_isIn [.int n, .int (nI 0), .int (nI 1000)] τ1 x4 τ3 → ((¬ x4 = (nI 0) → vp_in c 40 ∧ (((nI 1) = nI 0 ∨ (nI 1) = nI 1) ∧ Q (nI 1) (kp_up τ3 12 (c).toNatClampNeg n))) ∧ (x4 = (nI 0) → ((nI 0) = nI 0 ∨ (nI 0) = nI 1) ∧ Q (nI 0) τ3))))) : kp_T layM gl_X10 pl_X10 (ms_X10_uses) tb_X10_uses (kp_rk (some .boolean)) J Q 30 tb_X10_uses (kp_en [.ref 0, .int c, .int n] 3) [] σ := h
set_option maxRecDepth 100000 in
set_option maxHeartbeats 4000000 in
theorem c_X10_uses : kp_Met layM 1 yX10_uses cX10_uses 3 (some .boolean) (pr_X10_uses) (po_X10_uses) := by
  refine kp_met (N := 30) (by decide) tk_X10_uses gk_X10 pk_X10 (mk_X10_uses) rfl (fun _ _ _ _ _ _ _ => False) ?_ (fun _ _ _ _ _ _ _ _ h => h.elim)
  rintro As σ ⟨c, n, rfl, hp⟩
  refine ⟨⟨rfl, Nat.le_of_ble_eq_true rfl⟩, v_X10_uses c n σ ?_⟩
  obtain ⟨hL, hk, hty, hco, has⟩ := id hp
  have h0 := InvM_0 hp
  refine ⟨⟨_, rfl, trivial⟩, ?_⟩
  rintro x2 τ1 ⟨rfl, rfl⟩
  rw [bI_0]
  refine ⟨fun h1 => ⟨Or.inl rfl, h0, fun z => (by rw [h1] at z; cases z.1), fun _ => ⟨fm_0, rfl⟩⟩, fun h1 => ⟨⟨_, _, _, rfl, trivial⟩, ?_⟩⟩
  have h1 : isCx (nI 40) c = true := by simpa using h1
  rintro x4 τ3 ⟨rfl, rfl⟩
  rw [bI_0]
  refine ⟨fun h2 => ?_, fun h2 => ⟨Or.inl rfl, h0, fun z => (by rw [h2] at z; cases z.2), fun _ => ⟨fm_0, rfl⟩⟩⟩
  have hq : inR n (nI 0) (nI 1000) = true := by simpa using h2
  obtain ⟨v1, v2, v3⟩ := inR_nat (by omega) (by omega) hq
  obtain ⟨a, ha, rfl⟩ := (isCx_iff (by omega)).mp h1
  have hf : fm [12] [0] σ (kp_up (kp_up σ 0 0 (nI 0)) 12 (tn (nI a)) n) := fm_up (fm_up0 fm_rf (by decide)) (by decide) (by decide)
  refine ⟨(kp_in (by omega)).mpr ha, Or.inr rfl, ⟨(LM_fm hL hf (by decide) (by decide)).1, (kOM_fm hk hf (by decide) (by decide)).1, tyM_fm hty hf (by decide) (by decide), ?_, asM_fm has hf (by decide) (by decide)⟩, fun _ => ⟨hf, ?_, rfl⟩, fun z => absurd ⟨h1, hq⟩ z⟩
  · show cstM (kp_up (kp_up σ 0 0 (nI 0)) 12 (tn (nI a)) n)
    unfold cstM cstOK
    simp (disch := decide) only [up_c, kp_up_eq, pk_us, pk_un]
    refine ⟨hco.1, fun x hx => ?_⟩
    by_cases e : x = tn (nI a)
    · rw [e, pk_us]; exact ⟨⟨v1, v3⟩, (hco.2 _ (by rw [← e]; exact hx)).2⟩
    · rw [pk_un e]; exact hco.2 x hx
  · show kp_up (kp_up σ 0 0 (nI 0)) 12 (tn (nI a)) n 12 = _
    simp (disch := decide) only [up_c, kp_up_eq, pk_us, pk_un]
def pr_X10_habit : SPre := fun As σ => ∃ c : Int32, ∃ s : Int32, ∃ w : Int32, As = [.ref 0, .int c, .int s, .int w] ∧ (InvM σ)
def po_X10_habit : SPost := fun As σ r τ => match As with
  | [.ref _, .int c, .int s, .int w] => (InvM τ ∧ (isCx (nI 40) c = true ∧ inR s (nI 0) (nI 240) = true ∧ inR w (nI 0) (nI 10000) = true → fm [13, 14] [0] σ τ ∧ τ 13 = upd (σ 13) (tn c) s ∧ τ 14 = upd (σ 14) (tn c) w ∧ r = nI 1) ∧ (¬ (isCx (nI 40) c = true ∧ inR s (nI 0) (nI 240) = true ∧ inR w (nI 0) (nI 10000) = true) → fm [] [0] σ τ ∧ r = nI 0))
  | _ => True
def ms_X10_habit : List Me := [(167, 1, 9, 1, true, pr_X10_isCommand, po_X10_isCommand), (84, 1, 9, 3, true, pr_X10_isIn, po_X10_isIn)]
theorem mk_X10_habit : ∀ q ∈ ms_X10_habit, kp_okM layM RX10 1 q := List.forall_mem_cons.mpr ⟨Or.inl ⟨0, yX10_isCommand, cX10_isCommand, 1, (some .boolean), c_X10_isCommand, by omega, by decide, rfl, lk_X10_167⟩, List.forall_mem_cons.mpr ⟨Or.inl ⟨0, yX10_isIn, cX10_isIn, 3, (some .boolean), c_X10_isIn, by omega, by decide, rfl, lk_X10_84⟩, fun _ h => absurd h List.not_mem_nil⟩⟩
set_option maxRecDepth 100000 in
theorem v_X10_habit {J : Nat → Lcl → List Value → Sg → Prop} {Q : Int32 → Sg → Prop} (c s w : Int32) (σ : Sg) (h : pr_X10_isCommand [.int c] (kp_up σ 0 0 (nI 0)) ∧ ∀ (x2 : Int32) (τ1 : Sg), po_X10_isCommand [.int c] (kp_up σ 0 0 (nI 0)) x2 τ1 → ((x2 = (nI 0) → ((nI 0) = nI 0 ∨ (nI 0) = nI 1) ∧ Q (nI 0) τ1) ∧ (¬ x2 = (nI 0) → pr_X10_isIn [.int s, .int (nI 0), .int (nI 240)] τ1 ∧ ∀ (x4 : Int32) (τ3 : Sg), po_X10_isIn [.int s, .int (nI 0), .int (nI 240)] τ1 x4 τ3 → ((x4 = (nI 0) → ((nI 0) = nI 0 ∨ (nI 0) = nI 1) ∧ Q (nI 0) τ3) ∧ (¬ x4 = (nI 0) → pr_X10_isIn [.int w, .int (nI 0), .int (nI 10000)] τ3 ∧ ∀ (x6 : Int32) (τ5 : Sg), po_X10_isIn [.int w, .int (nI 0), .int (nI 10000)] τ3 x6 τ5 → ((¬ x6 = (nI 0) → vp_in c 40 ∧ (vp_in c 40 ∧ (((nI 1) = nI 0 ∨ (nI 1) = nI 1) ∧ Q (nI 1) (kp_up (kp_up τ5 13 (c).toNatClampNeg s) 14 (c).toNatClampNeg w)))) ∧ (x6 = (nI 0) → ((nI 0) = nI 0 ∨ (nI 0) = nI 1) ∧ Q (nI 0) τ5))))))) : kp_T layM gl_X10 pl_X10 (ms_X10_habit) tb_X10_habit (kp_rk (some .boolean)) J Q 35 tb_X10_habit (kp_en [.ref 0, .int c, .int s, .int w] 4) [] σ := h
set_option maxRecDepth 100000 in
set_option maxHeartbeats 4000000 in
theorem c_X10_habit : kp_Met layM 1 yX10_habit cX10_habit 4 (some .boolean) (pr_X10_habit) (po_X10_habit) := by
  refine kp_met (N := 35) (by decide) tk_X10_habit gk_X10 pk_X10 (mk_X10_habit) rfl (fun _ _ _ _ _ _ _ => False) ?_ (fun _ _ _ _ _ _ _ _ h => h.elim)
  rintro As σ ⟨c, s, w, rfl, hp⟩
  refine ⟨⟨rfl, Nat.le_of_ble_eq_true rfl⟩, v_X10_habit c s w σ ?_⟩
  obtain ⟨hL, hk, hty, hco, has⟩ := id hp
  have h0 := InvM_0 hp
  refine ⟨⟨_, rfl, trivial⟩, ?_⟩
  rintro x2 τ1 ⟨rfl, rfl⟩
  rw [bI_0]
  refine ⟨fun h1 => ⟨Or.inl rfl, h0, fun z => (by have q := z.1; rw [h1] at q; cases q), fun _ => ⟨fm_0, rfl⟩⟩, fun h1 => ⟨⟨_, _, _, rfl, trivial⟩, ?_⟩⟩
  have h1 : isCx (nI 40) c = true := by simpa using h1
  rintro x4 τ3 ⟨rfl, rfl⟩
  rw [bI_0]
  refine ⟨fun h2 => ⟨Or.inl rfl, h0, fun z => (by have q := z.2.1; rw [h2] at q; cases q), fun _ => ⟨fm_0, rfl⟩⟩, fun h2 => ⟨⟨_, _, _, rfl, trivial⟩, ?_⟩⟩
  have hs : inR s (nI 0) (nI 240) = true := by simpa using h2
  rintro x6 τ5 ⟨rfl, rfl⟩
  rw [bI_0]
  refine ⟨fun h3 => ?_, fun h3 => ⟨Or.inl rfl, h0, fun z => (by have q := z.2.2; rw [h3] at q; cases q), fun _ => ⟨fm_0, rfl⟩⟩⟩
  have hq : inR w (nI 0) (nI 10000) = true := by simpa using h3
  obtain ⟨v1, v2, v3⟩ := inR_nat (by omega) (by omega) hq
  obtain ⟨s1, s2, s3⟩ := inR_nat (by omega) (by omega) hs
  obtain ⟨a, ha, rfl⟩ := (isCx_iff (by omega)).mp h1
  have hf : fm [13, 14] [0] σ (kp_up (kp_up (kp_up σ 0 0 (nI 0)) 13 (tn (nI a)) s) 14 (tn (nI a)) w) := fm_up (fm_up (fm_up0 fm_rf (by decide)) (by decide) (by decide)) (by decide) (by decide)
  refine ⟨(kp_in (by omega)).mpr ha, (kp_in (by omega)).mpr ha, Or.inr rfl, ⟨(LM_fm hL hf (by decide) (by decide)).1, (kOM_fm hk hf (by decide) (by decide)).1, tyM_fm hty hf (by decide) (by decide), ?_, asM_fm has hf (by decide) (by decide)⟩, fun _ => ⟨hf, ?_, ?_, rfl⟩, fun z => absurd ⟨h1, hs, hq⟩ z⟩
  · show cstM (kp_up (kp_up (kp_up σ 0 0 (nI 0)) 13 (tn (nI a)) s) 14 (tn (nI a)) w)
    unfold cstM cstOK
    simp (disch := decide) only [up_c, kp_up_eq, pk_us, pk_un]
    refine ⟨hco.1, fun x hx => ?_⟩
    by_cases e : x = tn (nI a)
    · rw [e, pk_us, pk_us]; exact ⟨(hco.2 _ (by rw [← e]; exact hx)).1, ⟨s1, s3⟩, v1, v3⟩
    · rw [pk_un e, pk_un e]; exact hco.2 x hx
  · show kp_up (kp_up (kp_up σ 0 0 (nI 0)) 13 (tn (nI a)) s) 14 (tn (nI a)) w 13 = _
    simp (disch := decide) only [up_c, kp_up_eq, pk_us, pk_un]
  · show kp_up (kp_up (kp_up σ 0 0 (nI 0)) 13 (tn (nI a)) s) 14 (tn (nI a)) w 14 = _
    simp (disch := decide) only [up_c, kp_up_eq, pk_us, pk_un]
def pr_X10_clear : SPre := fun As σ => As = [.ref 0] ∧ (InvM σ)
def po_X10_clear : SPost := fun As σ r τ => match As with
  | [.ref _] => (InvM τ ∧ fm [] [0, 10, 11] σ τ ∧ τ 0 10 = nI 0 ∧ τ 0 11 = nI 0)
  | _ => True
def ms_X10_clear : List Me := []
theorem mk_X10_clear : ∀ q ∈ ms_X10_clear, kp_okM layM RX10 0 q := fun _ h => absurd h List.not_mem_nil
set_option maxRecDepth 100000 in
theorem v_X10_clear {J : Nat → Lcl → List Value → Sg → Prop} {Q : Int32 → Sg → Prop}  (σ : Sg) (h : Q (nI 0) (kp_up (kp_up (kp_up σ 0 0 (nI 0)) 0 10 (nI 0)) 0 11 (nI 0))) : kp_T layM gl_X10 pl_X10 (ms_X10_clear) tb_X10_clear (kp_rk none) J Q 30 tb_X10_clear (kp_en [.ref 0] 1) [] σ := h
set_option maxRecDepth 100000 in
set_option maxHeartbeats 4000000 in
theorem c_X10_clear : kp_Met layM 0 yX10_clear cX10_clear 1 none (pr_X10_clear) (po_X10_clear) := by
  refine kp_met (N := 30) (by decide) tk_X10_clear gk_X10 pk_X10 (mk_X10_clear) rfl (fun _ _ _ _ _ _ _ => False) ?_ (fun _ _ _ _ _ _ _ _ h => h.elim)
  rintro As σ ⟨rfl, hp⟩
  refine ⟨⟨rfl, Nat.le_of_ble_eq_true rfl⟩, v_X10_clear σ ?_⟩
  obtain ⟨hL, hk, hty, hco, has⟩ := id hp
  have hf : fm [] [0, 10, 11] σ (kp_up (kp_up (kp_up σ 0 0 (nI 0)) 0 10 (nI 0)) 0 11 (nI 0)) := fm_up0 (fm_up0 (fm_up0 fm_rf (by decide)) (by decide)) (by decide)
  refine ⟨⟨(LM_fm hL hf (by decide) (by decide)).1, (kOM_fm hk hf (by decide) (by decide)).1, tyM_fm hty hf (by decide) (by decide), cstM_fm hco hf (by decide), ?_⟩, hf, ?_, up_s⟩
  · unfold asM nwM noM
    simp (disch := decide) only [up_c, kp_up_eq, pk_us, pk_un]
    rw [tn_nI (by omega)]
    exact ⟨nn_nI (by omega), by omega, nn_nI (by omega), by omega, fun i hi => by omega, fun i hi => by omega⟩
  · simp (disch := decide) only [up_c, kp_up_eq, pk_us, pk_un]
def pr_X10_thrown : SPre := fun As σ => As = [.ref 0] ∧ (True)
def po_X10_thrown : SPost := fun As σ r τ => match As with
  | [.ref _] => (τ = σ ∧ r = σ 0 0)
  | _ => True
def ms_X10_thrown : List Me := []
theorem mk_X10_thrown : ∀ q ∈ ms_X10_thrown, kp_okM layM RX10 0 q := fun _ h => absurd h List.not_mem_nil
set_option maxRecDepth 100000 in
theorem v_X10_thrown {J : Nat → Lcl → List Value → Sg → Prop} {Q : Int32 → Sg → Prop}  (σ : Sg) (h : Q (σ 0 0) σ) : kp_T layM gl_X10 pl_X10 (ms_X10_thrown) tb_X10_thrown (kp_rk (some .int)) J Q 30 tb_X10_thrown (kp_en [.ref 0] 1) [] σ := h
set_option maxRecDepth 100000 in
set_option maxHeartbeats 4000000 in
theorem c_X10_thrown : kp_Met layM 0 yX10_thrown cX10_thrown 1 (some .int) (pr_X10_thrown) (po_X10_thrown) := by
  refine kp_met (N := 30) (by decide) tk_X10_thrown gk_X10 pk_X10 (mk_X10_thrown) rfl (fun _ _ _ _ _ _ _ => False) ?_ (fun _ _ _ _ _ _ _ _ h => h.elim)
  rintro As σ ⟨rfl, hp⟩
  refine ⟨⟨rfl, Nat.le_of_ble_eq_true rfl⟩, v_X10_thrown σ ?_⟩
  exact ⟨rfl, rfl⟩
def pr_X10_want : SPre := fun As σ => ∃ c : Int32, ∃ x : Int32, As = [.ref 0, .int c, .int x] ∧ (InvM σ)
def po_X10_want : SPost := fun As σ r τ => match As with
  | [.ref _, .int c, .int x] => (InvM τ ∧ (isCx (nI 40) c = true ∧ isCx (σ 0 2) x = true ∧ nwM σ < 6 ∧ (∀ j, j < nwM σ → σ 15 j ≠ c) → fm [15, 16] [0, 10] σ τ ∧ τ 15 = upd (σ 15) (nwM σ) c ∧ τ 16 = upd (σ 16) (nwM σ) x ∧ τ 0 10 = nI (nwM σ + 1) ∧ r = nI (nwM σ + 1)) ∧ (¬ (isCx (nI 40) c = true ∧ isCx (σ 0 2) x = true ∧ nwM σ < 6 ∧ (∀ j, j < nwM σ → σ 15 j ≠ c)) → fm [] [0] σ τ ∧ r = -1))
  | _ => True
def ms_X10_want : List Me := [(167, 1, 9, 1, true, pr_X10_isCommand, po_X10_isCommand), (88, 0, 9, 1, true, pr_X10_isContext, po_X10_isContext)]
theorem mk_X10_want : ∀ q ∈ ms_X10_want, kp_okM layM RX10 1 q := List.forall_mem_cons.mpr ⟨Or.inl ⟨0, yX10_isCommand, cX10_isCommand, 1, (some .boolean), c_X10_isCommand, by omega, by decide, rfl, lk_X10_167⟩, List.forall_mem_cons.mpr ⟨Or.inl ⟨0, yX10_isContext, cX10_isContext, 2, (some .boolean), c_X10_isContext, by omega, by decide, rfl, lk_X10_88⟩, fun _ h => absurd h List.not_mem_nil⟩⟩
set_option maxRecDepth 100000 in
theorem v_X10_want {J : Nat → Lcl → List Value → Sg → Prop} {Q : Int32 → Sg → Prop} (c x : Int32) (σ : Sg) (h : pr_X10_isCommand [.int c] (kp_up σ 0 0 (nI 0)) ∧ ∀ (x2 : Int32) (τ1 : Sg), po_X10_isCommand [.int c] (kp_up σ 0 0 (nI 0)) x2 τ1 → ((x2 = (nI 0) → Q (-1) τ1) ∧ (¬ x2 = (nI 0) → pr_X10_isContext [.ref 0, .int x] τ1 ∧ ∀ (x4 : Int32) (τ3 : Sg), po_X10_isContext [.ref 0, .int x] τ1 x4 τ3 → ((x4 = (nI 0) → Q (-1) τ3) ∧ (¬ x4 = (nI 0) → (¬ (τ3 0 10) = (nI 6) → J 33 [some (.ref 0), some (.int c), some (.int x), some (.int (nI 0))] [] τ3) ∧ ((τ3 0 10) = (nI 6) → Q (-1) τ3)))))) : kp_T layM gl_X10 pl_X10 (ms_X10_want) tb_X10_want (kp_rk (some .int)) J Q 58 tb_X10_want (kp_en [.ref 0, .int c, .int x] 4) [] σ := h
set_option maxRecDepth 100000 in
theorem v_X10_want_33 {J : Nat → Lcl → List Value → Sg → Prop} {Q : Int32 → Sg → Prop} (c x k : Int32) (σ : Sg) (h : (¬ k < (σ 0 10) → vp_in (σ 0 10) 6 ∧ (vp_in ((kp_up σ 15 (σ 0 10).toNatClampNeg c) 0 10) 6 ∧ (Q ((kp_up (kp_up (kp_up σ 15 (σ 0 10).toNatClampNeg c) 16 ((kp_up σ 15 (σ 0 10).toNatClampNeg c) 0 10).toNatClampNeg x) 0 10 (((kp_up (kp_up σ 15 (σ 0 10).toNatClampNeg c) 16 ((kp_up σ 15 (σ 0 10).toNatClampNeg c) 0 10).toNatClampNeg x) 0 10) + (nI 1))) 0 10) (kp_up (kp_up (kp_up σ 15 (σ 0 10).toNatClampNeg c) 16 ((kp_up σ 15 (σ 0 10).toNatClampNeg c) 0 10).toNatClampNeg x) 0 10 (((kp_up (kp_up σ 15 (σ 0 10).toNatClampNeg c) 16 ((kp_up σ 15 (σ 0 10).toNatClampNeg c) 0 10).toNatClampNeg x) 0 10) + (nI 1)))))) ∧ (k < (σ 0 10) → vp_in k 6 ∧ ((¬ (σ 15 (k).toNatClampNeg) = c → J 33 [some (.ref 0), some (.int c), some (.int x), some (.int (k + nI 1))] [] σ) ∧ ((σ 15 (k).toNatClampNeg) = c → Q (-1) σ)))) : kp_T1 layM gl_X10 pl_X10 (ms_X10_want) tb_X10_want (kp_rk (some .int)) J Q 58 33 [some (.ref 0), some (.int c), some (.int x), some (.int k)] [] σ := h
abbrev iv_X10_want : List Value → Sg → Nat → Nat → Lcl → List Value → Sg → Prop := fun As σ n pc ls st τ => pc = 33 ∧ st = [] ∧ τ = kp_up σ 0 0 (nI 0) ∧ ∃ (c x : Int32) (k : Nat), As = [.ref 0, .int c, .int x] ∧ ls = [some (.ref 0), some (.int c), some (.int x), some (.int (nI k))] ∧ k ≤ nwM σ ∧ n = nwM σ - k ∧ isCx (nI 40) c = true ∧ isCx (σ 0 2) x = true ∧ nwM σ < 6 ∧ ∀ j, j < k → σ 15 j ≠ c
set_option maxRecDepth 100000 in
set_option maxHeartbeats 4000000 in
theorem c_X10_want : kp_Met layM 1 yX10_want cX10_want 4 (some .int) (pr_X10_want) (po_X10_want) := by
  refine kp_met (N := 58) (by decide) tk_X10_want gk_X10 pk_X10 (mk_X10_want) rfl (iv_X10_want) ?_ ?_
  · rintro As σ ⟨c, x, rfl, hp⟩
    refine ⟨⟨rfl, Nat.le_of_ble_eq_true rfl⟩, v_X10_want c x σ ?_⟩
    obtain ⟨hL, hk, hty, hco, has⟩ := id hp
    have h0 := InvM_0 hp
    have e2 : kp_up σ 0 0 (nI 0) 0 2 = σ 0 2 := up_n (by decide)
    have e10 : kp_up σ 0 0 (nI 0) 0 10 = σ 0 10 := up_n (by decide)
    refine ⟨⟨_, rfl, trivial⟩, ?_⟩
    rintro x2 τ1 ⟨rfl, rfl⟩
    rw [bI_0]
    refine ⟨fun h1 => ⟨h0, fun z => (by have q := z.1; rw [h1] at q; cases q), fun _ => ⟨fm_0, rfl⟩⟩, fun h1 => ⟨⟨_, rfl, trivial⟩, ?_⟩⟩
    have h1 : isCx (nI 40) c = true := by simpa using h1
    rintro x4 τ3 ⟨rfl, rfl⟩
    rw [bI_0, e2, e10]
    refine ⟨fun h2 => ⟨h0, fun z => (by have q := z.2.1; rw [h2] at q; cases q), fun _ => ⟨fm_0, rfl⟩⟩, fun h2 => ?_⟩
    have h2 : isCx (σ 0 2) x = true := by simpa using h2
    have en : nwM σ = tn (σ 0 10) := rfl
    have h6 : σ 0 10 = nI 6 ↔ nwM σ = 6 := by rw [has.1, nI_eq (tn_lt _) (by omega)]
    rw [h6]
    have := has.2.1
    exact ⟨fun h3 => ⟨_, rfl, rfl, rfl, c, x, 0, rfl, rfl, Nat.zero_le _, rfl, h1, h2, by omega, fun j hj => by omega⟩, fun h3 => ⟨h0, fun z => absurd z.2.2.1 (by omega), fun _ => ⟨fm_0, rfl⟩⟩⟩
  · rintro As σ ⟨c, x, rfl, hp⟩ n pc ls st τ hI
    obtain ⟨hL, hk, hty, hco, has⟩ := id hp
    have h0 := InvM_0 hp
    obtain ⟨rfl, rfl, rfl, c', x', k, hAs, rfl, hkl, rfl, h1, h2, h6, hj⟩ := hI
    cases hAs
    have en : nwM σ = tn (σ 0 10) := rfl
    have ecl : (σ 0 10).toNatClampNeg = nwM σ := rfl
    have e10 : kp_up σ 0 0 (nI 0) 0 10 = σ 0 10 := up_n (by decide)
    have e15 : kp_up σ 0 0 (nI 0) 15 = σ 15 := up_c (by decide)
    refine v_X10_want_33 _ _ _ (kp_up σ 0 0 (nI 0)) ?_
    have e16 : kp_up (kp_up σ 0 0 (nI 0)) 15 (nwM σ) c 0 10 = σ 0 10 := by simp (disch := decide) only [up_c, kp_up_eq, pk_us, pk_un]
    have e17 : kp_up (kp_up (kp_up σ 0 0 (nI 0)) 15 (nwM σ) c) 16 (nwM σ) x 0 10 = σ 0 10 := by simp (disch := decide) only [up_c, kp_up_eq, pk_us, pk_un]
    rw [e10, ecl, e16, ecl, e17, up_s, e15]
    have eadd : σ 0 10 + nI 1 = nI (nwM σ + 1) := by rw [has.1, nI_add]
    rw [eadd, (nn_lt has.1 (show k < 2 ^ 31 by omega)).1, nI_clamp (show k < 2 ^ 31 by omega), nI_add]
    have hin : vp_in (σ 0 10) 6 := by rw [has.1]; exact (kp_in (tn_lt _)).mpr h6
    refine ⟨fun g => ⟨hin, hin, ?_⟩, fun g => ⟨(kp_in (by omega)).mpr (by omega), fun g2 => ⟨nwM σ - (k + 1), by omega, rfl, rfl, rfl, c, x, k + 1, rfl, rfl, by omega, rfl, h1, h2, h6, fun j hj' => ?_⟩, fun g2 => ⟨h0, fun z => absurd g2 (z.2.2.2 k g), fun _ => ⟨fm_0, rfl⟩⟩⟩⟩
    · have hall : ∀ j, j < nwM σ → σ 15 j ≠ c := fun j hj' => hj j (by omega)
      have hf : fm [15, 16] [0, 10] σ (kp_up (kp_up (kp_up (kp_up σ 0 0 (nI 0)) 15 (nwM σ) c) 16 (nwM σ) x) 0 10 (nI (nwM σ + 1))) := fm_up0 (fm_up (fm_up (fm_up0 fm_rf (by decide)) (by decide) (by decide)) (by decide) (by decide)) (by decide)
      refine ⟨⟨(LM_fm hL hf (by decide) (by decide)).1, (kOM_fm hk hf (by decide) (by decide)).1, tyM_fm hty hf (by decide) (by decide), cstM_fm hco hf (by decide), ?_⟩, fun _ => ⟨hf, ?_, ?_, up_s, rfl⟩, fun z => absurd ⟨h1, h2, h6, hall⟩ z⟩
      · obtain ⟨n, hn, n1, n2, -, -⟩ := hL.1
        have hcc : nn x ∧ tn x < tn (σ 0 2) := by
          rw [hn] at h2 ⊢
          obtain ⟨a, ha, rfl⟩ := (isCx_iff (by omega)).mp h2
          rw [tn_nI (show n < 2 ^ 31 by omega)]
          exact ⟨nn_nI (by omega), by rw [tn_nI (by omega)]; exact ha⟩
        have hcd : nn c ∧ tn c < 40 := by
          obtain ⟨a, ha, rfl⟩ := (isCx_iff (by omega)).mp h1
          exact ⟨nn_nI (by omega), by rw [tn_nI (by omega)]; exact ha⟩
        obtain ⟨s1, s2, s3, s4, s5, s6⟩ := has
        unfold asM nwM noM
        simp (disch := decide) only [up_c, kp_up_eq, pk_us, pk_un]
        rw [tn_nI (by omega)]
        refine ⟨nn_nI (by omega), by omega, s3, s4, fun i hi => ?_, s6⟩
        by_cases e : i = tn (σ 0 10)
        · rw [e, pk_us, pk_us]; exact ⟨hcd.1, hcd.2, hcc.1, hcc.2⟩
        · rw [pk_un e, pk_un e]; exact s5 i (by omega)
      · simp (disch := decide) only [up_c, kp_up_eq, pk_us, pk_un]
      · simp (disch := decide) only [up_c, kp_up_eq, pk_us, pk_un]
    · by_cases e : j = k
      · rw [e]; exact g2
      · exact hj j (by omega)
def pr_X10_offer : SPre := fun As σ => ∃ s : Int32, As = [.ref 0, .int s] ∧ (InvM σ)
def po_X10_offer : SPost := fun As σ r τ => match As with
  | [.ref _, .int s] => (InvM τ ∧ (isSt s = true ∧ noM σ < 8 ∧ (∀ j, j < noM σ → σ 17 j ≠ s) → fm [17] [0, 11] σ τ ∧ τ 17 = upd (σ 17) (noM σ) s ∧ τ 0 11 = nI (noM σ + 1) ∧ r = nI (noM σ + 1)) ∧ (¬ (isSt s = true ∧ noM σ < 8 ∧ (∀ j, j < noM σ → σ 17 j ≠ s)) → fm [] [0] σ τ ∧ r = -1))
  | _ => True
def ms_X10_offer : List Me := [(84, 1, 9, 3, true, pr_X10_isIn, po_X10_isIn)]
theorem mk_X10_offer : ∀ q ∈ ms_X10_offer, kp_okM layM RX10 1 q := List.forall_mem_cons.mpr ⟨Or.inl ⟨0, yX10_isIn, cX10_isIn, 3, (some .boolean), c_X10_isIn, by omega, by decide, rfl, lk_X10_84⟩, fun _ h => absurd h List.not_mem_nil⟩
set_option maxRecDepth 100000 in
theorem v_X10_offer {J : Nat → Lcl → List Value → Sg → Prop} {Q : Int32 → Sg → Prop} (s : Int32) (σ : Sg) (h : pr_X10_isIn [.int s, .int (nI 1), .int (nI 240)] (kp_up σ 0 0 (nI 0)) ∧ ∀ (x2 : Int32) (τ1 : Sg), po_X10_isIn [.int s, .int (nI 1), .int (nI 240)] (kp_up σ 0 0 (nI 0)) x2 τ1 → ((x2 = (nI 0) → Q (-1) τ1) ∧ (¬ x2 = (nI 0) → (¬ (τ1 0 11) = (nI 8) → J 29 [some (.ref 0), some (.int s), some (.int (nI 0))] [] τ1) ∧ ((τ1 0 11) = (nI 8) → Q (-1) τ1)))) : kp_T layM gl_X10 pl_X10 (ms_X10_offer) tb_X10_offer (kp_rk (some .int)) J Q 50 tb_X10_offer (kp_en [.ref 0, .int s] 3) [] σ := h
set_option maxRecDepth 100000 in
theorem v_X10_offer_29 {J : Nat → Lcl → List Value → Sg → Prop} {Q : Int32 → Sg → Prop} (s k : Int32) (σ : Sg) (h : (¬ k < (σ 0 11) → vp_in (σ 0 11) 8 ∧ (Q ((kp_up (kp_up σ 17 (σ 0 11).toNatClampNeg s) 0 11 (((kp_up σ 17 (σ 0 11).toNatClampNeg s) 0 11) + (nI 1))) 0 11) (kp_up (kp_up σ 17 (σ 0 11).toNatClampNeg s) 0 11 (((kp_up σ 17 (σ 0 11).toNatClampNeg s) 0 11) + (nI 1))))) ∧ (k < (σ 0 11) → vp_in k 8 ∧ ((¬ (σ 17 (k).toNatClampNeg) = s → J 29 [some (.ref 0), some (.int s), some (.int (k + nI 1))] [] σ) ∧ ((σ 17 (k).toNatClampNeg) = s → Q (-1) σ)))) : kp_T1 layM gl_X10 pl_X10 (ms_X10_offer) tb_X10_offer (kp_rk (some .int)) J Q 50 29 [some (.ref 0), some (.int s), some (.int k)] [] σ := h
abbrev iv_X10_offer : List Value → Sg → Nat → Nat → Lcl → List Value → Sg → Prop := fun As σ n pc ls st τ => pc = 29 ∧ st = [] ∧ τ = kp_up σ 0 0 (nI 0) ∧ ∃ (s : Int32) (k : Nat), As = [.ref 0, .int s] ∧ ls = [some (.ref 0), some (.int s), some (.int (nI k))] ∧ k ≤ noM σ ∧ n = noM σ - k ∧ isSt s = true ∧ noM σ < 8 ∧ ∀ j, j < k → σ 17 j ≠ s
set_option maxRecDepth 100000 in
set_option maxHeartbeats 4000000 in
theorem c_X10_offer : kp_Met layM 1 yX10_offer cX10_offer 3 (some .int) (pr_X10_offer) (po_X10_offer) := by
  refine kp_met (N := 50) (by decide) tk_X10_offer gk_X10 pk_X10 (mk_X10_offer) rfl (iv_X10_offer) ?_ ?_
  · rintro As σ ⟨s, rfl, hp⟩
    refine ⟨⟨rfl, Nat.le_of_ble_eq_true rfl⟩, v_X10_offer s σ ?_⟩
    obtain ⟨hL, hk, hty, hco, has⟩ := id hp
    have h0 := InvM_0 hp
    have e11 : kp_up σ 0 0 (nI 0) 0 11 = σ 0 11 := up_n (by decide)
    refine ⟨⟨_, _, _, rfl, trivial⟩, ?_⟩
    rintro x2 τ1 ⟨rfl, rfl⟩
    rw [bI_0, ← isSt_inR, e11]
    refine ⟨fun h1 => ⟨h0, fun z => (by have q := z.1; rw [h1] at q; cases q), fun _ => ⟨fm_0, rfl⟩⟩, fun h1 => ?_⟩
    have h1 : isSt s = true := by simpa using h1
    have en : noM σ = tn (σ 0 11) := rfl
    have h6 : σ 0 11 = nI 8 ↔ noM σ = 8 := by rw [has.2.2.1, nI_eq (tn_lt _) (by omega)]
    rw [h6]
    have := has.2.2.2.1
    exact ⟨fun h3 => ⟨_, rfl, rfl, rfl, s, 0, rfl, rfl, Nat.zero_le _, rfl, h1, by omega, fun j hj => by omega⟩, fun h3 => ⟨h0, fun z => absurd z.2.1 (by omega), fun _ => ⟨fm_0, rfl⟩⟩⟩
  · rintro As σ ⟨s, rfl, hp⟩ n pc ls st τ hI
    obtain ⟨hL, hk, hty, hco, has⟩ := id hp
    have h0 := InvM_0 hp
    obtain ⟨rfl, rfl, rfl, s', k, hAs, rfl, hkl, rfl, h1, h6, hj⟩ := hI
    cases hAs
    have en : noM σ = tn (σ 0 11) := rfl
    have ecl : (σ 0 11).toNatClampNeg = noM σ := rfl
    have e11 : kp_up σ 0 0 (nI 0) 0 11 = σ 0 11 := up_n (by decide)
    have e17 : kp_up σ 0 0 (nI 0) 17 = σ 17 := up_c (by decide)
    have ha3 := has.2.2.1
    refine v_X10_offer_29 _ _ (kp_up σ 0 0 (nI 0)) ?_
    have e16 : kp_up (kp_up σ 0 0 (nI 0)) 17 (noM σ) s 0 11 = σ 0 11 := by simp (disch := decide) only [up_c, kp_up_eq, pk_us, pk_un]
    rw [e11, ecl, e16, up_s, e17]
    have eadd : σ 0 11 + nI 1 = nI (noM σ + 1) := by rw [ha3, nI_add]
    rw [eadd, (nn_lt ha3 (show k < 2 ^ 31 by omega)).1, nI_clamp (show k < 2 ^ 31 by omega), nI_add]
    have hin : vp_in (σ 0 11) 8 := by rw [ha3]; exact (kp_in (tn_lt _)).mpr h6
    refine ⟨fun g => ⟨hin, ?_⟩, fun g => ⟨(kp_in (by omega)).mpr (by omega), fun g2 => ⟨noM σ - (k + 1), by omega, rfl, rfl, rfl, s, k + 1, rfl, rfl, by omega, rfl, h1, h6, fun j hj' => ?_⟩, fun g2 => ⟨h0, fun z => absurd g2 (z.2.2 k g), fun _ => ⟨fm_0, rfl⟩⟩⟩⟩
    · have hall : ∀ j, j < noM σ → σ 17 j ≠ s := fun j hj' => hj j (by omega)
      have hf : fm [17] [0, 11] σ (kp_up (kp_up (kp_up σ 0 0 (nI 0)) 17 (noM σ) s) 0 11 (nI (noM σ + 1))) := fm_up0 (fm_up (fm_up0 fm_rf (by decide)) (by decide) (by decide)) (by decide)
      refine ⟨⟨(LM_fm hL hf (by decide) (by decide)).1, (kOM_fm hk hf (by decide) (by decide)).1, tyM_fm hty hf (by decide) (by decide), cstM_fm hco hf (by decide), ?_⟩, fun _ => ⟨hf, ?_, up_s, rfl⟩, fun z => absurd ⟨h1, h6, hall⟩ z⟩
      · obtain ⟨u1, u2, u3⟩ := inR_nat (by omega) (by omega) (show inR s (nI 1) (nI 240) = true from h1)
        obtain ⟨s1, s2, s3, s4, s5, s6⟩ := has
        unfold asM nwM noM
        simp (disch := decide) only [up_c, kp_up_eq, pk_us, pk_un]
        rw [tn_nI (show tn (σ 0 11) + 1 < 2 ^ 31 by omega)]
        refine ⟨s1, s2, nn_nI (by omega), by omega, s5, fun i hi => ?_⟩
        by_cases e : i = tn (σ 0 11)
        · rw [e, pk_us]; exact ⟨u1, u2, u3⟩
        · rw [pk_un e]; exact s6 i (by omega)
      · simp (disch := decide) only [up_c, kp_up_eq, pk_us, pk_un]
    · by_cases e : j = k
      · rw [e]; exact g2
      · exact hj j (by omega)
