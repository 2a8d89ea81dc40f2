/-! KeyPlan's own methods: typing, costs, what is wanted and offered -/
theorem InvC_ty {σ τ : Sg} (h : InvC σ) (hf : fr [15, 16, 17] σ τ) (h1 : tyOK τ) (h2 : rlen (tn (τ 15 7)) ≤ 2) : InvC τ := by
  have q : ∀ c, c ∉ [15, 16, 17] → τ c = σ c := fun c hc => hf c hc
  obtain ⟨a1, a2, a3, a4, a5, a6, a7⟩ := h
  refine ⟨?_, ?_, h1, h2, ?_, ?_, ?_⟩
  all_goals unfold LI cstC asOK slv bsC RS PT MT ofC nwC noC at *
  · rw [q 2 (by decide), q 3 (by decide), q 4 (by decide), q 5 (by decide), q 6 (by decide)]; exact a1
  · rw [q 7 (by decide), q 8 (by decide), q 9 (by decide)]; exact a2
  · rw [q 19 (by decide), q 20 (by decide), q 21 (by decide), q 22 (by decide)]; exact a5
  · rw [q 2 (by decide), q 23 (by decide), q 24 (by decide), q 25 (by decide), q 26 (by decide)]; exact a6
  · rw [q 3 (by decide), q 19 (by decide), q 20 (by decide), q 21 (by decide), q 22 (by decide), q 23 (by decide), q 24 (by decide), q 25 (by decide), q 26 (by decide), q 27 (by decide)]; exact a7
theorem InvC_cs {σ τ : Sg} (h : InvC σ) (hf : fr [19, 20, 21, 22, 23, 24, 25, 26] σ τ) (h1 : cstC τ) (h2 : asOK τ) (h3 : τ 23 5 = nI 0) : InvC τ := by
  have q : ∀ c, c ∉ [19, 20, 21, 22, 23, 24, 25, 26] → τ c = σ c := fun c hc => hf c hc
  obtain ⟨a1, a2, a3, a4, a5, a6, a7⟩ := h
  refine ⟨?_, ?_, ?_, ?_, h1, h2, Or.inl h3⟩
  · unfold LI at *; rw [q 2 (by decide), q 3 (by decide), q 4 (by decide), q 5 (by decide), q 6 (by decide)]; exact a1
  · rw [q 7 (by decide), q 8 (by decide), q 9 (by decide)]; exact a2
  · unfold tyOK at *; rw [q 2 (by decide), q 15 (by decide)]; exact a3
  · rw [q 15 (by decide)]; exact a4
theorem InvC_sv {σ τ : Sg} (h : InvC σ) (hf : fr svF σ τ) (h2 : asOK τ) (h3 : slv τ) : InvC τ := by
  have q : ∀ c, c ∉ svF → τ c = σ c := fun c hc => hf c hc
  obtain ⟨a1, a2, a3, a4, a5, a6, a7⟩ := h
  refine ⟨?_, ?_, ?_, ?_, ?_, h2, Or.inr h3⟩
  · unfold LI at *; rw [q 2 (by decide), q 3 (by decide), q 4 (by decide), q 5 (by decide), q 6 (by decide)]; exact a1
  · rw [q 7 (by decide), q 8 (by decide), q 9 (by decide)]; exact a2
  · unfold tyOK at *; rw [q 2 (by decide), q 15 (by decide)]; exact a3
  · rw [q 15 (by decide)]; exact a4
  · unfold cstC at *; rw [q 19 (by decide), q 20 (by decide), q 21 (by decide), q 22 (by decide)]; exact a5
theorem prT_ok {o M : Nat → Int32} {c pat last s tick : Nat} {t : TS} (h : lnOK t.1) (h2 : rlen t.1 ≤ 2) (hs : 1 ≤ s) (hs2 : s ≤ 240) : lnOK (prT o M c pat last s tick t).1 ∧ szT (prT o M c pat last s tick t) ≤ szT t + 1 ∧ rlen (prT o M c pat last s tick t).1 ≤ 2 := by
  have key : ∀ t1 : TS, lnOK t1.1 → rlen t1.1 ≤ 2 → szT t1 ≤ szT t → lnOK (fiT o M c (nI tick) (drT o M c (nI tick) 3 (t1.1 + s * 256 ^ rlen t1.1, t1.2))).1 ∧ szT (fiT o M c (nI tick) (drT o M c (nI tick) 3 (t1.1 + s * 256 ^ rlen t1.1, t1.2))) ≤ szT t + 1 ∧ rlen (fiT o M c (nI tick) (drT o M c (nI tick) 3 (t1.1 + s * 256 ^ rlen t1.1, t1.2))).1 ≤ 2 := by
    intro t1 g1 g2 g3
    obtain ⟨k1, k2⟩ := ln_add g1 g2 hs hs2
    obtain ⟨d1, d2, d3, d4⟩ := drT_ok (o := o) (M := M) (c := c) (tick := nI tick) 3 (t1.1 + s * 256 ^ rlen t1.1, t1.2) (Or.inr k1)
    have d4 := d4 (by show rlen (t1.1 + s * 256 ^ rlen t1.1) ≤ 3; omega)
    obtain ⟨f1, f2, f3⟩ := fiT_ok (tick := nI tick) d1 d4
    refine ⟨f1, ?_, f3⟩
    have : szT (t1.1 + s * 256 ^ rlen t1.1, t1.2) = szT t1 + 1 := by unfold szT; dsimp only; omega
    omega
  unfold prT
  by_cases hp : pat < tick - last
  · simp only [if_pos hp]
    obtain ⟨s1, s2, s3⟩ := stT_ok (o := o) (M := M) (c := c) (tick := nI (last + pat)) 3 t h
    refine key _ s1 ?_ s2
    have := s3 (by omega)
    rw [this]; decide
  · simp only [if_neg hp]
    exact key t h h2 (Nat.le_refl _)
def pr_X9_go : SPre := fun As σ => ∃ c : Int32, As = [.ref 0, .int c] ∧ (InvC σ ∧ szT (tsC σ) ≤ 700000)
def po_X9_go : SPost := fun As σ r τ => match As with
  | [.ref _, .int c] => (InvC τ ∧ szT (tsC τ) ≤ szT (tsC σ) ∧ (isCx (σ 2 1) c = true → fr [15, 16, 17] σ τ ∧ τ 15 4 = c ∧ τ 15 5 = σ 15 5 ∧ τ 15 6 = σ 15 6 ∧ tsC τ = stT (σ 3) (mC σ) (tn (σ 15 4)) (σ 15 6) 3 (tsC σ) ∧ r = nI 1) ∧ (¬ isCx (σ 2 1) c = true → τ = σ ∧ r = nI 0))
  | _ => True
def ms_X9_go : List Me := [(72, 0, 2, 1, true, pr_X2_hold, po_X2_hold), (119, 0, 7, 2, false, pr_X8_settleAll, po_X8_settleAll)]
theorem mk_X9_go : ∀ q ∈ ms_X9_go, kp_okM layC RX9 5 q := List.forall_mem_cons.mpr ⟨Or.inl ⟨0, yX2_hold, cX2_hold, 2, (some .boolean), c_X2_hold, by omega, by decide, rfl, lk_X9_72⟩, List.forall_mem_cons.mpr ⟨Or.inl ⟨4, yX8_settleAll, cX8_settleAll, 4, none, c_X8_settleAll, by omega, by decide, rfl, lk_X9_119⟩, fun _ h => absurd h List.not_mem_nil⟩⟩
set_option maxRecDepth 100000 in
theorem v_X9_go {J : Nat → Lcl → List Value → Sg → Prop} {Q : Int32 → Sg → Prop} (c : Int32) (σ : Sg) (h : pr_X2_hold [.ref 2, .int c] σ ∧ ∀ (x2 : Int32) (τ1 : Sg), po_X2_hold [.ref 2, .int c] σ x2 τ1 → ((¬ x2 = (nI 0) → pr_X8_settleAll [.ref 15, .ref 1, .int (τ1 15 6)] τ1 ∧ ∀ (τ3 : Sg), po_X8_settleAll [.ref 15, .ref 1, .int (τ1 15 6)] τ1 (nI 0) τ3 → (((nI 1) = nI 0 ∨ (nI 1) = nI 1) ∧ Q (nI 1) (kp_up τ3 15 4 c))) ∧ (x2 = (nI 0) → ((nI 0) = nI 0 ∨ (nI 0) = nI 1) ∧ Q (nI 0) τ1))) : kp_T layC gl_X9 pl_X9 (ms_X9_go) tb_X9_go (kp_rk (some .boolean)) J Q 30 tb_X9_go (kp_en [.ref 0, .int c] 2) [] σ := h
set_option maxRecDepth 100000 in
set_option maxHeartbeats 4000000 in
theorem c_X9_go : kp_Met layC 5 yX9_go cX9_go 2 (some .boolean) (pr_X9_go) (po_X9_go) := by
  refine kp_met (N := 30) (by decide) tk_X9_go gk_X9 pk_X9 (mk_X9_go) rfl (fun _ _ _ _ _ _ _ => False) ?_ (fun _ _ _ _ _ _ _ _ h => h.elim)
  rintro As σ ⟨c, rfl, hp⟩
  refine ⟨⟨rfl, Nat.le_of_ble_eq_true rfl⟩, v_X9_go c σ ?_⟩
  obtain ⟨hp, hsz⟩ := hp
  obtain ⟨hL, hkb, hty, hrl, hco, has, hsl⟩ := id hp
  refine ⟨⟨_, rfl, trivial⟩, ?_⟩
  rintro x2 τ1 ⟨rfl, rfl⟩
  rw [bI_0]
  refine ⟨fun h1 => ?_, fun h1 => ⟨Or.inl rfl, hp, Nat.le_refl _, fun z => (by rw [h1] at z; cases z), fun _ => ⟨rfl, rfl⟩⟩⟩
  have h1 : isCx (τ1 2 1) c = true := by simpa using h1
  refine ⟨⟨_, rfl, hL, hty, by omega⟩, ?_⟩
  rintro τ3 ⟨k1, k2, k3⟩
  refine ⟨Or.inr rfl, ?_⟩
  have et : tsC (kp_up τ3 15 4 c) = tsC τ3 := by unfold tsC; simp (disch := decide) only [up_c, kp_up_eq, pk_us, pk_un]
  obtain ⟨s1, s2, s3⟩ := stT_ok (o := τ1 3) (M := mC τ1) (c := tn (τ1 15 4)) (tick := τ1 15 6) 3 (tsC τ1) hty.2.1
  have hf : fr [15, 16, 17] τ1 (kp_up τ3 15 4 c) := fr_up k1.1 (by decide)
  have h0 : tn (τ3 15 7) = 0 := by
    have := s3 (show rlen (tsC τ1).1 ≤ 3 from rlen_le _)
    rw [← k3] at this
    exact this
  obtain ⟨n, hn, n1, n2, -, -⟩ := hL.1
  have hcc : nn c ∧ tn c < tn (τ1 2 1) := by
    rw [hn] at h1 ⊢
    obtain ⟨a, ha, rfl⟩ := (isCx_iff (by omega)).mp h1
    rw [tn_nI (show n < 2 ^ 31 by omega)]
    exact ⟨nn_nI (by omega), by rw [tn_nI (by omega)]; exact ha⟩
  refine ⟨InvC_ty hp hf ?_ ?_, ?_, fun _ => ⟨hf, up_s, ?_, ?_, et.trans k3, rfl⟩, fun z => absurd h1 z⟩
  · obtain ⟨t1, t2, t3, t4, t5, t6, t7, t8, t9, t10⟩ := k2
    unfold tyOK
    simp (disch := decide) only [up_c, kp_up_eq, pk_us, pk_un]
    refine ⟨t1, t2, t3, t4, hcc.1, ?_, t7, t8, t9, t10⟩
    rw [k1.1 2 (by decide)]; exact hcc.2
  · simp (disch := decide) only [up_c, kp_up_eq, pk_us, pk_un]
    rw [h0]; decide
  · rw [et, k3]; exact s2
  · simp (disch := decide) only [up_c, kp_up_eq, pk_us, pk_un]
    exact k1.2.2.1
  · simp (disch := decide) only [up_c, kp_up_eq, pk_us, pk_un]
    exact k1.2.2.2
def pr_X9_type : SPre := fun As σ => ∃ s : Int32, ∃ t : Int32, As = [.ref 0, .int s, .int t] ∧ (InvC σ ∧ szT (tsC σ) ≤ 700000)
def po_X9_type : SPost := fun As σ r τ => match As with
  | [.ref _, .int s, .int t] => (InvC τ ∧ szT (tsC τ) ≤ szT (tsC σ) + 1 ∧ (isSt s = true ∧ inR t (σ 15 6) (nI 1000000) = true → fr [15, 16, 17] σ τ ∧ τ 15 4 = σ 15 4 ∧ τ 15 5 = σ 15 5 ∧ τ 15 6 = t ∧ tsC τ = prT (σ 3) (mC σ) (tn (σ 15 4)) (tn (σ 15 5)) (tn (σ 15 6)) (tn s) (tn t) (tsC σ) ∧ r = nI (rlen (tsC τ).1)) ∧ (¬ (isSt s = true ∧ inR t (σ 15 6) (nI 1000000) = true) → τ = σ ∧ r = -1))
  | _ => True
def ms_X9_type : List Me := [(125, 1, 0, 1, true, pr_X7_isStroke, po_X7_isStroke), (128, 0, 7, 1, true, pr_X8_mayComeAt, po_X8_mayComeAt), (131, 0, 7, 3, false, pr_X8_press, po_X8_press), (138, 1, 0, 1, true, pr_X7_length, po_X7_length)]
theorem mk_X9_type : ∀ q ∈ ms_X9_type, kp_okM layC RX9 6 q := List.forall_mem_cons.mpr ⟨Or.inl ⟨0, yX7_isStroke, cX7_isStroke, 1, (some .boolean), c_X7_isStroke, by omega, by decide, rfl, lk_X9_125⟩, List.forall_mem_cons.mpr ⟨Or.inl ⟨0, yX8_mayComeAt, cX8_mayComeAt, 2, (some .boolean), c_X8_mayComeAt, by omega, by decide, rfl, lk_X9_128⟩, List.forall_mem_cons.mpr ⟨Or.inl ⟨5, yX8_press, cX8_press, 5, none, c_X8_press, by omega, by decide, rfl, lk_X9_131⟩, List.forall_mem_cons.mpr ⟨Or.inl ⟨1, yX7_length, cX7_length, 2, (some .int), c_X7_length, by omega, by decide, rfl, lk_X9_138⟩, fun _ h => absurd h List.not_mem_nil⟩⟩⟩⟩
set_option maxRecDepth 100000 in
theorem v_X9_type {J : Nat → Lcl → List Value → Sg → Prop} {Q : Int32 → Sg → Prop} (s t : Int32) (σ : Sg) (h : pr_X7_isStroke [.int s] σ ∧ ∀ (x2 : Int32) (τ1 : Sg), po_X7_isStroke [.int s] σ x2 τ1 → ((x2 = (nI 0) → Q (-1) τ1) ∧ (¬ x2 = (nI 0) → pr_X8_mayComeAt [.ref 15, .int t] τ1 ∧ ∀ (x4 : Int32) (τ3 : Sg), po_X8_mayComeAt [.ref 15, .int t] τ1 x4 τ3 → ((¬ x4 = (nI 0) → pr_X8_press [.ref 15, .ref 1, .int s, .int t] τ3 ∧ ∀ (τ5 : Sg), po_X8_press [.ref 15, .ref 1, .int s, .int t] τ3 (nI 0) τ5 → (pr_X7_length [.int (τ5 15 7)] τ5 ∧ ∀ (x7 : Int32) (τ6 : Sg), po_X7_length [.int (τ5 15 7)] τ5 x7 τ6 → (Q x7 τ6))) ∧ (x4 = (nI 0) → Q (-1) τ3))))) : kp_T layC gl_X9 pl_X9 (ms_X9_type) tb_X9_type (kp_rk (some .int)) J Q 30 tb_X9_type (kp_en [.ref 0, .int s, .int t] 3) [] σ := h
set_option maxRecDepth 100000 in
set_option maxHeartbeats 4000000 in
theorem c_X9_type : kp_Met layC 6 yX9_type cX9_type 3 (some .int) (pr_X9_type) (po_X9_type) := by
  refine kp_met (N := 30) (by decide) tk_X9_type gk_X9 pk_X9 (mk_X9_type) rfl (fun _ _ _ _ _ _ _ => False) ?_ (fun _ _ _ _ _ _ _ _ h => h.elim)
  rintro As σ ⟨s, t, rfl, hp⟩
  refine ⟨⟨rfl, Nat.le_of_ble_eq_true rfl⟩, v_X9_type s t σ ?_⟩
  obtain ⟨hp, hsz⟩ := hp
  obtain ⟨hL, hkb, hty, hrl, hco, has, hsl⟩ := id hp
  refine ⟨⟨_, rfl, trivial⟩, ?_⟩
  rintro x2 τ1 ⟨rfl, rfl⟩
  rw [bI_0]
  refine ⟨fun h1 => ⟨hp, Nat.le_succ _, fun z => (by rw [h1] at z; cases z.1), fun _ => ⟨rfl, rfl⟩⟩, fun h1 => ⟨⟨_, rfl, trivial⟩, ?_⟩⟩
  have h1 : isSt s = true := by simpa using h1
  rintro x4 τ3 ⟨rfl, rfl⟩
  rw [bI_0]
  refine ⟨fun h2 => ?_, fun h2 => ⟨hp, Nat.le_succ _, fun z => (by have q := z.2; unfold inR at q; rw [h2] at q; cases q), fun _ => ⟨rfl, rfl⟩⟩⟩
  have h2 : inR t (τ3 15 6) (nI 1000000) = true := by unfold inR; simpa using h2
  obtain ⟨u1, u2, u3⟩ := inR_nat (by omega) (by omega) (show inR s (nI 1) (nI 240) = true from h1)
  obtain ⟨t1, t2, t3, t4, t5, t6, t7, t8, t9, t10⟩ := id hty
  obtain ⟨v1, v2, v3⟩ := inR_nat (a := tn (τ3 15 6)) (b := 1000000) (tn_lt _) (by omega) (by rw [← t9]; exact h2)
  refine ⟨⟨_, _, rfl, hL, hty, by omega, hrl, tn s, tn t, u1, u2, u3, v1, v2, v3⟩, ?_⟩
  rintro τ5 ⟨k1, k2, k3, k4, k5, k6⟩
  obtain ⟨w1, w2, w3⟩ := prT_ok (o := τ3 3) (M := mC τ3) (c := tn (τ3 15 4)) (pat := tn (τ3 15 5)) (last := tn (τ3 15 6)) (s := tn s) (tick := tn t) (t := tsC τ3) t2 hrl u2 u3
  rw [← k6] at w1 w2 w3
  have hlt := lnOK_lt k5.2.1
  refine ⟨⟨_, rfl, tn (τ5 15 7), k5.1, hlt⟩, ?_⟩
  rintro x7 τ6 ⟨rfl, rfl⟩
  exact ⟨InvC_ty hp k1 k5 w3, w2, fun _ => ⟨k1, k2, k3, k4, k6, rfl⟩, fun z => absurd ⟨h1, h2⟩ z⟩
def pr_X9_settle : SPre := fun As σ => ∃ t : Int32, As = [.ref 0, .int t] ∧ (InvC σ ∧ szT (tsC σ) ≤ 700000)
def po_X9_settle : SPost := fun As σ r τ => match As with
  | [.ref _, .int t] => (InvC τ ∧ szT (tsC τ) ≤ szT (tsC σ) ∧ (inR t (σ 15 6) (nI 1000000) = true → fr [15, 16, 17] σ τ ∧ τ 15 4 = σ 15 4 ∧ τ 15 5 = σ 15 5 ∧ τ 15 6 = σ 15 6 ∧ tsC τ = stT (σ 3) (mC σ) (tn (σ 15 4)) t 3 (tsC σ) ∧ r = τ 15 2 - σ 15 2) ∧ (¬ inR t (σ 15 6) (nI 1000000) = true → τ = σ ∧ r = -1))
  | _ => True
def ms_X9_settle : List Me := [(128, 0, 7, 1, true, pr_X8_mayComeAt, po_X8_mayComeAt), (119, 0, 7, 2, false, pr_X8_settleAll, po_X8_settleAll)]
theorem mk_X9_settle : ∀ q ∈ ms_X9_settle, kp_okM layC RX9 5 q := List.forall_mem_cons.mpr ⟨Or.inl ⟨0, yX8_mayComeAt, cX8_mayComeAt, 2, (some .boolean), c_X8_mayComeAt, by omega, by decide, rfl, lk_X9_128⟩, List.forall_mem_cons.mpr ⟨Or.inl ⟨4, yX8_settleAll, cX8_settleAll, 4, none, c_X8_settleAll, by omega, by decide, rfl, lk_X9_119⟩, fun _ h => absurd h List.not_mem_nil⟩⟩
set_option maxRecDepth 100000 in
theorem v_X9_settle {J : Nat → Lcl → List Value → Sg → Prop} {Q : Int32 → Sg → Prop} (t : Int32) (σ : Sg) (h : pr_X8_mayComeAt [.ref 15, .int t] σ ∧ ∀ (x2 : Int32) (τ1 : Sg), po_X8_mayComeAt [.ref 15, .int t] σ x2 τ1 → ((¬ x2 = (nI 0) → pr_X8_settleAll [.ref 15, .ref 1, .int t] τ1 ∧ ∀ (τ3 : Sg), po_X8_settleAll [.ref 15, .ref 1, .int t] τ1 (nI 0) τ3 → (Q ((τ3 15 2) - (τ1 15 2)) τ3)) ∧ (x2 = (nI 0) → Q (-1) τ1))) : kp_T layC gl_X9 pl_X9 (ms_X9_settle) tb_X9_settle (kp_rk (some .int)) J Q 30 tb_X9_settle (kp_en [.ref 0, .int t] 3) [] σ := h
set_option maxRecDepth 100000 in
set_option maxHeartbeats 4000000 in
theorem c_X9_settle : kp_Met layC 5 yX9_settle cX9_settle 3 (some .int) (pr_X9_settle) (po_X9_settle) := by
  refine kp_met (N := 30) (by decide) tk_X9_settle gk_X9 pk_X9 (mk_X9_settle) rfl (fun _ _ _ _ _ _ _ => False) ?_ (fun _ _ _ _ _ _ _ _ h => h.elim)
  rintro As σ ⟨t, rfl, hp⟩
  refine ⟨⟨rfl, Nat.le_of_ble_eq_true rfl⟩, v_X9_settle t σ ?_⟩
  obtain ⟨hp, hsz⟩ := hp
  obtain ⟨hL, hkb, hty, hrl, hco, has, hsl⟩ := id hp
  refine ⟨⟨_, rfl, trivial⟩, ?_⟩
  rintro x2 τ1 ⟨rfl, rfl⟩
  rw [bI_0]
  refine ⟨fun h2 => ?_, fun h2 => ⟨hp, Nat.le_refl _, fun z => (by unfold inR at z; rw [h2] at z; cases z), fun _ => ⟨rfl, rfl⟩⟩⟩
  have h2 : inR t (τ1 15 6) (nI 1000000) = true := by unfold inR; simpa using h2
  refine ⟨⟨_, rfl, hL, hty, by omega⟩, ?_⟩
  rintro τ3 ⟨k1, k2, k3⟩
  obtain ⟨s1, s2, s3⟩ := stT_ok (o := τ1 3) (M := mC τ1) (c := tn (τ1 15 4)) (tick := t) 3 (tsC τ1) hty.2.1
  have h0 := s3 (show rlen (tsC τ1).1 ≤ 3 from rlen_le _)
  rw [← k3] at s2 h0
  have h0 : tn (τ3 15 7) = 0 := h0
  exact ⟨InvC_ty hp k1.1 k2 (by rw [h0]; decide), s2, fun _ => ⟨k1.1, k1.2.1, k1.2.2.1, k1.2.2.2, k3, rfl⟩, fun z => absurd h2 z⟩
def pr_X9_stretch : SPre := fun As σ => ∃ s : Int32, ∃ p : Int32, As = [.ref 0, .int s, .int p] ∧ (InvC σ)
def po_X9_stretch : SPost := fun As σ r τ => match As with
  | [.ref _, .int s, .int p] => (InvC τ ∧ (isSt s = true ∧ inR p (nI 0) (nI 100) = true → τ = kp_up (kp_up σ 19 (tn s) p) 23 5 (nI 0) ∧ r = nI 1) ∧ (¬ (isSt s = true ∧ inR p (nI 0) (nI 100) = true) → τ = σ ∧ r = nI 0))
  | _ => True
def ms_X9_stretch : List Me := [(125, 1, 0, 1, true, pr_X7_isStroke, po_X7_isStroke), (162, 0, 0, 0, false, pr_X0_forget, po_X0_forget)]
theorem mk_X9_stretch : ∀ q ∈ ms_X9_stretch, kp_okM layC RX9 1 q := List.forall_mem_cons.mpr ⟨Or.inl ⟨0, yX7_isStroke, cX7_isStroke, 1, (some .boolean), c_X7_isStroke, by omega, by decide, rfl, lk_X9_125⟩, List.forall_mem_cons.mpr ⟨Or.inl ⟨0, yX0_forget, cX0_forget, 1, none, c_X0_forget, by omega, by decide, rfl, lk_X9_162⟩, fun _ h => absurd h List.not_mem_nil⟩⟩
set_option maxRecDepth 100000 in
theorem v_X9_stretch {J : Nat → Lcl → List Value → Sg → Prop} {Q : Int32 → Sg → Prop} (s p : Int32) (σ : Sg) (h : pr_X7_isStroke [.int s] σ ∧ ∀ (x2 : Int32) (τ1 : Sg), po_X7_isStroke [.int s] σ x2 τ1 → ((x2 = (nI 0) → ((nI 0) = nI 0 ∨ (nI 0) = nI 1) ∧ Q (nI 0) τ1) ∧ (¬ x2 = (nI 0) → (p < (nI 0) → ((nI 0) = nI 0 ∨ (nI 0) = nI 1) ∧ Q (nI 0) τ1) ∧ (¬ p < (nI 0) → (¬ (nI 100) < p → vp_in s 241 ∧ (pr_X0_forget [.ref 23] (kp_up τ1 19 (s).toNatClampNeg p) ∧ ∀ (τ3 : Sg), po_X0_forget [.ref 23] (kp_up τ1 19 (s).toNatClampNeg p) (nI 0) τ3 → (((nI 1) = nI 0 ∨ (nI 1) = nI 1) ∧ Q (nI 1) τ3))) ∧ ((nI 100) < p → ((nI 0) = nI 0 ∨ (nI 0) = nI 1) ∧ Q (nI 0) τ1))))) : kp_T layC gl_X9 pl_X9 (ms_X9_stretch) tb_X9_stretch (kp_rk (some .boolean)) J Q 30 tb_X9_stretch (kp_en [.ref 0, .int s, .int p] 3) [] σ := h
set_option maxRecDepth 100000 in
set_option maxHeartbeats 4000000 in
theorem c_X9_stretch : kp_Met layC 1 yX9_stretch cX9_stretch 3 (some .boolean) (pr_X9_stretch) (po_X9_stretch) := by
  refine kp_met (N := 30) (by decide) tk_X9_stretch gk_X9 pk_X9 (mk_X9_stretch) rfl (fun _ _ _ _ _ _ _ => False) ?_ (fun _ _ _ _ _ _ _ _ h => h.elim)
  rintro As σ ⟨s, p, rfl, hp⟩
  refine ⟨⟨rfl, Nat.le_of_ble_eq_true rfl⟩, v_X9_stretch s p σ ?_⟩
  obtain ⟨hL, hkb, hty, hrl, hco, has, hsl⟩ := id hp
  refine ⟨⟨_, rfl, trivial⟩, ?_⟩
  rintro x2 τ1 ⟨rfl, rfl⟩
  rw [bI_0]
  refine ⟨fun h1 => ⟨Or.inl rfl, hp, fun z => (by rw [h1] at z; cases z.1), fun _ => ⟨rfl, rfl⟩⟩, fun h1 => ⟨fun h2 => ⟨Or.inl rfl, hp, fun z => absurd h2 (inR_iff.mp z.2).1, fun _ => ⟨rfl, rfl⟩⟩, fun h2 => ⟨fun h3 => ?_, fun h3 => ⟨Or.inl rfl, hp, fun z => absurd h3 (inR_iff.mp z.2).2, fun _ => ⟨rfl, rfl⟩⟩⟩⟩⟩
  have h1 : isSt s = true := by simpa using h1
  have hq := inR_iff.mpr ⟨h2, h3⟩
  obtain ⟨u1, u2, u3⟩ := inR_nat (by omega) (by omega) (show inR s (nI 1) (nI 240) = true from h1)
  obtain ⟨v1, v2, v3⟩ := inR_nat (by omega) (by omega) hq
  refine ⟨by rw [u1]; exact (kp_in (tn_lt _)).mpr (by omega), ⟨rfl, trivial⟩, ?_⟩
  rintro τ3 rfl
  refine ⟨Or.inr rfl, InvC_cs hp (fr_up (fr_up fr_rf (by decide)) (by decide)) ?_ ?_ up_s, fun _ => ⟨rfl, rfl⟩, fun z => absurd ⟨h1, hq⟩ z⟩
  · unfold cstC cstOK
    simp (disch := decide) only [up_c, kp_up_eq, pk_us, pk_un]
    refine ⟨fun x hx hx2 => ?_, hco.2⟩
    by_cases e : x = tn s
    · rw [e]
      have : upd (τ1 19) s.toNatClampNeg p (tn s) = p := pk_us
      rw [this]; exact ⟨v1, v3⟩
    · have : upd (τ1 19) s.toNatClampNeg p x = τ1 19 x := pk_un e
      rw [this]; exact hco.1 x hx hx2
  · unfold asOK nwC noC at *
    simp (disch := decide) only [up_c, kp_up_eq, pk_us, pk_un]
    exact has
def pr_X9_uses : SPre := fun As σ => ∃ c : Int32, ∃ n : Int32, As = [.ref 0, .int c, .int n] ∧ (InvC σ)
def po_X9_uses : SPost := fun As σ r τ => match As with
  | [.ref _, .int c, .int n] => (InvC τ ∧ (isCx (nI 40) c = true ∧ inR n (nI 0) (nI 1000) = true → τ = kp_up (kp_up σ 20 (tn c) n) 23 5 (nI 0) ∧ r = nI 1) ∧ (¬ (isCx (nI 40) c = true ∧ inR n (nI 0) (nI 1000) = true) → τ = σ ∧ r = nI 0))
  | _ => True
def ms_X9_uses : List Me := [(165, 1, 8, 1, true, pr_X9_isCommand, po_X9_isCommand), (162, 0, 0, 0, false, pr_X0_forget, po_X0_forget)]
theorem mk_X9_uses : ∀ q ∈ ms_X9_uses, kp_okM layC RX9 1 q := List.forall_mem_cons.mpr ⟨Or.inl ⟨0, yX9_isCommand, cX9_isCommand, 1, (some .boolean), c_X9_isCommand, by omega, by decide, rfl, lk_X9_165⟩, List.forall_mem_cons.mpr ⟨Or.inl ⟨0, yX0_forget, cX0_forget, 1, none, c_X0_forget, by omega, by decide, rfl, lk_X9_162⟩, fun _ h => absurd h List.not_mem_nil⟩⟩
set_option maxRecDepth 100000 in
theorem v_X9_uses {J : Nat → Lcl → List Value → Sg → Prop} {Q : Int32 → Sg → Prop} (c n : Int32) (σ : Sg) (h : pr_X9_isCommand [.int c] σ ∧ ∀ (x2 : Int32) (τ1 : Sg), po_X9_isCommand [.int c] σ x2 τ1 → ((x2 = (nI 0) → ((nI 0) = nI 0 ∨ (nI 0) = nI 1) ∧ Q (nI 0) τ1) ∧ (¬ x2 = (nI 0) → (n < (nI 0) → ((nI 0) = nI 0 ∨ (nI 0) = nI 1) ∧ Q (nI 0) τ1) ∧ (¬ n < (nI 0) → (¬ (nI 1000) < n → vp_in c 40 ∧ (pr_X0_forget [.ref 23] (kp_up τ1 20 (c).toNatClampNeg n) ∧ ∀ (τ3 : Sg), po_X0_forget [.ref 23] (kp_up τ1 20 (c).toNatClampNeg n) (nI 0) τ3 → (((nI 1) = nI 0 ∨ (nI 1) = nI 1) ∧ Q (nI 1) τ3))) ∧ ((nI 1000) < n → ((nI 0) = nI 0 ∨ (nI 0) = nI 1) ∧ Q (nI 0) τ1))))) : kp_T layC gl_X9 pl_X9 (ms_X9_uses) tb_X9_uses (kp_rk (some .boolean)) J Q 30 tb_X9_uses (kp_en [.ref 0, .int c, .int n] 3) [] σ := h
set_option maxRecDepth 100000 in
set_option maxHeartbeats 4000000 in
theorem c_X9_uses : kp_Met layC 1 yX9_uses cX9_uses 3 (some .boolean) (pr_X9_uses) (po_X9_uses) := by
  refine kp_met (N := 30) (by decide) tk_X9_uses gk_X9 pk_X9 (mk_X9_uses) rfl (fun _ _ _ _ _ _ _ => False) ?_ (fun _ _ _ _ _ _ _ _ h => h.elim)
  rintro As σ ⟨c, n, rfl, hp⟩
  refine ⟨⟨rfl, Nat.le_of_ble_eq_true rfl⟩, v_X9_uses c n σ ?_⟩
  obtain ⟨hL, hkb, hty, hrl, hco, has, hsl⟩ := id hp
  refine ⟨⟨_, rfl, trivial⟩, ?_⟩
  rintro x2 τ1 ⟨rfl, rfl⟩
  rw [bI_0]
  refine ⟨fun h1 => ⟨Or.inl rfl, hp, fun z => (by rw [h1] at z; cases z.1), fun _ => ⟨rfl, rfl⟩⟩, fun h1 => ⟨fun h2 => ⟨Or.inl rfl, hp, fun z => absurd h2 (inR_iff.mp z.2).1, fun _ => ⟨rfl, rfl⟩⟩, fun h2 => ⟨fun h3 => ?_, fun h3 => ⟨Or.inl rfl, hp, fun z => absurd h3 (inR_iff.mp z.2).2, fun _ => ⟨rfl, rfl⟩⟩⟩⟩⟩
  have h1 : isCx (nI 40) c = true := by simpa using h1
  have hq := inR_iff.mpr ⟨h2, h3⟩
  obtain ⟨v1, v2, v3⟩ := inR_nat (by omega) (by omega) hq
  obtain ⟨a, ha, rfl⟩ := (isCx_iff (by omega)).mp h1
  refine ⟨(kp_in (by omega)).mpr ha, ⟨rfl, trivial⟩, ?_⟩
  rintro τ3 rfl
  refine ⟨Or.inr rfl, InvC_cs hp (fr_up (fr_up fr_rf (by decide)) (by decide)) ?_ ?_ up_s, fun _ => ⟨rfl, rfl⟩, fun z => absurd ⟨h1, hq⟩ z⟩
  · unfold cstC cstOK
    simp (disch := decide) only [up_c, kp_up_eq, pk_us, pk_un]
    refine ⟨hco.1, fun x hx => ?_⟩
    by_cases e : x = tn (nI a)
    · rw [e]
      have : upd (τ1 20) (nI a).toNatClampNeg n (tn (nI a)) = n := pk_us
      rw [this]; exact ⟨⟨v1, v3⟩, (hco.2 _ (by rw [← e]; exact hx)).2⟩
    · have : upd (τ1 20) (nI a).toNatClampNeg n x = τ1 20 x := pk_un e
      rw [this]; exact hco.2 x hx
  · unfold asOK nwC noC at *
    simp (disch := decide) only [up_c, kp_up_eq, pk_us, pk_un]
    exact has
theorem inR_0 (s : Int32) : (s = nI 0 ∨ isSt s = true) ↔ inR s (nI 0) (nI 240) = true := by
  rw [isSt_inR, inR_iff, inR_iff]
  rw [lt_I, lt_I, lt_I, eq_I, nI_toInt (by omega), nI_toInt (by omega), nI_toInt (by omega)]
  omega
def pr_X9_habit : SPre := fun As σ => ∃ c : Int32, ∃ s : Int32, ∃ w : Int32, As = [.ref 0, .int c, .int s, .int w] ∧ (InvC σ)
def po_X9_habit : SPost := fun As σ r τ => match As with
  | [.ref _, .int c, .int s, .int w] => (InvC τ ∧ (isCx (nI 40) c = true ∧ inR s (nI 0) (nI 240) = true ∧ inR w (nI 0) (nI 10000) = true → τ = kp_up (kp_up (kp_up σ 21 (tn c) s) 22 (tn c) w) 23 5 (nI 0) ∧ r = nI 1) ∧ (¬ (isCx (nI 40) c = true ∧ inR s (nI 0) (nI 240) = true ∧ inR w (nI 0) (nI 10000) = true) → τ = σ ∧ r = nI 0))
  | _ => True
def ms_X9_habit : List Me := [(125, 1, 0, 1, true, pr_X7_isStroke, po_X7_isStroke), (165, 1, 8, 1, true, pr_X9_isCommand, po_X9_isCommand), (162, 0, 0, 0, false, pr_X0_forget, po_X0_forget)]
theorem mk_X9_habit : ∀ q ∈ ms_X9_habit, kp_okM layC RX9 1 q := List.forall_mem_cons.mpr ⟨Or.inl ⟨0, yX7_isStroke, cX7_isStroke, 1, (some .boolean), c_X7_isStroke, by omega, by decide, rfl, lk_X9_125⟩, List.forall_mem_cons.mpr ⟨Or.inl ⟨0, yX9_isCommand, cX9_isCommand, 1, (some .boolean), c_X9_isCommand, by omega, by decide, rfl, lk_X9_165⟩, List.forall_mem_cons.mpr ⟨Or.inl ⟨0, yX0_forget, cX0_forget, 1, none, c_X0_forget, by omega, by decide, rfl, lk_X9_162⟩, fun _ h => absurd h List.not_mem_nil⟩⟩⟩
set_option maxRecDepth 100000 in
theorem v_X9_habit {J : Nat → Lcl → List Value → Sg → Prop} {Q : Int32 → Sg → Prop} (c s w : Int32) (σ : Sg) (h : (s = (nI 0) → pr_X9_isCommand [.int c] σ ∧ ∀ (x2 : Int32) (τ1 : Sg), po_X9_isCommand [.int c] σ x2 τ1 → ((x2 = (nI 0) → ((nI 0) = nI 0 ∨ (nI 0) = nI 1) ∧ Q (nI 0) τ1) ∧ (¬ x2 = (nI 0) → ((nI 1) = (nI 0) → ((nI 0) = nI 0 ∨ (nI 0) = nI 1) ∧ Q (nI 0) τ1) ∧ (¬ (nI 1) = (nI 0) → (w < (nI 0) → ((nI 0) = nI 0 ∨ (nI 0) = nI 1) ∧ Q (nI 0) τ1) ∧ (¬ w < (nI 0) → (¬ (nI 10000) < w → vp_in c 40 ∧ (vp_in c 40 ∧ (pr_X0_forget [.ref 23] (kp_up (kp_up τ1 21 (c).toNatClampNeg s) 22 (c).toNatClampNeg w) ∧ ∀ (τ3 : Sg), po_X0_forget [.ref 23] (kp_up (kp_up τ1 21 (c).toNatClampNeg s) 22 (c).toNatClampNeg w) (nI 0) τ3 → (((nI 1) = nI 0 ∨ (nI 1) = nI 1) ∧ Q (nI 1) τ3)))) ∧ ((nI 10000) < w → ((nI 0) = nI 0 ∨ (nI 0) = nI 1) ∧ Q (nI 0) τ1)))))) ∧ (¬ s = (nI 0) → pr_X7_isStroke [.int s] σ ∧ ∀ (x5 : Int32) (τ4 : Sg), po_X7_isStroke [.int s] σ x5 τ4 → ((x5 = (nI 0) → pr_X9_isCommand [.int c] τ4 ∧ ∀ (x7 : Int32) (τ6 : Sg), po_X9_isCommand [.int c] τ4 x7 τ6 → ((x7 = (nI 0) → ((nI 0) = nI 0 ∨ (nI 0) = nI 1) ∧ Q (nI 0) τ6) ∧ (¬ x7 = (nI 0) → ((nI 0) = (nI 0) → ((nI 0) = nI 0 ∨ (nI 0) = nI 1) ∧ Q (nI 0) τ6) ∧ (¬ (nI 0) = (nI 0) → (w < (nI 0) → ((nI 0) = nI 0 ∨ (nI 0) = nI 1) ∧ Q (nI 0) τ6) ∧ (¬ w < (nI 0) → (¬ (nI 10000) < w → vp_in c 40 ∧ (vp_in c 40 ∧ (pr_X0_forget [.ref 23] (kp_up (kp_up τ6 21 (c).toNatClampNeg s) 22 (c).toNatClampNeg w) ∧ ∀ (τ8 : Sg), po_X0_forget [.ref 23] (kp_up (kp_up τ6 21 (c).toNatClampNeg s) 22 (c).toNatClampNeg w) (nI 0) τ8 → (((nI 1) = nI 0 ∨ (nI 1) = nI 1) ∧ Q (nI 1) τ8)))) ∧ ((nI 10000) < w → ((nI 0) = nI 0 ∨ (nI 0) = nI 1) ∧ Q (nI 0) τ6)))))) ∧ (¬ x5 = (nI 0) → pr_X9_isCommand [.int c] τ4 ∧ ∀ (x10 : Int32) (τ9 : Sg), po_X9_isCommand [.int c] τ4 x10 τ9 → ((x10 = (nI 0) → ((nI 0) = nI 0 ∨ (nI 0) = nI 1) ∧ Q (nI 0) τ9) ∧ (¬ x10 = (nI 0) → ((nI 1) = (nI 0) → ((nI 0) = nI 0 ∨ (nI 0) = nI 1) ∧ Q (nI 0) τ9) ∧ (¬ (nI 1) = (nI 0) → (w < (nI 0) → ((nI 0) = nI 0 ∨ (nI 0) = nI 1) ∧ Q (nI 0) τ9) ∧ (¬ w < (nI 0) → (¬ (nI 10000) < w → vp_in c 40 ∧ (vp_in c 40 ∧ (pr_X0_forget [.ref 23] (kp_up (kp_up τ9 21 (c).toNatClampNeg s) 22 (c).toNatClampNeg w) ∧ ∀ (τ11 : Sg), po_X0_forget [.ref 23] (kp_up (kp_up τ9 21 (c).toNatClampNeg s) 22 (c).toNatClampNeg w) (nI 0) τ11 → (((nI 1) = nI 0 ∨ (nI 1) = nI 1) ∧ Q (nI 1) τ11)))) ∧ ((nI 10000) < w → ((nI 0) = nI 0 ∨ (nI 0) = nI 1) ∧ Q (nI 0) τ9))))))))) : kp_T layC gl_X9 pl_X9 (ms_X9_habit) tb_X9_habit (kp_rk (some .boolean)) J Q 43 tb_X9_habit (kp_en [.ref 0, .int c, .int s, .int w] 5) [] σ := h
set_option maxRecDepth 100000 in
set_option maxHeartbeats 4000000 in
theorem c_X9_habit : kp_Met layC 1 yX9_habit cX9_habit 5 (some .boolean) (pr_X9_habit) (po_X9_habit) := by
  refine kp_met (N := 43) (by decide) tk_X9_habit gk_X9 pk_X9 (mk_X9_habit) rfl (fun _ _ _ _ _ _ _ => False) ?_ (fun _ _ _ _ _ _ _ _ h => h.elim)
  rintro As σ ⟨c, s, w, rfl, hp⟩
  refine ⟨⟨rfl, Nat.le_of_ble_eq_true rfl⟩, v_X9_habit c s w σ ?_⟩
  obtain ⟨hL, hkb, hty, hrl, hco, has, hsl⟩ := id hp
  have h01 : (nI 0 : Int32) ≠ nI 1 := by decide
  have h10 : (nI 1 : Int32) ≠ nI 0 := by decide
  have main : inR s (nI 0) (nI 240) = true → (pr_X9_isCommand [.int c] σ ∧ ∀ (x2 : Int32) (τ1 : Sg), po_X9_isCommand [.int c] σ x2 τ1 →
      (x2 = nI 0 → (nI 0 = nI 0 ∨ nI 0 = nI 1) ∧ po_X9_habit [.ref 0, .int c, .int s, .int w] σ (nI 0) τ1) ∧ (¬ x2 = nI 0 → ((nI 1 : Int32) = nI 0 → (nI 0 = nI 0 ∨ nI 0 = nI 1) ∧ po_X9_habit [.ref 0, .int c, .int s, .int w] σ (nI 0) τ1) ∧ (¬ (nI 1 : Int32) = nI 0 → (w < nI 0 → (nI 0 = nI 0 ∨ nI 0 = nI 1) ∧ po_X9_habit [.ref 0, .int c, .int s, .int w] σ (nI 0) τ1) ∧ (¬ w < nI 0 → (¬ nI 10000 < w → vp_in c 40 ∧ vp_in c 40 ∧ pr_X0_forget [.ref 23] (kp_up (kp_up τ1 21 c.toNatClampNeg s) 22 c.toNatClampNeg w) ∧ ∀ (τ3 : Sg), po_X0_forget [.ref 23] (kp_up (kp_up τ1 21 c.toNatClampNeg s) 22 c.toNatClampNeg w) (nI 0) τ3 → ((nI 1 = nI 0 ∨ nI 1 = nI 1) ∧ po_X9_habit [.ref 0, .int c, .int s, .int w] σ (nI 1) τ3)) ∧ (nI 10000 < w → (nI 0 = nI 0 ∨ nI 0 = nI 1) ∧ po_X9_habit [.ref 0, .int c, .int s, .int w] σ (nI 0) τ1))))) := by
    intro hs
    refine ⟨⟨_, rfl, trivial⟩, ?_⟩
    rintro x2 τ1 ⟨rfl, rfl⟩
    rw [bI_0]
    refine ⟨fun h1 => ⟨Or.inl rfl, hp, fun z => (by rw [h1] at z; cases z.1), fun _ => ⟨rfl, rfl⟩⟩, fun h1 => ⟨fun z => absurd z h10, fun _ => ⟨fun h2 => ⟨Or.inl rfl, hp, fun z => absurd h2 (inR_iff.mp z.2.2).1, fun _ => ⟨rfl, rfl⟩⟩, fun h2 => ⟨fun h3 => ?_, fun h3 => ⟨Or.inl rfl, hp, fun z => absurd h3 (inR_iff.mp z.2.2).2, fun _ => ⟨rfl, rfl⟩⟩⟩⟩⟩⟩
    have h1 : isCx (nI 40) c = true := by simpa using h1
    have hq := inR_iff.mpr ⟨h2, h3⟩
    obtain ⟨v1, v2, v3⟩ := inR_nat (by omega) (by omega) hq
    obtain ⟨s1, s2, s3⟩ := inR_nat (by omega) (by omega) hs
    obtain ⟨a, ha, rfl⟩ := (isCx_iff (by omega)).mp h1
    refine ⟨(kp_in (by omega)).mpr ha, (kp_in (by omega)).mpr ha, ⟨rfl, trivial⟩, ?_⟩
    rintro τ3 rfl
    refine ⟨Or.inr rfl, InvC_cs hp (fr_up (fr_up (fr_up fr_rf (by decide)) (by decide)) (by decide)) ?_ ?_ up_s, fun _ => ⟨rfl, rfl⟩, fun z => absurd ⟨h1, hs, hq⟩ z⟩
    · unfold cstC cstOK
      simp (disch := decide) only [up_c, kp_up_eq, pk_us, pk_un]
      refine ⟨hco.1, fun x hx => ?_⟩
      by_cases e : x = tn (nI a)
      · rw [e]
        have e1 : upd (τ1 21) (nI a).toNatClampNeg s (tn (nI a)) = s := pk_us
        have e2 : upd (τ1 22) (nI a).toNatClampNeg w (tn (nI a)) = w := pk_us
        rw [e1, e2]; exact ⟨(hco.2 _ (by rw [← e]; exact hx)).1, ⟨s1, s3⟩, v1, v3⟩
      · have e1 : upd (τ1 21) (nI a).toNatClampNeg s x = τ1 21 x := pk_un e
        have e2 : upd (τ1 22) (nI a).toNatClampNeg w x = τ1 22 x := pk_un e
        rw [e1, e2]; exact hco.2 x hx
    · unfold asOK nwC noC at *
      simp (disch := decide) only [up_c, kp_up_eq, pk_us, pk_un]
      exact has
  refine ⟨fun h => main ((inR_0 s).mp (Or.inl h)), fun h => ⟨⟨_, rfl, trivial⟩, ?_⟩⟩
  rintro x5 τ4 ⟨rfl, rfl⟩
  rw [bI_0]
  refine ⟨fun h1 => ⟨⟨_, rfl, trivial⟩, ?_⟩, fun h1 => main ((inR_0 s).mp (Or.inr (by simpa using h1)))⟩
  rintro x7 τ6 ⟨rfl, rfl⟩
  have hno : ¬ inR s (nI 0) (nI 240) = true := fun z => by
    rcases (inR_0 s).mpr z with q | q
    · exact h q
    · rw [h1] at q; cases q
  exact ⟨fun h2 => ⟨Or.inl rfl, hp, fun z => absurd z.2.1 hno, fun _ => ⟨rfl, rfl⟩⟩, fun h2 => ⟨fun _ => ⟨Or.inl rfl, hp, fun z => absurd z.2.1 hno, fun _ => ⟨rfl, rfl⟩⟩, fun z => absurd rfl z⟩⟩
def pr_X9_want : SPre := fun As σ => ∃ c : Int32, ∃ x : Int32, As = [.ref 0, .int c, .int x] ∧ (InvC σ)
def po_X9_want : SPost := fun As σ r τ => match As with
  | [.ref _, .int c, .int x] => (InvC τ ∧ (isCx (nI 40) c = true ∧ isCx (σ 2 1) x = true ∧ nwC σ < 6 ∧ (∀ j, j < nwC σ → σ 24 j ≠ c) → τ = kp_up (kp_up (kp_up (kp_up σ 24 (nwC σ) c) 25 (nwC σ) x) 23 2 (nI (nwC σ + 1))) 23 5 (nI 0) ∧ r = nI (nwC σ + 1)) ∧ (¬ (isCx (nI 40) c = true ∧ isCx (σ 2 1) x = true ∧ nwC σ < 6 ∧ (∀ j, j < nwC σ → σ 24 j ≠ c)) → τ = σ ∧ r = -1))
  | _ => True
def ms_X9_want : List Me := [(165, 1, 8, 1, true, pr_X9_isCommand, po_X9_isCommand), (72, 0, 2, 1, true, pr_X2_hold, po_X2_hold), (177, 0, 0, 2, true, pr_X0_addWanted, po_X0_addWanted)]
theorem mk_X9_want : ∀ q ∈ ms_X9_want, kp_okM layC RX9 2 q := List.forall_mem_cons.mpr ⟨Or.inl ⟨0, yX9_isCommand, cX9_isCommand, 1, (some .boolean), c_X9_isCommand, by omega, by decide, rfl, lk_X9_165⟩, List.forall_mem_cons.mpr ⟨Or.inl ⟨0, yX2_hold, cX2_hold, 2, (some .boolean), c_X2_hold, by omega, by decide, rfl, lk_X9_72⟩, List.forall_mem_cons.mpr ⟨Or.inl ⟨1, yX0_addWanted, cX0_addWanted, 3, (some .int), c_X0_addWanted, by omega, by decide, rfl, lk_X9_177⟩, fun _ h => absurd h List.not_mem_nil⟩⟩⟩
set_option maxRecDepth 100000 in
theorem v_X9_want {J : Nat → Lcl → List Value → Sg → Prop} {Q : Int32 → Sg → Prop} (c x : Int32) (σ : Sg) (h : pr_X9_isCommand [.int c] σ ∧ ∀ (x2 : Int32) (τ1 : Sg), po_X9_isCommand [.int c] σ x2 τ1 → ((x2 = (nI 0) → Q (-1) τ1) ∧ (¬ x2 = (nI 0) → pr_X2_hold [.ref 2, .int x] τ1 ∧ ∀ (x4 : Int32) (τ3 : Sg), po_X2_hold [.ref 2, .int x] τ1 x4 τ3 → ((¬ x4 = (nI 0) → pr_X0_addWanted [.ref 23, .int c, .int x] τ3 ∧ ∀ (x6 : Int32) (τ5 : Sg), po_X0_addWanted [.ref 23, .int c, .int x] τ3 x6 τ5 → (Q x6 τ5)) ∧ (x4 = (nI 0) → Q (-1) τ3))))) : kp_T layC gl_X9 pl_X9 (ms_X9_want) tb_X9_want (kp_rk (some .int)) J Q 30 tb_X9_want (kp_en [.ref 0, .int c, .int x] 3) [] σ := h
set_option maxRecDepth 100000 in
set_option maxHeartbeats 4000000 in
theorem c_X9_want : kp_Met layC 2 yX9_want cX9_want 3 (some .int) (pr_X9_want) (po_X9_want) := by
  refine kp_met (N := 30) (by decide) tk_X9_want gk_X9 pk_X9 (mk_X9_want) rfl (fun _ _ _ _ _ _ _ => False) ?_ (fun _ _ _ _ _ _ _ _ h => h.elim)
  rintro As σ ⟨c, x, rfl, hp⟩
  refine ⟨⟨rfl, Nat.le_of_ble_eq_true rfl⟩, v_X9_want c x σ ?_⟩
  obtain ⟨hL, hkb, hty, hrl, hco, has, hsl⟩ := id hp
  refine ⟨⟨_, rfl, trivial⟩, ?_⟩
  rintro x2 τ1 ⟨rfl, rfl⟩
  rw [bI_0]
  refine ⟨fun h1 => ⟨hp, fun z => (by have q := z.1; rw [h1] at q; cases q), fun _ => ⟨rfl, rfl⟩⟩, fun h1 => ⟨⟨_, rfl, trivial⟩, ?_⟩⟩
  have h1 : isCx (nI 40) c = true := by simpa using h1
  rintro x4 τ3 ⟨rfl, rfl⟩
  rw [bI_0]
  refine ⟨fun h2 => ?_, fun h2 => ⟨hp, fun z => (by have q := z.2.1; rw [h2] at q; cases q), fun _ => ⟨rfl, rfl⟩⟩⟩
  have h2 : isCx (τ3 2 1) x = true := by simpa using h2
  refine ⟨⟨_, _, rfl, has.1, has.2.1⟩, ?_⟩
  rintro x6 τ5 ⟨k1, k2⟩
  by_cases hc : nwC τ3 < 6 ∧ (∀ j, j < nwC τ3 → τ3 24 j ≠ c)
  · obtain ⟨rfl, rfl⟩ := k1 hc
    refine ⟨InvC_cs hp (fr_up (fr_up (fr_up (fr_up fr_rf (by decide)) (by decide)) (by decide)) (by decide)) ?_ ?_ up_s, fun _ => ⟨rfl, rfl⟩, fun z => absurd ⟨h1, h2, hc⟩ z⟩
    · unfold cstC
      simp (disch := decide) only [up_c, kp_up_eq, pk_us, pk_un]
      exact hco
    · obtain ⟨n, hn, n1, n2, -, -⟩ := hL.1
      have hcc : nn x ∧ tn x < tn (τ3 2 1) := by
        rw [hn] at h2 ⊢
        obtain ⟨a, ha, rfl⟩ := (isCx_iff (by omega)).mp h2
        rw [tn_nI (show n < 2 ^ 31 by omega)]
        exact ⟨nn_nI (by omega), by rw [tn_nI (by omega)]; exact ha⟩
      have hcd : nn c ∧ tn c < 40 := by
        obtain ⟨a, ha, rfl⟩ := (isCx_iff (by omega)).mp h1
        exact ⟨nn_nI (by omega), by rw [tn_nI (by omega)]; exact ha⟩
      obtain ⟨s1, s2, s3, s4, s5, s6⟩ := has
      have en : nwC τ3 = tn (τ3 23 2) := rfl
      unfold asOK nwC noC
      simp (disch := decide) only [up_c, kp_up_eq, pk_us, pk_un]
      rw [tn_nI (by omega)]
      refine ⟨nn_nI (by omega), by omega, s3, s4, fun i hi => ?_, s6⟩
      by_cases e : i = tn (τ3 23 2)
      · rw [e, pk_us, pk_us]; exact ⟨hcd.1, hcd.2, hcc.1, hcc.2⟩
      · rw [pk_un e, pk_un e]; exact s5 i (by omega)
  · obtain ⟨rfl, rfl⟩ := k2 hc
    exact ⟨hp, fun z => absurd z.2.2 hc, fun _ => ⟨rfl, rfl⟩⟩
def pr_X9_offer : SPre := fun As σ => ∃ s : Int32, As = [.ref 0, .int s] ∧ (InvC σ)
def po_X9_offer : SPost := fun As σ r τ => match As with
  | [.ref _, .int s] => (InvC τ ∧ (isSt s = true ∧ noC σ < 8 ∧ (∀ j, j < noC σ → σ 26 j ≠ s) → τ = kp_up (kp_up (kp_up σ 26 (noC σ) s) 23 4 (nI (noC σ + 1))) 23 5 (nI 0) ∧ r = nI (noC σ + 1)) ∧ (¬ (isSt s = true ∧ noC σ < 8 ∧ (∀ j, j < noC σ → σ 26 j ≠ s)) → τ = σ ∧ r = -1))
  | _ => True
def ms_X9_offer : List Me := [(125, 1, 0, 1, true, pr_X7_isStroke, po_X7_isStroke), (180, 0, 0, 1, true, pr_X0_addOffered, po_X0_addOffered)]
theorem mk_X9_offer : ∀ q ∈ ms_X9_offer, kp_okM layC RX9 2 q := List.forall_mem_cons.mpr ⟨Or.inl ⟨0, yX7_isStroke, cX7_isStroke, 1, (some .boolean), c_X7_isStroke, by omega, by decide, rfl, lk_X9_125⟩, List.forall_mem_cons.mpr ⟨Or.inl ⟨1, yX0_addOffered, cX0_addOffered, 2, (some .int), c_X0_addOffered, by omega, by decide, rfl, lk_X9_180⟩, fun _ h => absurd h List.not_mem_nil⟩⟩
set_option maxRecDepth 100000 in
theorem v_X9_offer {J : Nat → Lcl → List Value → Sg → Prop} {Q : Int32 → Sg → Prop} (s : Int32) (σ : Sg) (h : pr_X7_isStroke [.int s] σ ∧ ∀ (x2 : Int32) (τ1 : Sg), po_X7_isStroke [.int s] σ x2 τ1 → ((¬ x2 = (nI 0) → pr_X0_addOffered [.ref 23, .int s] τ1 ∧ ∀ (x4 : Int32) (τ3 : Sg), po_X0_addOffered [.ref 23, .int s] τ1 x4 τ3 → (Q x4 τ3)) ∧ (x2 = (nI 0) → Q (-1) τ1))) : kp_T layC gl_X9 pl_X9 (ms_X9_offer) tb_X9_offer (kp_rk (some .int)) J Q 30 tb_X9_offer (kp_en [.ref 0, .int s] 2) [] σ := h
set_option maxRecDepth 100000 in
set_option maxHeartbeats 4000000 in
theorem c_X9_offer : kp_Met layC 2 yX9_offer cX9_offer 2 (some .int) (pr_X9_offer) (po_X9_offer) := by
  refine kp_met (N := 30) (by decide) tk_X9_offer gk_X9 pk_X9 (mk_X9_offer) rfl (fun _ _ _ _ _ _ _ => False) ?_ (fun _ _ _ _ _ _ _ _ h => h.elim)
  rintro As σ ⟨s, rfl, hp⟩
  refine ⟨⟨rfl, Nat.le_of_ble_eq_true rfl⟩, v_X9_offer s σ ?_⟩
  obtain ⟨hL, hkb, hty, hrl, hco, has, hsl⟩ := id hp
  refine ⟨⟨_, rfl, trivial⟩, ?_⟩
  rintro x2 τ1 ⟨rfl, rfl⟩
  rw [bI_0]
  refine ⟨fun h1 => ?_, fun h1 => ⟨hp, fun z => (by have q := z.1; rw [h1] at q; cases q), fun _ => ⟨rfl, rfl⟩⟩⟩
  have h1 : isSt s = true := by simpa using h1
  refine ⟨⟨_, rfl, has.2.2.1, has.2.2.2.1⟩, ?_⟩
  rintro x6 τ5 ⟨k1, k2⟩
  by_cases hc : noC τ1 < 8 ∧ (∀ j, j < noC τ1 → τ1 26 j ≠ s)
  · obtain ⟨rfl, rfl⟩ := k1 hc
    refine ⟨InvC_cs hp (fr_up (fr_up (fr_up fr_rf (by decide)) (by decide)) (by decide)) ?_ ?_ up_s, fun _ => ⟨rfl, rfl⟩, fun z => absurd ⟨h1, hc⟩ z⟩
    · unfold cstC
      simp (disch := decide) only [up_c, kp_up_eq, pk_us, pk_un]
      exact hco
    · obtain ⟨u1, u2, u3⟩ := inR_nat (by omega) (by omega) (show inR s (nI 1) (nI 240) = true from h1)
      obtain ⟨s1, s2, s3, s4, s5, s6⟩ := has
      have en : noC τ1 = tn (τ1 23 4) := rfl
      unfold asOK nwC noC
      simp (disch := decide) only [up_c, kp_up_eq, pk_us, pk_un]
      rw [tn_nI (show tn (τ1 23 4) + 1 < 2 ^ 31 by omega)]
      refine ⟨s1, s2, nn_nI (by omega), by omega, s5, fun i hi => ?_⟩
      by_cases e : i = tn (τ1 23 4)
      · rw [e, pk_us]; exact ⟨u1, u2, u3⟩
      · rw [pk_un e]; exact s6 i (by omega)
  · obtain ⟨rfl, rfl⟩ := k2 hc
    exact ⟨hp, fun z => absurd z.2 hc, fun _ => ⟨rfl, rfl⟩⟩
def pr_X9_clear : SPre := fun As σ => As = [.ref 0] ∧ (InvC σ)
def po_X9_clear : SPost := fun As σ r τ => match As with
  | [.ref _] => (InvC τ ∧ τ = kp_up (kp_up (kp_up σ 23 2 (nI 0)) 23 4 (nI 0)) 23 5 (nI 0))
  | _ => True
def ms_X9_clear : List Me := [(183, 0, 0, 0, false, pr_X0_empty, po_X0_empty)]
theorem mk_X9_clear : ∀ q ∈ ms_X9_clear, kp_okM layC RX9 2 q := List.forall_mem_cons.mpr ⟨Or.inl ⟨1, yX0_empty, cX0_empty, 1, none, c_X0_empty, by omega, by decide, rfl, lk_X9_183⟩, fun _ h => absurd h List.not_mem_nil⟩
set_option maxRecDepth 100000 in
theorem v_X9_clear {J : Nat → Lcl → List Value → Sg → Prop} {Q : Int32 → Sg → Prop}  (σ : Sg) (h : pr_X0_empty [.ref 23] σ ∧ ∀ (τ1 : Sg), po_X0_empty [.ref 23] σ (nI 0) τ1 → (Q (nI 0) τ1)) : kp_T layC gl_X9 pl_X9 (ms_X9_clear) tb_X9_clear (kp_rk none) J Q 30 tb_X9_clear (kp_en [.ref 0] 1) [] σ := h
set_option maxRecDepth 100000 in
set_option maxHeartbeats 4000000 in
theorem c_X9_clear : kp_Met layC 2 yX9_clear cX9_clear 1 none (pr_X9_clear) (po_X9_clear) := by
  refine kp_met (N := 30) (by decide) tk_X9_clear gk_X9 pk_X9 (mk_X9_clear) rfl (fun _ _ _ _ _ _ _ => False) ?_ (fun _ _ _ _ _ _ _ _ h => h.elim)
  rintro As σ ⟨rfl, hp⟩
  refine ⟨⟨rfl, Nat.le_of_ble_eq_true rfl⟩, v_X9_clear σ ?_⟩
  obtain ⟨hL, hkb, hty, hrl, hco, has, hsl⟩ := id hp
  refine ⟨⟨rfl, trivial⟩, ?_⟩
  rintro τ1 rfl
  refine ⟨InvC_cs hp (fr_up (fr_up (fr_up fr_rf (by decide)) (by decide)) (by decide)) ?_ ?_ up_s, rfl⟩
  · unfold cstC
    simp (disch := decide) only [up_c, kp_up_eq, pk_us, pk_un]
    exact hco
  · unfold asOK nwC noC
    simp (disch := decide) only [up_c, kp_up_eq, pk_us, pk_un]
    rw [tn_nI (by omega)]
    exact ⟨nn_nI (by omega), by omega, nn_nI (by omega), by omega, fun i hi => by omega, fun i hi => by omega⟩
