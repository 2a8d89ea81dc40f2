/-! prices and what is learnt: KeyPlan$Costs, KeyPlan$Learning -/
def pr_J9_max_7cf53 : SPre := fun As _ => ∃ x y : Int32, As = [.int x, .int y]
def po_J9_max_7cf53 : SPost := fun As σ r τ => match As with
  | [.int a, .int b] => τ = σ ∧ r = (if a < b then b else a)
  | _ => True
def pr_J9_min_7cf53 : SPre := fun As _ => ∃ x y : Int32, As = [.int x, .int y]
def po_J9_min_7cf53 : SPost := fun As σ r τ => match As with
  | [.int a, .int b] => τ = σ ∧ r = (if b < a then b else a)
  | _ => True
theorem kp_okX_max {lay : List Ds} {own : String} {idx ci lev : Nat} (h : 1 ≤ lev) (hl : kp_lnk own idx 1 ci 2 yJ9_max_7cf53 cJ9_max_7cf53 2 (some .int)) : kp_okM lay own lev (idx, 1, ci, 2, true, pr_J9_max_7cf53, po_J9_max_7cf53) := by
  obtain ⟨-, hc, hi, hl⟩ := hl
  refine Or.inr ⟨h, rfl, rfl, rfl, hi, Or.inl ?_⟩
  rcases hl with ⟨q, -⟩ | ⟨-, h1, h2⟩ | ⟨q, -⟩
  · cases q
  · refine ⟨h1, h2, hc, ?_⟩
    rintro As σ ⟨x, y, rfl⟩
    exact ⟨x, y, rfl, rfl, rfl⟩
  · cases q
theorem kp_okX_min {lay : List Ds} {own : String} {idx ci lev : Nat} (h : 1 ≤ lev) (hl : kp_lnk own idx 1 ci 2 yJ9_min_7cf53 cJ9_min_7cf53 2 (some .int)) : kp_okM lay own lev (idx, 1, ci, 2, true, pr_J9_min_7cf53, po_J9_min_7cf53) := by
  obtain ⟨-, hc, hi, hl⟩ := hl
  refine Or.inr ⟨h, rfl, rfl, rfl, hi, Or.inr ?_⟩
  rcases hl with ⟨q, -⟩ | ⟨-, h1, h2⟩ | ⟨q, -⟩
  · cases q
  · refine ⟨h1, h2, hc, ?_⟩
    rintro As σ ⟨x, y, rfl⟩
    exact ⟨x, y, rfl, rfl, rfl⟩
  · cases q
def pr_X9_isCommand : SPre := fun As σ => ∃ c : Int32, As = [.int c] ∧ (True)
def po_X9_isCommand : SPost := fun As σ r τ => match As with
  | [.int c] => (τ = σ ∧ r = bI (isCx (nI 40) c))
  | _ => True
def ms_X9_isCommand : List Me := []
theorem mk_X9_isCommand : ∀ q ∈ ms_X9_isCommand, kp_okM layC RX9 0 q := fun _ h => absurd h List.not_mem_nil
set_option maxRecDepth 100000 in
theorem v_X9_isCommand {J : Nat → Lcl → List Value → Sg → Prop} {Q : Int32 → Sg → Prop} (c : Int32) (σ : Sg) (h : (c < (nI 0) → ((nI 0) = nI 0 ∨ (nI 0) = nI 1) ∧ Q (nI 0) σ) ∧ (¬ c < (nI 0) → (¬ c < (nI 40) → ((nI 0) = nI 0 ∨ (nI 0) = nI 1) ∧ Q (nI 0) σ) ∧ (c < (nI 40) → ((nI 1) = nI 0 ∨ (nI 1) = nI 1) ∧ Q (nI 1) σ))) : kp_T layC gl_X9 pl_X9 (ms_X9_isCommand) tb_X9_isCommand (kp_rk (some .boolean)) J Q 30 tb_X9_isCommand (kp_en [.int c] 1) [] σ := h
set_option maxRecDepth 100000 in
set_option maxHeartbeats 4000000 in
theorem c_X9_isCommand : kp_Met layC 0 yX9_isCommand cX9_isCommand 1 (some .boolean) (pr_X9_isCommand) (po_X9_isCommand) := by
  refine kp_met (N := 30) (by decide) tk_X9_isCommand gk_X9 pk_X9 (mk_X9_isCommand) rfl (fun _ _ _ _ _ _ _ => False) ?_ (fun _ _ _ _ _ _ _ _ h => h.elim)
  rintro As σ ⟨c, rfl, hp⟩
  refine ⟨⟨rfl, Nat.le_of_ble_eq_true rfl⟩, v_X9_isCommand c σ ?_⟩
  refine ⟨fun h1 => ⟨Or.inl rfl, rfl, ?_⟩, fun h1 => ⟨fun h2 => ⟨Or.inl rfl, rfl, ?_⟩, fun h2 => ⟨Or.inr rfl, rfl, ?_⟩⟩⟩
  · unfold isCx; rw [decide_eq_true h1]; rfl
  · unfold isCx; rw [decide_eq_false h1, decide_eq_false h2]; rfl
  · unfold isCx; rw [decide_eq_false h1, decide_eq_true h2]; rfl
def cstOK (st us ha we : Nat → Int32) : Prop := (∀ s, 1 ≤ s → s ≤ 240 → nn (st s) ∧ tn (st s) ≤ 100) ∧ ∀ c, c < 40 → (nn (us c) ∧ tn (us c) ≤ 1000) ∧ (nn (ha c) ∧ tn (ha c) ≤ 240) ∧ nn (we c) ∧ tn (we c) ≤ 10000
def brk (ha : Nat → Int32) (c s : Nat) : Bool := decide (tn (ha c) ≠ 0 ∧ tn (ha c) ≠ s)
def prc (st us ha we : Nat → Int32) (c s : Nat) : Nat := tn (us c) * tn (st s) + (if brk ha c s = true then tn (we c) else 0)
def pr_X3_breaksHabit : SPre := fun As σ => ∃ c : Int32, ∃ s : Int32, As = [.ref 18, .int c, .int s] ∧ ((∀ c, c < 40 → nn (σ 21 c)) ∧ ∃ k j : Nat, c = nI k ∧ k < 40 ∧ s = nI j ∧ j < 2 ^ 31)
def po_X3_breaksHabit : SPost := fun As σ r τ => match As with
  | [.ref _, .int c, .int s] => (τ = σ ∧ r = bI (brk (σ 21) (tn c) (tn s)))
  | _ => True
def ms_X3_breaksHabit : List Me := []
theorem mk_X3_breaksHabit : ∀ q ∈ ms_X3_breaksHabit, kp_okM layC RX3 0 q := fun _ h => absurd h List.not_mem_nil
set_option maxRecDepth 100000 in
theorem v_X3_breaksHabit {J : Nat → Lcl → List Value → Sg → Prop} {Q : Int32 → Sg → Prop} (c s : Int32) (σ : Sg) (h : vp_in c 40 ∧ (((σ 21 (c).toNatClampNeg) = (nI 0) → ((nI 0) = nI 0 ∨ (nI 0) = nI 1) ∧ Q (nI 0) σ) ∧ (¬ (σ 21 (c).toNatClampNeg) = (nI 0) → vp_in c 40 ∧ (((σ 21 (c).toNatClampNeg) = s → ((nI 0) = nI 0 ∨ (nI 0) = nI 1) ∧ Q (nI 0) σ) ∧ (¬ (σ 21 (c).toNatClampNeg) = s → ((nI 1) = nI 0 ∨ (nI 1) = nI 1) ∧ Q (nI 1) σ))))) : kp_T layC gl_X3 pl_X3 (ms_X3_breaksHabit) tb_X3_breaksHabit (kp_rk (some .boolean)) J Q 30 tb_X3_breaksHabit (kp_en [.ref 18, .int c, .int s] 3) [] σ := h
set_option maxRecDepth 100000 in
set_option maxHeartbeats 4000000 in
theorem c_X3_breaksHabit : kp_Met layC 0 yX3_breaksHabit cX3_breaksHabit 3 (some .boolean) (pr_X3_breaksHabit) (po_X3_breaksHabit) := by
  refine kp_met (N := 30) (by decide) tk_X3_breaksHabit gk_X3 pk_X3 (mk_X3_breaksHabit) rfl (fun _ _ _ _ _ _ _ => False) ?_ (fun _ _ _ _ _ _ _ _ h => h.elim)
  rintro As σ ⟨c, s, rfl, hp⟩
  refine ⟨⟨rfl, Nat.le_of_ble_eq_true rfl⟩, v_X3_breaksHabit c s σ ?_⟩
  obtain ⟨hc, k, j, rfl, hk, rfl, hj⟩ := hp
  have ek : (nI k).toNatClampNeg = k := nI_clamp (by omega)
  rw [ek]
  have h21 := hc k hk
  have e1 : σ 21 k = nI 0 ↔ tn (σ 21 k) = 0 := by rw [show (σ 21 k = nI 0) = (nI (tn (σ 21 k)) = nI 0) by rw [← h21], nI_eq (tn_lt _) (by omega)]
  have e2 : σ 21 k = nI j ↔ tn (σ 21 k) = j := by rw [show (σ 21 k = nI j) = (nI (tn (σ 21 k)) = nI j) by rw [← h21], nI_eq (tn_lt _) hj]
  rw [e1, e2]
  have tk : tn (nI k) = k := tn_nI (by omega)
  have tj : tn (nI j) = j := tn_nI hj
  refine ⟨(kp_in (by omega)).mpr hk, fun h1 => ⟨Or.inl rfl, rfl, ?_⟩, fun h1 => ⟨(kp_in (by omega)).mpr hk, fun h2 => ⟨Or.inl rfl, rfl, ?_⟩, fun h2 => ⟨Or.inr rfl, rfl, ?_⟩⟩⟩
  · rw [tk, tj, show brk (σ 21) k j = false from decide_eq_false (fun z => z.1 h1)]; rfl
  · rw [tk, tj, show brk (σ 21) k j = false from decide_eq_false (fun z => z.2 h2)]; rfl
  · rw [tk, tj, show brk (σ 21) k j = true from decide_eq_true ⟨h1, h2⟩]; rfl
def pr_X3_price : SPre := fun As σ => ∃ c : Int32, ∃ s : Int32, As = [.ref 18, .int c, .int s] ∧ (cstOK (σ 19) (σ 20) (σ 21) (σ 22) ∧ ∃ k j : Nat, c = nI k ∧ k < 40 ∧ s = nI j ∧ 1 ≤ j ∧ j ≤ 240)
def po_X3_price : SPost := fun As σ r τ => match As with
  | [.ref _, .int c, .int s] => (τ = σ ∧ r = nI (prc (σ 19) (σ 20) (σ 21) (σ 22) (tn c) (tn s)))
  | _ => True
def ms_X3_price : List Me := [(24, 0, 3, 2, true, pr_X3_breaksHabit, po_X3_breaksHabit)]
theorem mk_X3_price : ∀ q ∈ ms_X3_price, kp_okM layC RX3 1 q := List.forall_mem_cons.mpr ⟨Or.inl ⟨0, yX3_breaksHabit, cX3_breaksHabit, 3, (some .boolean), c_X3_breaksHabit, by omega, by decide, rfl, lk_X3_24⟩, fun _ h => absurd h List.not_mem_nil⟩
set_option maxRecDepth 100000 in
theorem v_X3_price {J : Nat → Lcl → List Value → Sg → Prop} {Q : Int32 → Sg → Prop} (c s : Int32) (σ : Sg) (h : pr_X3_breaksHabit [.ref 18, .int c, .int s] σ ∧ ∀ (x2 : Int32) (τ1 : Sg), po_X3_breaksHabit [.ref 18, .int c, .int s] σ x2 τ1 → ((x2 = (nI 0) → vp_in c 40 ∧ (vp_in s 241 ∧ (Q (((τ1 20 (c).toNatClampNeg) * (τ1 19 (s).toNatClampNeg)) + (nI 0)) τ1))) ∧ (¬ x2 = (nI 0) → vp_in c 40 ∧ (vp_in c 40 ∧ (vp_in s 241 ∧ (Q (((τ1 20 (c).toNatClampNeg) * (τ1 19 (s).toNatClampNeg)) + (τ1 22 (c).toNatClampNeg)) τ1)))))) : kp_T layC gl_X3 pl_X3 (ms_X3_price) tb_X3_price (kp_rk (some .int)) J Q 30 tb_X3_price (kp_en [.ref 18, .int c, .int s] 4) [] σ := h
set_option maxRecDepth 100000 in
set_option maxHeartbeats 4000000 in
theorem c_X3_price : kp_Met layC 1 yX3_price cX3_price 4 (some .int) (pr_X3_price) (po_X3_price) := by
  refine kp_met (N := 30) (by decide) tk_X3_price gk_X3 pk_X3 (mk_X3_price) rfl (fun _ _ _ _ _ _ _ => False) ?_ (fun _ _ _ _ _ _ _ _ h => h.elim)
  rintro As σ ⟨c, s, rfl, hp⟩
  refine ⟨⟨rfl, Nat.le_of_ble_eq_true rfl⟩, v_X3_price c s σ ?_⟩
  obtain ⟨hc, k, j, rfl, hk, rfl, hj1, hj⟩ := hp
  have ek : (nI k).toNatClampNeg = k := nI_clamp (by omega)
  have ej : (nI j).toNatClampNeg = j := nI_clamp (by omega)
  rw [ek, ej]
  refine ⟨⟨_, _, rfl, fun c h => (hc.2 c h).2.1.1, k, j, rfl, hk, rfl, by omega⟩, ?_⟩
  rintro x2 τ1 ⟨rfl, rfl⟩
  have tk : tn (nI k) = k := tn_nI (by omega)
  have tj : tn (nI j) = j := tn_nI (by omega)
  obtain ⟨⟨u1, u2⟩, -, w1, w2⟩ := hc.2 k hk
  obtain ⟨s1, s2⟩ := hc.1 j hj1 hj
  rw [bI_0, tk, tj]
  have em : τ1 20 k * τ1 19 j = nI (tn (τ1 20 k) * tn (τ1 19 j)) := by rw [← pk_mul, ← u1, ← s1]
  rw [em]
  refine ⟨fun h => ⟨(kp_in (by omega)).mpr hk, (kp_in (by omega)).mpr (by omega), rfl, ?_⟩, fun h => ⟨(kp_in (by omega)).mpr hk, (kp_in (by omega)).mpr hk, (kp_in (by omega)).mpr (by omega), rfl, ?_⟩⟩
  · unfold prc
    rw [tk, tj, if_neg (by rw [h]; decide), nI_add]
  · unfold prc
    rw [tk, tj, if_pos (by simpa using h), ← nI_add, ← w1]
def rsm (st : Nat → Int32) (r : Nat) : Nat → Nat
  | 0 => 0
  | i + 1 => rsm st r i + tn (st (r / 256 ^ i % 256))
/-- the stretches of a row's strokes -/
def rst (st : Nat → Int32) (r : Nat) : Nat := rsm st r (rlen r)
theorem row_stroke {r i : Nat} (h : rowOK r = true) (hi : i < rlen r) : 1 ≤ r / 256 ^ i % 256 ∧ r / 256 ^ i % 256 ≤ 240 := by
  have hw := rowOK_iff.mp h
  rcases rlen_ok h with ⟨a, b⟩ | ⟨a, b⟩ | ⟨a, b⟩
  · have : i = 0 := by omega
    subst this; rw [Nat.pow_zero, Nat.div_one]; omega
  · rcases (show i = 0 ∨ i = 1 by omega) with rfl | rfl
    · rw [Nat.pow_zero, Nat.div_one]; omega
    · rw [Nat.pow_one]; omega
  · rcases (show i = 0 ∨ i = 1 ∨ i = 2 by omega) with rfl | rfl | rfl
    · rw [Nat.pow_zero, Nat.div_one]; omega
    · rw [Nat.pow_one]; omega
    · rw [show (256 : Nat) ^ 2 = 65536 by decide]; omega
theorem rsm_le {st us ha we : Nat → Int32} (hc : cstOK st us ha we) {r : Nat} (h : rowOK r = true) : ∀ i, i ≤ rlen r → rsm st r i ≤ 100 * i
  | 0, _ => Nat.le_refl _
  | i + 1, hi => by
    have := rsm_le hc h i (by omega)
    obtain ⟨a, b⟩ := row_stroke h (show i < rlen r by omega)
    have := (hc.1 _ a b).2
    rw [rsm]; omega
def pr_X3_rowStretch : SPre := fun As σ => ∃ row : Int32, As = [.ref 18, .int row] ∧ (cstOK (σ 19) (σ 20) (σ 21) (σ 22) ∧ ∃ k : Nat, row = nI k ∧ rowOK k = true)
def po_X3_rowStretch : SPost := fun As σ r τ => match As with
  | [.ref _, .int row] => (τ = σ ∧ r = nI (rst (σ 19) (tn row)))
  | _ => True
def ms_X3_rowStretch : List Me := [(28, 1, 0, 1, true, pr_X7_length, po_X7_length), (34, 1, 0, 2, true, pr_X7_strokeAt, po_X7_strokeAt), (38, 1, 0, 1, true, pr_X7_isStroke, po_X7_isStroke)]
theorem mk_X3_rowStretch : ∀ q ∈ ms_X3_rowStretch, kp_okM layC RX3 2 q := List.forall_mem_cons.mpr ⟨Or.inl ⟨1, yX7_length, cX7_length, 2, (some .int), c_X7_length, by omega, by decide, rfl, lk_X3_28⟩, List.forall_mem_cons.mpr ⟨Or.inl ⟨0, yX7_strokeAt, cX7_strokeAt, 2, (some .int), c_X7_strokeAt, by omega, by decide, rfl, lk_X3_34⟩, List.forall_mem_cons.mpr ⟨Or.inl ⟨0, yX7_isStroke, cX7_isStroke, 1, (some .boolean), c_X7_isStroke, by omega, by decide, rfl, lk_X3_38⟩, fun _ h => absurd h List.not_mem_nil⟩⟩⟩
set_option maxRecDepth 100000 in
theorem v_X3_rowStretch {J : Nat → Lcl → List Value → Sg → Prop} {Q : Int32 → Sg → Prop} (row : Int32) (σ : Sg) (h : J 4 [some (.ref 18), some (.int row), some (.int (nI 0)), some (.int (nI 0)), none] [] σ) : kp_T layC gl_X3 pl_X3 (ms_X3_rowStretch) tb_X3_rowStretch (kp_rk (some .int)) J Q 33 tb_X3_rowStretch (kp_en [.ref 18, .int row] 5) [] σ := h
set_option maxRecDepth 100000 in
theorem v_X3_rowStretch_4 {J : Nat → Lcl → List Value → Sg → Prop} {Q : Int32 → Sg → Prop} (row sum i : Int32) (o4 : Option Value) (σ : Sg) (h : pr_X7_length [.int row] σ ∧ ∀ (x2 : Int32) (τ1 : Sg), po_X7_length [.int row] σ x2 τ1 → ((¬ i < x2 → Q sum τ1) ∧ (i < x2 → pr_X7_strokeAt [.int row, .int i] τ1 ∧ ∀ (x4 : Int32) (τ3 : Sg), po_X7_strokeAt [.int row, .int i] τ1 x4 τ3 → (pr_X7_isStroke [.int x4] τ3 ∧ ∀ (x6 : Int32) (τ5 : Sg), po_X7_isStroke [.int x4] τ3 x6 τ5 → ((x6 = (nI 0) → J 4 [some (.ref 18), some (.int row), some (.int (sum + (nI 0))), some (.int (i + nI 1)), some (.int x4)] [] τ5) ∧ (¬ x6 = (nI 0) → vp_in x4 241 ∧ (J 4 [some (.ref 18), some (.int row), some (.int (sum + (τ5 19 (x4).toNatClampNeg))), some (.int (i + nI 1)), some (.int x4)] [] τ5))))))) : kp_T1 layC gl_X3 pl_X3 (ms_X3_rowStretch) tb_X3_rowStretch (kp_rk (some .int)) J Q 33 4 [some (.ref 18), some (.int row), some (.int sum), some (.int i), o4] [] σ := h
abbrev iv_X3_rowStretch : List Value → Sg → Nat → Nat → Lcl → List Value → Sg → Prop := fun As σ n pc ls st τ => pc = 4 ∧ st = [] ∧ τ = σ ∧ ∃ (k i : Nat) (o4 : Option Value), As = [.ref 18, .int (nI k)] ∧ rowOK k = true ∧ ls = [some (.ref 18), some (.int (nI k)), some (.int (nI (rsm (σ 19) k i))), some (.int (nI i)), o4] ∧ i ≤ rlen k ∧ n = rlen k - i
set_option maxRecDepth 100000 in
set_option maxHeartbeats 4000000 in
theorem c_X3_rowStretch : kp_Met layC 2 yX3_rowStretch cX3_rowStretch 5 (some .int) (pr_X3_rowStretch) (po_X3_rowStretch) := by
  refine kp_met (N := 33) (by decide) tk_X3_rowStretch gk_X3 pk_X3 (mk_X3_rowStretch) rfl (iv_X3_rowStretch) ?_ ?_
  · rintro As σ ⟨row, rfl, hp⟩
    refine ⟨⟨rfl, Nat.le_of_ble_eq_true rfl⟩, v_X3_rowStretch row σ ?_⟩
    obtain ⟨hc, k, rfl, hk⟩ := hp
    exact ⟨rlen k, rfl, rfl, rfl, k, 0, none, rfl, hk, rfl, by omega, by omega⟩
  · rintro As σ ⟨row, rfl, hp⟩ n pc ls st τ hI
    obtain ⟨hc, -⟩ := hp
    obtain ⟨rfl, rfl, rfl, k, i, o4, hAs, hk, rfl, hi, rfl⟩ := hI
    cases hAs
    have hl := rlen_le k
    have hlt := rowOK_lt hk
    have tk : tn (nI k) = k := tn_nI (by omega)
    refine v_X3_rowStretch_4 _ _ _ o4 τ ⟨⟨_, rfl, k, rfl, hlt⟩, ?_⟩
    rintro x2 τ1 ⟨rfl, rfl⟩
    rw [tk, nI_ltI (by omega) (by omega)]
    refine ⟨fun g1 => ⟨rfl, ?_⟩, fun g1 => ⟨⟨_, _, rfl, k, i, rfl, hlt, rfl, by omega⟩, ?_⟩⟩
    · unfold rst
      rw [tk, show rlen k = i by omega]
    · rintro x4 τ3 ⟨rfl, rfl⟩
      rw [tk, tn_nI (show i < 2 ^ 31 by omega)]
      obtain ⟨a, b⟩ := row_stroke hk g1
      refine ⟨⟨_, rfl, trivial⟩, ?_⟩
      rintro x6 τ5 ⟨rfl, rfl⟩
      rw [isSt_nI (by omega), bI_0, nI_clamp (show k / 256 ^ i % 256 < 2 ^ 31 by omega)]
      refine ⟨fun g2 => absurd ⟨a, b⟩ (of_decide_eq_false g2), fun g2 => ⟨(kp_in (by omega)).mpr (by omega), rlen k - (i + 1), by omega, rfl, rfl, rfl, k, i + 1, some (.int (nI (k / 256 ^ i % 256))), rfl, hk, ?_, by omega, rfl⟩⟩
      rw [rsm, ← nI_add, ← (hc.1 _ a b).1, nI_add]
def svk (st us : Nat → Int32) (c k : Nat) : Nat := tn (us c) * (30 - rst st (k % 16777216))
/-- what a command saves -/
def isSv (st us M : Nat → Int32) (c v : Nat) : Prop := (∀ k, M k = nI c → svk st us c k ≤ v) ∧ (v = 0 ∨ ∃ k, M k = nI c ∧ v = svk st us c k)
theorem isSv_uniq {st us M : Nat → Int32} {c v w : Nat} (h : isSv st us M c v) (h2 : isSv st us M c w) : v = w := by
  have a : v ≤ w := by
    rcases h.2 with e | ⟨k, hk, e⟩
    · omega
    · rw [e]; exact h2.1 k hk
  have b : w ≤ v := by
    rcases h2.2 with e | ⟨k, hk, e⟩
    · omega
    · rw [e]; exact h.1 k hk
  omega
theorem mul_toInt {a b : Nat} (ha : a ≤ 1000) (hb : b ≤ 300) : (nI a * (nI 30 - nI b)).toInt = (a : Int) * (30 - (b : Int)) := by
  have h1 : (nI 30 - nI b).toInt = (30 : Int) - b := pk_sub_toInt (a := 30) (b := b) (by omega) (by omega)
  rw [Int32.toInt_mul, h1, nI_toInt (by omega)]
  have h2 : (a : Int) * (30 - (b : Int)) ≤ 30000 := by
    by_cases hz : (30 - (b : Int)) ≤ 0
    · have := Int.mul_nonpos_of_nonneg_of_nonpos (show (0 : Int) ≤ a by omega) hz; omega
    · have : (a : Int) * (30 - (b : Int)) ≤ 1000 * 30 := Int.mul_le_mul (by omega) (by omega) (by omega) (by omega)
      omega
  have h3 : -270000 ≤ (a : Int) * (30 - (b : Int)) := by
    have : (a : Int) * ((b : Int) - 30) ≤ 1000 * 270 := by
      by_cases hz : ((b : Int) - 30) ≤ 0
      · have := Int.mul_nonpos_of_nonneg_of_nonpos (show (0 : Int) ≤ a by omega) hz; omega
      · exact Int.mul_le_mul (by omega) (by omega) (by omega) (by omega)
    have e : (a : Int) * (30 - (b : Int)) = - ((a : Int) * ((b : Int) - 30)) := by rw [← Int.mul_neg]; congr 1; omega
    omega
  exact Int.bmod_eq_of_le (by omega) (by omega)
theorem max_sv {a b v : Nat} (ha : a ≤ 1000) (hb : b ≤ 300) (hv : v < 2 ^ 30) : (if nI v < nI a * (nI 30 - nI b) then nI a * (nI 30 - nI b) else nI v) = nI (max v (a * (30 - b))) := by
  have h := mul_toInt ha hb
  by_cases h30 : b ≤ 30
  · have e : nI a * (nI 30 - nI b) = nI (a * (30 - b)) := by rw [pk_sub h30, pk_mul]
    have hm : a * (30 - b) ≤ 1000 * 30 := Nat.mul_le_mul ha (by omega)
    rw [e]
    have hi := nI_ltI (a := v) (b := a * (30 - b)) (by omega) (by omega)
    by_cases hlt : v < a * (30 - b)
    · rw [if_pos (hi.mpr hlt), Nat.max_eq_right (by omega)]
    · rw [if_neg (fun z => hlt (hi.mp z)), Nat.max_eq_left (by omega)]
  · have e : 30 - b = 0 := by omega
    rw [e, Nat.mul_zero, Nat.max_eq_left (by omega), if_neg]
    rw [lt_I, h, nI_toInt (by omega)]
    have := Int.mul_nonpos_of_nonneg_of_nonpos (show (0 : Int) ≤ a by omega) (show (30 - (b : Int)) ≤ 0 by omega)
    omega
