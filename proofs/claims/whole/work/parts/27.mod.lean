/-! the model's own: rows, contexts, its map -/
def pr_X10_isIn : SPre := fun As σ => ∃ v : Int32, ∃ a : Int32, ∃ b : Int32, As = [.int v, .int a, .int b] ∧ (True)
def po_X10_isIn : SPost := fun As σ r τ => match As with
  | [.int v, .int a, .int b] => (τ = σ ∧ r = bI (inR v a b))
  | _ => True
def ms_X10_isIn : List Me := []
theorem mk_X10_isIn : ∀ q ∈ ms_X10_isIn, kp_okM layM RX10 0 q := fun _ h => absurd h List.not_mem_nil
set_option maxRecDepth 100000 in
theorem v_X10_isIn {J : Nat → Lcl → List Value → Sg → Prop} {Q : Int32 → Sg → Prop} (v a b : Int32) (σ : Sg) (h : (v < a → ((nI 0) = nI 0 ∨ (nI 0) = nI 1) ∧ Q (nI 0) σ) ∧ (¬ v < a → (b < v → ((nI 0) = nI 0 ∨ (nI 0) = nI 1) ∧ Q (nI 0) σ) ∧ (¬ b < v → ((nI 1) = nI 0 ∨ (nI 1) = nI 1) ∧ Q (nI 1) σ))) : kp_T layM gl_X10 pl_X10 (ms_X10_isIn) tb_X10_isIn (kp_rk (some .boolean)) J Q 30 tb_X10_isIn (kp_en [.int v, .int a, .int b] 3) [] σ := h
set_option maxRecDepth 100000 in
set_option maxHeartbeats 4000000 in
theorem c_X10_isIn : kp_Met layM 0 yX10_isIn cX10_isIn 3 (some .boolean) (pr_X10_isIn) (po_X10_isIn) := by
  refine kp_met (N := 30) (by decide) tk_X10_isIn gk_X10 pk_X10 (mk_X10_isIn) rfl (fun _ _ _ _ _ _ _ => False) ?_ (fun _ _ _ _ _ _ _ _ h => h.elim)
  rintro As σ ⟨v, a, b, rfl, hp⟩
  refine ⟨⟨rfl, Nat.le_of_ble_eq_true rfl⟩, v_X10_isIn v a b σ ?_⟩
  refine ⟨fun h1 => ⟨Or.inl rfl, rfl, ?_⟩, fun h1 => ⟨fun h2 => ⟨Or.inl rfl, rfl, ?_⟩, fun h2 => ⟨Or.inr rfl, rfl, ?_⟩⟩⟩
  · unfold inR; rw [decide_eq_true h1]; rfl
  · unfold inR; rw [decide_eq_false h1, decide_eq_true h2]; rfl
  · unfold inR; rw [decide_eq_false h1, decide_eq_false h2]; rfl
def pr_X10_isContext : SPre := fun As σ => ∃ c : Int32, As = [.ref 0, .int c] ∧ (True)
def po_X10_isContext : SPost := fun As σ r τ => match As with
  | [.ref _, .int c] => (τ = σ ∧ r = bI (isCx (σ 0 2) c))
  | _ => True
def ms_X10_isContext : List Me := []
theorem mk_X10_isContext : ∀ q ∈ ms_X10_isContext, kp_okM layM RX10 0 q := fun _ h => absurd h List.not_mem_nil
set_option maxRecDepth 100000 in
theorem v_X10_isContext {J : Nat → Lcl → List Value → Sg → Prop} {Q : Int32 → Sg → Prop} (c : Int32) (σ : Sg) (h : (c < (nI 0) → ((nI 0) = nI 0 ∨ (nI 0) = nI 1) ∧ Q (nI 0) σ) ∧ (¬ c < (nI 0) → (¬ c < (σ 0 2) → ((nI 0) = nI 0 ∨ (nI 0) = nI 1) ∧ Q (nI 0) σ) ∧ (c < (σ 0 2) → ((nI 1) = nI 0 ∨ (nI 1) = nI 1) ∧ Q (nI 1) σ))) : kp_T layM gl_X10 pl_X10 (ms_X10_isContext) tb_X10_isContext (kp_rk (some .boolean)) J Q 30 tb_X10_isContext (kp_en [.ref 0, .int c] 2) [] σ := h
set_option maxRecDepth 100000 in
set_option maxHeartbeats 4000000 in
theorem c_X10_isContext : kp_Met layM 0 yX10_isContext cX10_isContext 2 (some .boolean) (pr_X10_isContext) (po_X10_isContext) := by
  refine kp_met (N := 30) (by decide) tk_X10_isContext gk_X10 pk_X10 (mk_X10_isContext) rfl (fun _ _ _ _ _ _ _ => False) ?_ (fun _ _ _ _ _ _ _ _ h => h.elim)
  rintro As σ ⟨c, rfl, hp⟩
  refine ⟨⟨rfl, Nat.le_of_ble_eq_true rfl⟩, v_X10_isContext c σ ?_⟩
  refine ⟨fun h1 => ⟨Or.inl rfl, rfl, ?_⟩, fun h1 => ⟨fun h2 => ⟨Or.inl rfl, rfl, ?_⟩, fun h2 => ⟨Or.inr rfl, rfl, ?_⟩⟩⟩
  · unfold isCx; rw [decide_eq_true h1]; rfl
  · unfold isCx; rw [decide_eq_false h1, decide_eq_false h2]; rfl
  · unfold isCx; rw [decide_eq_false h1, decide_eq_true h2]; rfl
def pr_X10_isCommand : SPre := fun As σ => ∃ c : Int32, As = [.int c] ∧ (True)
def po_X10_isCommand : SPost := fun As σ r τ => match As with
  | [.int c] => (τ = σ ∧ r = bI (isCx (nI 40) c))
  | _ => True
def ms_X10_isCommand : List Me := []
theorem mk_X10_isCommand : ∀ q ∈ ms_X10_isCommand, kp_okM layM RX10 0 q := fun _ h => absurd h List.not_mem_nil
set_option maxRecDepth 100000 in
theorem v_X10_isCommand {J : Nat → Lcl → List Value → Sg → Prop} {Q : Int32 → Sg → Prop} (c : Int32) (σ : Sg) (h : (c < (nI 0) → ((nI 0) = nI 0 ∨ (nI 0) = nI 1) ∧ Q (nI 0) σ) ∧ (¬ c < (nI 0) → (¬ c < (nI 40) → ((nI 0) = nI 0 ∨ (nI 0) = nI 1) ∧ Q (nI 0) σ) ∧ (c < (nI 40) → ((nI 1) = nI 0 ∨ (nI 1) = nI 1) ∧ Q (nI 1) σ))) : kp_T layM gl_X10 pl_X10 (ms_X10_isCommand) tb_X10_isCommand (kp_rk (some .boolean)) J Q 30 tb_X10_isCommand (kp_en [.int c] 1) [] σ := h
set_option maxRecDepth 100000 in
set_option maxHeartbeats 4000000 in
theorem c_X10_isCommand : kp_Met layM 0 yX10_isCommand cX10_isCommand 1 (some .boolean) (pr_X10_isCommand) (po_X10_isCommand) := by
  refine kp_met (N := 30) (by decide) tk_X10_isCommand gk_X10 pk_X10 (mk_X10_isCommand) rfl (fun _ _ _ _ _ _ _ => False) ?_ (fun _ _ _ _ _ _ _ _ h => h.elim)
  rintro As σ ⟨c, rfl, hp⟩
  refine ⟨⟨rfl, Nat.le_of_ble_eq_true rfl⟩, v_X10_isCommand c σ ?_⟩
  refine ⟨fun h1 => ⟨Or.inl rfl, rfl, ?_⟩, fun h1 => ⟨fun h2 => ⟨Or.inl rfl, rfl, ?_⟩, fun h2 => ⟨Or.inr rfl, rfl, ?_⟩⟩⟩
  · unfold isCx; rw [decide_eq_true h1]; rfl
  · unfold isCx; rw [decide_eq_false h1, decide_eq_false h2]; rfl
  · unfold isCx; rw [decide_eq_false h1, decide_eq_true h2]; rfl
def pr_X10_stroke : SPre := fun As σ => ∃ row : Int32, ∃ k : Int32, As = [.int row, .int k] ∧ (∃ r q : Nat, row = nI r ∧ r < 2 ^ 31 ∧ k = nI q ∧ q < 3)
def po_X10_stroke : SPost := fun As σ r τ => match As with
  | [.int row, .int k] => (τ = σ ∧ r = nI (tn row / 256 ^ tn k % 256))
  | _ => True
def ms_X10_stroke : List Me := []
theorem mk_X10_stroke : ∀ q ∈ ms_X10_stroke, kp_okM layM RX10 0 q := fun _ h => absurd h List.not_mem_nil
set_option maxRecDepth 100000 in
theorem v_X10_stroke {J : Nat → Lcl → List Value → Sg → Prop} {Q : Int32 → Sg → Prop} (row k : Int32) (σ : Sg) (h : Q ((row >>> (((nI 8) * k) &&& 31)) &&& (nI 255)) σ) : kp_T layM gl_X10 pl_X10 (ms_X10_stroke) tb_X10_stroke (kp_rk (some .int)) J Q 30 tb_X10_stroke (kp_en [.int row, .int k] 2) [] σ := h
set_option maxRecDepth 100000 in
set_option maxHeartbeats 4000000 in
theorem c_X10_stroke : kp_Met layM 0 yX10_stroke cX10_stroke 2 (some .int) (pr_X10_stroke) (po_X10_stroke) := by
  refine kp_met (N := 30) (by decide) tk_X10_stroke gk_X10 pk_X10 (mk_X10_stroke) rfl (fun _ _ _ _ _ _ _ => False) ?_ (fun _ _ _ _ _ _ _ _ h => h.elim)
  rintro As σ ⟨row, k, rfl, hp⟩
  refine ⟨⟨rfl, Nat.le_of_ble_eq_true rfl⟩, v_X10_stroke row k σ ?_⟩
  obtain ⟨r, k, rfl, hr, rfl, hk⟩ := hp
  refine ⟨rfl, ?_⟩
  have hd : ∀ m, r / 2 ^ m < 2 ^ 32 := fun m => Nat.lt_of_le_of_lt (Nat.div_le_self _ _) (by omega)
  rw [tn_nI hr, tn_nI (by omega), pk_mul]
  rcases (show k = 0 ∨ k = 1 ∨ k = 2 by omega) with rfl | rfl | rfl
  · rw [pk_shrN hr _ 0 rfl, pk_andN (hd 0) 8 rfl]
  · rw [pk_shrN hr _ 8 rfl, pk_andN (hd 8) 8 rfl]
  · rw [pk_shrN hr _ 16 rfl, pk_andN (hd 16) 8 rfl]
/-- the model's length of a row: of no stroke it is 1 -/
def mlen (r : Nat) : Nat := if r / 65536 % 256 = 0 then (if r / 256 % 256 = 0 then 1 else 2) else 3
theorem mlen_row {r : Nat} (h : rowOK r = true) : mlen r = rlen r := by
  have := rowOK_iff.mp h
  have h0 : ¬ r % 256 = 0 := by omega
  unfold mlen rlen
  rw [if_neg h0]
  by_cases h1 : r / 65536 % 256 = 0
  · rw [if_pos h1, if_pos h1]
  · have h2 : ¬ r / 256 % 256 = 0 := by omega
    rw [if_neg h1, if_neg h1, if_neg h2]
def pr_X10_length : SPre := fun As σ => ∃ row : Int32, As = [.int row] ∧ (∃ r : Nat, row = nI r ∧ r < 2 ^ 31)
def po_X10_length : SPost := fun As σ r τ => match As with
  | [.int row] => (τ = σ ∧ r = nI (mlen (tn row)))
  | _ => True
def ms_X10_length : List Me := [(80, 1, 9, 2, true, pr_X10_stroke, po_X10_stroke)]
theorem mk_X10_length : ∀ q ∈ ms_X10_length, kp_okM layM RX10 1 q := List.forall_mem_cons.mpr ⟨Or.inl ⟨0, yX10_stroke, cX10_stroke, 2, (some .int), c_X10_stroke, by omega, by decide, rfl, lk_X10_80⟩, fun _ h => absurd h List.not_mem_nil⟩
set_option maxRecDepth 100000 in
theorem v_X10_length {J : Nat → Lcl → List Value → Sg → Prop} {Q : Int32 → Sg → Prop} (row : Int32) (σ : Sg) (h : pr_X10_stroke [.int row, .int (nI 2)] σ ∧ ∀ (x2 : Int32) (τ1 : Sg), po_X10_stroke [.int row, .int (nI 2)] σ x2 τ1 → ((x2 = (nI 0) → pr_X10_stroke [.int row, .int (nI 1)] τ1 ∧ ∀ (x4 : Int32) (τ3 : Sg), po_X10_stroke [.int row, .int (nI 1)] τ1 x4 τ3 → ((x4 = (nI 0) → Q (nI 1) τ3) ∧ (¬ x4 = (nI 0) → Q (nI 2) τ3))) ∧ (¬ x2 = (nI 0) → Q (nI 3) τ1))) : kp_T layM gl_X10 pl_X10 (ms_X10_length) tb_X10_length (kp_rk (some .int)) J Q 30 tb_X10_length (kp_en [.int row] 1) [] σ := h
set_option maxRecDepth 100000 in
set_option maxHeartbeats 4000000 in
theorem c_X10_length : kp_Met layM 1 yX10_length cX10_length 1 (some .int) (pr_X10_length) (po_X10_length) := by
  refine kp_met (N := 30) (by decide) tk_X10_length gk_X10 pk_X10 (mk_X10_length) rfl (fun _ _ _ _ _ _ _ => False) ?_ (fun _ _ _ _ _ _ _ _ h => h.elim)
  rintro As σ ⟨row, rfl, hp⟩
  refine ⟨⟨rfl, Nat.le_of_ble_eq_true rfl⟩, v_X10_length row σ ?_⟩
  obtain ⟨r, rfl, hr⟩ := hp
  have e1 : tn (nI r) / 256 ^ tn (nI 1) % 256 = r / 256 % 256 := by rw [tn_nI hr, tn_nI (by omega)]
  have e2 : tn (nI r) / 256 ^ tn (nI 2) % 256 = r / 65536 % 256 := by rw [tn_nI hr, tn_nI (by omega)]
  refine ⟨⟨_, _, rfl, r, 2, rfl, hr, rfl, by omega⟩, ?_⟩
  rintro x2 τ1 ⟨rfl, rfl⟩
  rw [e2, nI_eq (by omega) (by omega)]
  refine ⟨fun h => ⟨⟨_, _, rfl, r, 1, rfl, hr, rfl, by omega⟩, ?_⟩, fun h => ⟨rfl, by rw [tn_nI hr, mlen, if_neg h]⟩⟩
  rintro x4 τ3 ⟨rfl, rfl⟩
  rw [e1, nI_eq (by omega) (by omega)]
  exact ⟨fun h2 => ⟨rfl, by rw [tn_nI hr, mlen, if_pos h, if_pos h2]⟩, fun h2 => ⟨rfl, by rw [tn_nI hr, mlen, if_pos h, if_neg h2]⟩⟩
def pr_X10_isRow : SPre := fun As σ => ∃ row : Int32, As = [.int row] ∧ (True)
def po_X10_isRow : SPost := fun As σ r τ => match As with
  | [.int row] => (τ = σ ∧ r = bI (isRw row))
  | _ => True
def ms_X10_isRow : List Me := [(80, 1, 9, 2, true, pr_X10_stroke, po_X10_stroke), (84, 1, 9, 3, true, pr_X10_isIn, po_X10_isIn)]
theorem mk_X10_isRow : ∀ q ∈ ms_X10_isRow, kp_okM layM RX10 1 q := List.forall_mem_cons.mpr ⟨Or.inl ⟨0, yX10_stroke, cX10_stroke, 2, (some .int), c_X10_stroke, by omega, by decide, rfl, lk_X10_80⟩, List.forall_mem_cons.mpr ⟨Or.inl ⟨0, yX10_isIn, cX10_isIn, 3, (some .boolean), c_X10_isIn, by omega, by decide, rfl, lk_X10_84⟩, fun _ h => absurd h List.not_mem_nil⟩⟩
set_option maxRecDepth 100000 in
theorem v_X10_isRow {J : Nat → Lcl → List Value → Sg → Prop} {Q : Int32 → Sg → Prop} (row : Int32) (σ : Sg) (h : (row < (nI 0) → ((nI 0) = nI 0 ∨ (nI 0) = nI 1) ∧ Q (nI 0) σ) ∧ (¬ row < (nI 0) → ((row >>> ((nI 24) &&& 31)) = (nI 0) → pr_X10_stroke [.int row, .int (nI 0)] σ ∧ ∀ (x2 : Int32) (τ1 : Sg), po_X10_stroke [.int row, .int (nI 0)] σ x2 τ1 → (pr_X10_stroke [.int row, .int (nI 1)] τ1 ∧ ∀ (x4 : Int32) (τ3 : Sg), po_X10_stroke [.int row, .int (nI 1)] τ1 x4 τ3 → (pr_X10_stroke [.int row, .int (nI 2)] τ3 ∧ ∀ (x6 : Int32) (τ5 : Sg), po_X10_stroke [.int row, .int (nI 2)] τ3 x6 τ5 → (pr_X10_isIn [.int x2, .int (nI 1), .int (nI 240)] τ5 ∧ ∀ (x8 : Int32) (τ7 : Sg), po_X10_isIn [.int x2, .int (nI 1), .int (nI 240)] τ5 x8 τ7 → ((x8 = (nI 0) → ((nI 0) = nI 0 ∨ (nI 0) = nI 1) ∧ Q (nI 0) τ7) ∧ (¬ x8 = (nI 0) → ((nI 240) < x4 → ((nI 0) = nI 0 ∨ (nI 0) = nI 1) ∧ Q (nI 0) τ7) ∧ (¬ (nI 240) < x4 → ((nI 240) < x6 → ((nI 0) = nI 0 ∨ (nI 0) = nI 1) ∧ Q (nI 0) τ7) ∧ (¬ (nI 240) < x6 → (x6 = (nI 0) → ((nI 1) = nI 0 ∨ (nI 1) = nI 1) ∧ Q (nI 1) τ7) ∧ (¬ x6 = (nI 0) → (x4 = (nI 0) → ((nI 0) = nI 0 ∨ (nI 0) = nI 1) ∧ Q (nI 0) τ7) ∧ (¬ x4 = (nI 0) → ((nI 1) = nI 0 ∨ (nI 1) = nI 1) ∧ Q (nI 1) τ7)))))))))) ∧ (¬ (row >>> ((nI 24) &&& 31)) = (nI 0) → ((nI 0) = nI 0 ∨ (nI 0) = nI 1) ∧ Q (nI 0) σ))) : kp_T layM gl_X10 pl_X10 (ms_X10_isRow) tb_X10_isRow (kp_rk (some .boolean)) J Q 44 tb_X10_isRow (kp_en [.int row] 4) [] σ := h
set_option maxRecDepth 100000 in
set_option maxHeartbeats 4000000 in
theorem c_X10_isRow : kp_Met layM 1 yX10_isRow cX10_isRow 4 (some .boolean) (pr_X10_isRow) (po_X10_isRow) := by
  refine kp_met (N := 44) (by decide) tk_X10_isRow gk_X10 pk_X10 (mk_X10_isRow) rfl (fun _ _ _ _ _ _ _ => False) ?_ (fun _ _ _ _ _ _ _ _ h => h.elim)
  rintro As σ ⟨row, rfl, hp⟩
  refine ⟨⟨rfl, Nat.le_of_ble_eq_true rfl⟩, v_X10_isRow row σ ?_⟩
  have hneg : row < nI 0 → isRw row = false := fun h => by
    unfold isRw
    rw [decide_eq_true (by rw [lt_I, nI_toInt (by omega)] at *; omega)]; rfl
  refine ⟨fun h1 => ⟨Or.inl rfl, rfl, by rw [hneg h1]; rfl⟩, fun h1 => ?_⟩
  obtain ⟨r, hr, rfl⟩ := nI_of (show ¬ row < 0 from h1)
  have e0 : tn (nI r) / 256 ^ tn (nI 0) % 256 = r % 256 := by rw [tn_nI hr, tn_nI (by omega)]; simp
  have e1 : tn (nI r) / 256 ^ tn (nI 1) % 256 = r / 256 % 256 := by rw [tn_nI hr, tn_nI (by omega)]
  have e2 : tn (nI r) / 256 ^ tn (nI 2) % 256 = r / 65536 % 256 := by rw [tn_nI hr, tn_nI (by omega)]
  have hrw : isRw (nI r) = rowOK r := by
    by_cases h : 1 ≤ r
    · exact isRw_nI h hr
    · have : r = 0 := by omega
      subst this; decide
  have hlt : r / 2 ^ 24 < 2 ^ 31 := Nat.lt_of_le_of_lt (Nat.div_le_self _ _) hr
  rw [pk_shrN hr _ 24 (by decide), nI_eq hlt (by omega)]
  have k1 := nI_eq (a := r / 256 % 256) (b := 0) (by omega) (by omega)
  have k2 := nI_eq (a := r / 65536 % 256) (b := 0) (by omega) (by omega)
  refine ⟨fun h2 => ⟨⟨_, _, rfl, r, 0, rfl, hr, rfl, by omega⟩, ?_⟩, fun h2 => ⟨Or.inl rfl, rfl, ?_⟩⟩
  · rintro x2 τ1 ⟨rfl, rfl⟩
    refine ⟨⟨_, _, rfl, r, 1, rfl, hr, rfl, by omega⟩, ?_⟩
    rintro x4 τ3 ⟨rfl, rfl⟩
    refine ⟨⟨_, _, rfl, r, 2, rfl, hr, rfl, by omega⟩, ?_⟩
    rintro x6 τ5 ⟨rfl, rfl⟩
    rw [e0, e1, e2]
    refine ⟨⟨_, _, _, rfl, trivial⟩, ?_⟩
    rintro x8 τ7 ⟨rfl, rfl⟩
    have hst : inR (nI (r % 256)) (nI 1) (nI 240) = decide (1 ≤ r % 256 ∧ r % 256 ≤ 240) := by
      rw [← isSt_inR, isSt_nI (by omega)]
    rw [hst, bI_0, nI_ltI (by omega) (by omega), nI_ltI (by omega) (by omega), k1, k2]
    have no : ¬ (1 ≤ r % 256 ∧ r % 256 ≤ 240 ∧ r / 256 % 256 ≤ 240 ∧ r / 65536 ≤ 240 ∧ (r / 256 % 256 = 0 → r / 65536 = 0)) → nI 0 = bI (isRw (nI r)) := fun h => by
      rw [hrw, show rowOK r = false from decide_eq_false h]; rfl
    have ye : (1 ≤ r % 256 ∧ r % 256 ≤ 240 ∧ r / 256 % 256 ≤ 240 ∧ r / 65536 ≤ 240 ∧ (r / 256 % 256 = 0 → r / 65536 = 0)) → nI 1 = bI (isRw (nI r)) := fun h => by
      rw [hrw, show rowOK r = true from decide_eq_true h]; rfl
    refine ⟨fun h3 => ⟨Or.inl rfl, rfl, no ?_⟩, fun h3 => ⟨fun h4 => ⟨Or.inl rfl, rfl, no ?_⟩, fun h4 => ⟨fun h5 => ⟨Or.inl rfl, rfl, no ?_⟩, fun h5 => ⟨fun h6 => ⟨Or.inr rfl, rfl, ye ?_⟩, fun h6 => ⟨fun h7 => ⟨Or.inl rfl, rfl, no ?_⟩, fun h7 => ⟨Or.inr rfl, rfl, ye ?_⟩⟩⟩⟩⟩⟩
    · have := of_decide_eq_false h3; omega
    · omega
    · omega
    · rw [Bool.not_eq_false] at h3
      have := of_decide_eq_true h3; omega
    · omega
    · rw [Bool.not_eq_false] at h3
      have := of_decide_eq_true h3; omega
  · rw [hrw, show rowOK r = false from decide_eq_false (by omega)]; rfl
def pr_X10_begins : SPre := fun As σ => ∃ row : Int32, ∃ other : Int32, As = [.int row, .int other] ∧ (∃ a b : Nat, row = nI a ∧ a < 2 ^ 31 ∧ other = nI b ∧ b < 2 ^ 31)
def po_X10_begins : SPost := fun As σ r τ => match As with
  | [.int row, .int other] => (τ = σ ∧ r = bI (decide (mlen (tn row) < mlen (tn other) ∧ tn other % 256 ^ mlen (tn row) = tn row)))
  | _ => True
def ms_X10_begins : List Me := [(111, 1, 9, 1, true, pr_X10_length, po_X10_length)]
theorem mk_X10_begins : ∀ q ∈ ms_X10_begins, kp_okM layM RX10 2 q := List.forall_mem_cons.mpr ⟨Or.inl ⟨1, yX10_length, cX10_length, 1, (some .int), c_X10_length, by omega, by decide, rfl, lk_X10_111⟩, fun _ h => absurd h List.not_mem_nil⟩
set_option maxRecDepth 100000 in
theorem v_X10_begins {J : Nat → Lcl → List Value → Sg → Prop} {Q : Int32 → Sg → Prop} (row other : Int32) (σ : Sg) (h : pr_X10_length [.int row] σ ∧ ∀ (x2 : Int32) (τ1 : Sg), po_X10_length [.int row] σ x2 τ1 → (pr_X10_length [.int other] τ1 ∧ ∀ (x4 : Int32) (τ3 : Sg), po_X10_length [.int other] τ1 x4 τ3 → ((¬ x2 < x4 → ((nI 0) = nI 0 ∨ (nI 0) = nI 1) ∧ Q (nI 0) τ3) ∧ (x2 < x4 → pr_X10_length [.int row] τ3 ∧ ∀ (x6 : Int32) (τ5 : Sg), po_X10_length [.int row] τ3 x6 τ5 → ((¬ (other &&& (((nI 1) <<< (((nI 8) * x6) &&& 31)) - (nI 1))) = row → ((nI 0) = nI 0 ∨ (nI 0) = nI 1) ∧ Q (nI 0) τ5) ∧ ((other &&& (((nI 1) <<< (((nI 8) * x6) &&& 31)) - (nI 1))) = row → ((nI 1) = nI 0 ∨ (nI 1) = nI 1) ∧ Q (nI 1) τ5)))))) : kp_T layM gl_X10 pl_X10 (ms_X10_begins) tb_X10_begins (kp_rk (some .boolean)) J Q 30 tb_X10_begins (kp_en [.int row, .int other] 2) [] σ := h
set_option maxRecDepth 100000 in
set_option maxHeartbeats 4000000 in
theorem c_X10_begins : kp_Met layM 2 yX10_begins cX10_begins 2 (some .boolean) (pr_X10_begins) (po_X10_begins) := by
  refine kp_met (N := 30) (by decide) tk_X10_begins gk_X10 pk_X10 (mk_X10_begins) rfl (fun _ _ _ _ _ _ _ => False) ?_ (fun _ _ _ _ _ _ _ _ h => h.elim)
  rintro As σ ⟨row, other, rfl, hp⟩
  refine ⟨⟨rfl, Nat.le_of_ble_eq_true rfl⟩, v_X10_begins row other σ ?_⟩
  obtain ⟨a, b, rfl, ha, rfl, hb⟩ := hp
  have ea : tn (nI a) = a := tn_nI ha
  have eb : tn (nI b) = b := tn_nI hb
  refine ⟨⟨_, rfl, a, rfl, ha⟩, ?_⟩
  rintro x2 τ1 ⟨rfl, rfl⟩
  refine ⟨⟨_, rfl, b, rfl, hb⟩, ?_⟩
  rintro x4 τ3 ⟨rfl, rfl⟩
  rw [ea, eb]
  have ml : ∀ r, mlen r = 1 ∨ mlen r = 2 ∨ mlen r = 3 := fun r => by unfold mlen; split <;> (try split) <;> simp
  have mla := ml a
  have mlb := ml b
  rw [nI_ltI (by omega) (by omega)]
  refine ⟨fun h => ⟨Or.inl rfl, rfl, by rw [ea, eb, decide_eq_false (fun z => h z.1)]; rfl⟩, fun h => ⟨⟨_, rfl, a, rfl, ha⟩, ?_⟩⟩
  rintro x6 τ5 ⟨rfl, rfl⟩
  rw [ea]
  have hand : nI b &&& (nI 1 <<< (nI 8 * nI (mlen a) &&& 31) - nI 1) = nI (b % 256 ^ mlen a) := by
    rcases mla with e | e | e <;> rw [e]
    · exact pk_andN (by omega) 8 (by decide)
    · exact pk_andN (by omega) 16 (by decide)
    · exact pk_andN (by omega) 24 (by decide)
  rw [hand, nI_eq (Nat.lt_of_le_of_lt (Nat.mod_le _ _) hb) ha]
  exact ⟨fun h2 => ⟨Or.inl rfl, rfl, by rw [ea, eb, decide_eq_false (fun z => h2 z.2)]; rfl⟩, fun h2 => ⟨Or.inr rfl, rfl, by rw [ea, eb, decide_eq_true ⟨h, h2⟩]; rfl⟩⟩
/-- the model's rows of entries -/
abbrev eK (a r : Nat → Int32) : Nat → Nat := fun i => tn (a i) * 16777216 + tn (r i)
def mOK (a r c : Nat → Int32) (nz : Int32) : Prop := ∃ z : Nat, nz = nI z ∧ z ≤ 120 ∧ (∀ i, i < z → nn (a i) ∧ tn (a i) < 12 ∧ nn (r i) ∧ rowOK (tn (r i)) = true ∧ ∃ v : Nat, v ≤ 40 ∧ c i = nI v) ∧ ∀ i j, i < z → j < z → eK a r i = eK a r j → i = j
def mpM (a r c : Nat → Int32) (nz : Int32) (k : Nat) : Int32 := lk (eK a r) c (tn nz) k
abbrev mM (σ : Sg) : Nat → Int32 := mpM (σ 2) (σ 3) (σ 4) (σ 0 8)
abbrev kM (σ : Sg) : Nat → Int32 := mpM (σ 5) (σ 6) (σ 7) (σ 0 9)
theorem eK_iff {a r : Nat → Int32} {i c w : Nat} (h1 : nn (a i)) (h2 : nn (r i)) (h3 : tn (r i) < 16777216) (hc : c < 2 ^ 31) (hw : w < 16777216) : eK a r i = c * 16777216 + w ↔ a i = nI c ∧ r i = nI w := by
  constructor
  · intro h
    have h : tn (a i) * 16777216 + tn (r i) = c * 16777216 + w := h
    have e1 : tn (a i) = c := by omega
    have e2 : tn (r i) = w := by omega
    rw [← e1, ← e2]; exact ⟨h1, h2⟩
  · rintro ⟨e1, e2⟩
    show tn (a i) * 16777216 + tn (r i) = _
    rw [e1, e2, tn_nI hc, tn_nI (by omega)]
theorem mpM_val {a r c : Nat → Int32} {nz : Int32} (h : mOK a r c nz) (k : Nat) : mpM a r c nz k = -1 ∨ (keyOK k ∧ ∃ v : Nat, v ≤ 40 ∧ mpM a r c nz k = nI v) := by
  obtain ⟨z, rfl, h1, h2, h3⟩ := id h
  have ez : tn (nI z) = z := tn_nI (by omega)
  unfold mpM
  rw [ez]
  by_cases hh : lk (eK a r) c z k = -1
  · exact Or.inl hh
  · obtain ⟨i, hi, rfl⟩ := lk_some hh
    rw [lk_at (ks := eK a r) h3 hi]
    obtain ⟨g1, g2, g3, g4, g5⟩ := h2 i hi
    have := rowOK_lt g4
    refine Or.inr ⟨⟨?_, ?_⟩, g5⟩
    · show (tn (a i) * 16777216 + tn (r i)) / 16777216 < 12
      rw [(key_div this).1]; exact g2
    · show rowOK ((tn (a i) * 16777216 + tn (r i)) % 16777216) = true
      rw [(key_div this).2]; exact g4
def pr_X10_entry : SPre := fun As σ => ∃ c : Int32, ∃ row : Int32, As = [.ref 0, .int c, .int row] ∧ (mOK (σ 2) (σ 3) (σ 4) (σ 0 8) ∧ ∃ x w : Nat, c = nI x ∧ x < 12 ∧ row = nI w ∧ w < 16777216)
def po_X10_entry : SPost := fun As σ r τ => match As with
  | [.ref _, .int c, .int row] => (τ = σ ∧ ((∃ k : Nat, k < tn (σ 0 8) ∧ r = nI k ∧ eK (σ 2) (σ 3) k = tn c * 16777216 + tn row) ∨ (r = -1 ∧ ∀ k, k < tn (σ 0 8) → eK (σ 2) (σ 3) k ≠ tn c * 16777216 + tn row)))
  | _ => True
def ms_X10_entry : List Me := []
theorem mk_X10_entry : ∀ q ∈ ms_X10_entry, kp_okM layM RX10 0 q := fun _ h => absurd h List.not_mem_nil
set_option maxRecDepth 100000 in
theorem v_X10_entry {J : Nat → Lcl → List Value → Sg → Prop} {Q : Int32 → Sg → Prop} (c row : Int32) (σ : Sg) (h : J 2 [some (.ref 0), some (.int c), some (.int row), some (.int (nI 0))] [] σ) : kp_T layM gl_X10 pl_X10 (ms_X10_entry) tb_X10_entry (kp_rk (some .int)) J Q 30 tb_X10_entry (kp_en [.ref 0, .int c, .int row] 4) [] σ := h
set_option maxRecDepth 100000 in
theorem v_X10_entry_2 {J : Nat → Lcl → List Value → Sg → Prop} {Q : Int32 → Sg → Prop} (c row k : Int32) (σ : Sg) (h : (¬ k < (σ 0 8) → Q (-1) σ) ∧ (k < (σ 0 8) → vp_in k 120 ∧ ((¬ (σ 2 (k).toNatClampNeg) = c → J 2 [some (.ref 0), some (.int c), some (.int row), some (.int (k + nI 1))] [] σ) ∧ ((σ 2 (k).toNatClampNeg) = c → vp_in k 120 ∧ ((¬ (σ 3 (k).toNatClampNeg) = row → J 2 [some (.ref 0), some (.int c), some (.int row), some (.int (k + nI 1))] [] σ) ∧ ((σ 3 (k).toNatClampNeg) = row → Q k σ)))))) : kp_T1 layM gl_X10 pl_X10 (ms_X10_entry) tb_X10_entry (kp_rk (some .int)) J Q 30 2 [some (.ref 0), some (.int c), some (.int row), some (.int k)] [] σ := h
abbrev iv_X10_entry : List Value → Sg → Nat → Nat → Lcl → List Value → Sg → Prop := fun As σ n pc ls st τ => pc = 2 ∧ st = [] ∧ τ = σ ∧ ∃ (x w k : Nat), As = [.ref 0, .int (nI x), .int (nI w)] ∧ ls = [some (.ref 0), some (.int (nI x)), some (.int (nI w)), some (.int (nI k))] ∧ k ≤ tn (σ 0 8) ∧ n = tn (σ 0 8) - k ∧ x < 12 ∧ w < 16777216 ∧ ∀ j, j < k → eK (σ 2) (σ 3) j ≠ x * 16777216 + w
set_option maxRecDepth 100000 in
set_option maxHeartbeats 4000000 in
theorem c_X10_entry : kp_Met layM 0 yX10_entry cX10_entry 4 (some .int) (pr_X10_entry) (po_X10_entry) := by
  refine kp_met (N := 30) (by decide) tk_X10_entry gk_X10 pk_X10 (mk_X10_entry) rfl (iv_X10_entry) ?_ ?_
  · rintro As σ ⟨c, row, rfl, hp⟩
    refine ⟨⟨rfl, Nat.le_of_ble_eq_true rfl⟩, v_X10_entry c row σ ?_⟩
    obtain ⟨hm, x, w, rfl, hx, rfl, hw⟩ := hp
    exact ⟨_, rfl, rfl, rfl, x, w, 0, rfl, rfl, Nat.zero_le _, rfl, hx, hw, fun j hj => by omega⟩
  · rintro As σ ⟨c, row, rfl, hp⟩ n pc ls st τ hI
    obtain ⟨hm, -⟩ := hp
    obtain ⟨z, hz, hz1, h2, h3⟩ := id hm
    obtain ⟨rfl, rfl, rfl, x, w, k, hAs, rfl, hk, rfl, hx, hw, hj⟩ := hI
    cases hAs
    have ez : tn (τ 0 8) = z := by rw [hz, tn_nI (by omega)]
    rw [ez] at hk
    refine v_X10_entry_2 _ _ _ τ ?_
    rw [hz, nI_ltI (by omega) (by omega), nI_clamp (show k < 2 ^ 31 by omega), nI_add]
    have ex : tn (nI x) = x := tn_nI (by omega)
    have ew : tn (nI w) = w := tn_nI (by omega)
    refine ⟨fun g => ⟨rfl, Or.inr ⟨rfl, fun q hq => ?_⟩⟩, fun g => ⟨(kp_in (by omega)).mpr (by omega), ?_⟩⟩
    · rw [ex, ew]; exact hj q (by omega)
    obtain ⟨g1, g2, g3, g4, -⟩ := h2 k g
    have hiff := eK_iff (a := τ 2) (r := τ 3) (c := x) (w := w) g1 g3 (rowOK_lt g4) (by omega) hw
    have hgo : eK (τ 2) (τ 3) k ≠ x * 16777216 + w → ∃ n', n' < tn (nI z) - k ∧ iv_X10_entry [.ref 0, .int (nI x), .int (nI w)] τ n' 2 [some (.ref 0), some (.int (nI x)), some (.int (nI w)), some (.int (nI (k + 1)))] [] τ := fun h => ⟨tn (τ 0 8) - (k + 1), by rw [ez, tn_nI (by omega)]; omega, rfl, rfl, rfl, x, w, k + 1, rfl, rfl, by omega, rfl, hx, hw, fun j hj' => by
      by_cases e : j = k
      · rw [e]; exact h
      · exact hj j (by omega)⟩
    refine ⟨fun q1 => hgo (fun q => q1 (hiff.mp q).1), fun q1 => ⟨(kp_in (by omega)).mpr (by omega), fun q2 => hgo (fun q => q2 (hiff.mp q).2), fun q2 => ⟨rfl, Or.inl ⟨k, by omega, rfl, ?_⟩⟩⟩⟩
    rw [ex, ew]; exact hiff.mpr ⟨q1, q2⟩
def pr_X10_hasFor : SPre := fun As σ => ∃ c : Int32, ∃ row : Int32, As = [.ref 0, .int c, .int row] ∧ (mOK (σ 2) (σ 3) (σ 4) (σ 0 8) ∧ ∃ x w : Nat, c = nI x ∧ x < 12 ∧ row = nI w ∧ w < 16777216)
def po_X10_hasFor : SPost := fun As σ r τ => match As with
  | [.ref _, .int c, .int row] => (τ = σ ∧ r = mM σ (tn c * 16777216 + tn row))
  | _ => True
def ms_X10_hasFor : List Me := [(95, 0, 9, 2, true, pr_X10_entry, po_X10_entry)]
theorem mk_X10_hasFor : ∀ q ∈ ms_X10_hasFor, kp_okM layM RX10 1 q := List.forall_mem_cons.mpr ⟨Or.inl ⟨0, yX10_entry, cX10_entry, 4, (some .int), c_X10_entry, by omega, by decide, rfl, lk_X10_95⟩, fun _ h => absurd h List.not_mem_nil⟩
set_option maxRecDepth 100000 in
theorem v_X10_hasFor {J : Nat → Lcl → List Value → Sg → Prop} {Q : Int32 → Sg → Prop} (c row : Int32) (σ : Sg) (h : pr_X10_entry [.ref 0, .int c, .int row] σ ∧ ∀ (x2 : Int32) (τ1 : Sg), po_X10_entry [.ref 0, .int c, .int row] σ x2 τ1 → ((¬ x2 = (-1) → vp_in x2 120 ∧ (Q (τ1 4 (x2).toNatClampNeg) τ1)) ∧ (x2 = (-1) → Q (-1) τ1))) : kp_T layM gl_X10 pl_X10 (ms_X10_hasFor) tb_X10_hasFor (kp_rk (some .int)) J Q 30 tb_X10_hasFor (kp_en [.ref 0, .int c, .int row] 4) [] σ := h
set_option maxRecDepth 100000 in
set_option maxHeartbeats 4000000 in
theorem c_X10_hasFor : kp_Met layM 1 yX10_hasFor cX10_hasFor 4 (some .int) (pr_X10_hasFor) (po_X10_hasFor) := by
  refine kp_met (N := 30) (by decide) tk_X10_hasFor gk_X10 pk_X10 (mk_X10_hasFor) rfl (fun _ _ _ _ _ _ _ => False) ?_ (fun _ _ _ _ _ _ _ _ h => h.elim)
  rintro As σ ⟨c, row, rfl, hp⟩
  refine ⟨⟨rfl, Nat.le_of_ble_eq_true rfl⟩, v_X10_hasFor c row σ ?_⟩
  obtain ⟨hm, hcr⟩ := hp
  obtain ⟨z, hz, hz1, h2, h3⟩ := id hm
  have ez : tn (σ 0 8) = z := by rw [hz, tn_nI (by omega)]
  refine ⟨⟨_, _, rfl, hm, hcr⟩, ?_⟩
  rintro x2 τ1 ⟨rfl, h⟩
  show (_ → vp_in x2 120 ∧ po_X10_hasFor _ τ1 (τ1 4 (tn x2)) τ1) ∧ _
  rcases h with ⟨k, hk, rfl, e⟩ | ⟨rfl, hno⟩
  · rw [ez] at hk
    refine ⟨fun _ => ⟨(kp_in (by omega)).mpr (by omega), rfl, ?_⟩, fun q => absurd q (nI_m1 (by omega))⟩
    rw [tn_nI (show k < 2 ^ 31 by omega), ← e]
    show _ = lk (eK (τ1 2) (τ1 3)) (τ1 4) (tn (τ1 0 8)) _
    rw [ez, lk_at (ks := eK (τ1 2) (τ1 3)) h3 hk]
  · exact ⟨fun q => absurd rfl q, fun _ => ⟨rfl, (lk_none hno).symm⟩⟩
def pr_X10_keptFor : SPre := fun As σ => ∃ c : Int32, ∃ row : Int32, As = [.ref 0, .int c, .int row] ∧ (mOK (σ 5) (σ 6) (σ 7) (σ 0 9) ∧ ∃ x w : Nat, c = nI x ∧ x < 12 ∧ row = nI w ∧ w < 16777216)
def po_X10_keptFor : SPost := fun As σ r τ => match As with
  | [.ref _, .int c, .int row] => (τ = σ ∧ r = kM σ (tn c * 16777216 + tn row))
  | _ => True
def ms_X10_keptFor : List Me := []
theorem mk_X10_keptFor : ∀ q ∈ ms_X10_keptFor, kp_okM layM RX10 0 q := fun _ h => absurd h List.not_mem_nil
set_option maxRecDepth 100000 in
theorem v_X10_keptFor {J : Nat → Lcl → List Value → Sg → Prop} {Q : Int32 → Sg → Prop} (c row : Int32) (σ : Sg) (h : J 2 [some (.ref 0), some (.int c), some (.int row), some (.int (nI 0))] [] σ) : kp_T layM gl_X10 pl_X10 (ms_X10_keptFor) tb_X10_keptFor (kp_rk (some .int)) J Q 32 tb_X10_keptFor (kp_en [.ref 0, .int c, .int row] 4) [] σ := h
set_option maxRecDepth 100000 in
theorem v_X10_keptFor_2 {J : Nat → Lcl → List Value → Sg → Prop} {Q : Int32 → Sg → Prop} (c row k : Int32) (σ : Sg) (h : (¬ k < (σ 0 9) → Q (-1) σ) ∧ (k < (σ 0 9) → vp_in k 120 ∧ ((¬ (σ 5 (k).toNatClampNeg) = c → J 2 [some (.ref 0), some (.int c), some (.int row), some (.int (k + nI 1))] [] σ) ∧ ((σ 5 (k).toNatClampNeg) = c → vp_in k 120 ∧ ((¬ (σ 6 (k).toNatClampNeg) = row → J 2 [some (.ref 0), some (.int c), some (.int row), some (.int (k + nI 1))] [] σ) ∧ ((σ 6 (k).toNatClampNeg) = row → vp_in k 120 ∧ (Q (σ 7 (k).toNatClampNeg) σ))))))) : kp_T1 layM gl_X10 pl_X10 (ms_X10_keptFor) tb_X10_keptFor (kp_rk (some .int)) J Q 32 2 [some (.ref 0), some (.int c), some (.int row), some (.int k)] [] σ := h
abbrev iv_X10_keptFor : List Value → Sg → Nat → Nat → Lcl → List Value → Sg → Prop := fun As σ n pc ls st τ => pc = 2 ∧ st = [] ∧ τ = σ ∧ ∃ (x w k : Nat), As = [.ref 0, .int (nI x), .int (nI w)] ∧ ls = [some (.ref 0), some (.int (nI x)), some (.int (nI w)), some (.int (nI k))] ∧ k ≤ tn (σ 0 9) ∧ n = tn (σ 0 9) - k ∧ x < 12 ∧ w < 16777216 ∧ ∀ j, j < k → eK (σ 5) (σ 6) j ≠ x * 16777216 + w
set_option maxRecDepth 100000 in
set_option maxHeartbeats 4000000 in
theorem c_X10_keptFor : kp_Met layM 0 yX10_keptFor cX10_keptFor 4 (some .int) (pr_X10_keptFor) (po_X10_keptFor) := by
  refine kp_met (N := 32) (by decide) tk_X10_keptFor gk_X10 pk_X10 (mk_X10_keptFor) rfl (iv_X10_keptFor) ?_ ?_
  · rintro As σ ⟨c, row, rfl, hp⟩
    refine ⟨⟨rfl, Nat.le_of_ble_eq_true rfl⟩, v_X10_keptFor c row σ ?_⟩
    obtain ⟨hm, x, w, rfl, hx, rfl, hw⟩ := hp
    exact ⟨_, rfl, rfl, rfl, x, w, 0, rfl, rfl, Nat.zero_le _, rfl, hx, hw, fun j hj => by omega⟩
  · rintro As σ ⟨c, row, rfl, hp⟩ n pc ls st τ hI
    obtain ⟨hm, -⟩ := hp
    obtain ⟨z, hz, hz1, h2, h3⟩ := id hm
    obtain ⟨rfl, rfl, rfl, x, w, k, hAs, rfl, hk, rfl, hx, hw, hj⟩ := hI
    cases hAs
    have ez : tn (τ 0 9) = z := by rw [hz, tn_nI (by omega)]
    rw [ez] at hk
    refine v_X10_keptFor_2 _ _ _ τ ?_
    rw [hz, nI_ltI (by omega) (by omega), nI_clamp (show k < 2 ^ 31 by omega), nI_add]
    have ex : tn (nI x) = x := tn_nI (by omega)
    have ew : tn (nI w) = w := tn_nI (by omega)
    refine ⟨fun g => ⟨rfl, ?_⟩, fun g => ⟨(kp_in (by omega)).mpr (by omega), ?_⟩⟩
    · rw [ex, ew]; exact (lk_none (fun q hq => hj q (by omega))).symm
    obtain ⟨g1, g2, g3, g4, -⟩ := h2 k g
    have hiff := eK_iff (a := τ 5) (r := τ 6) (c := x) (w := w) g1 g3 (rowOK_lt g4) (by omega) hw
    have hgo : eK (τ 5) (τ 6) k ≠ x * 16777216 + w → ∃ n', n' < tn (nI z) - k ∧ iv_X10_keptFor [.ref 0, .int (nI x), .int (nI w)] τ n' 2 [some (.ref 0), some (.int (nI x)), some (.int (nI w)), some (.int (nI (k + 1)))] [] τ := fun h => ⟨tn (τ 0 9) - (k + 1), by rw [ez, tn_nI (by omega)]; omega, rfl, rfl, rfl, x, w, k + 1, rfl, rfl, by omega, rfl, hx, hw, fun j hj' => by
      by_cases e : j = k
      · rw [e]; exact h
      · exact hj j (by omega)⟩
    refine ⟨fun q1 => hgo (fun q => q1 (hiff.mp q).1), fun q1 => ⟨(kp_in (by omega)).mpr (by omega), fun q2 => hgo (fun q => q2 (hiff.mp q).2), fun q2 => ⟨(kp_in (by omega)).mpr (by omega), rfl, ?_⟩⟩⟩
    rw [ex, ew, ← hiff.mpr ⟨q1, q2⟩]
    show _ = lk (eK (τ 5) (τ 6)) (τ 7) (tn (τ 0 9)) _
    rw [ez, lk_at (ks := eK (τ 5) (τ 6)) h3 g]
def pr_X10_stands : SPre := fun As σ => ∃ c : Int32, ∃ d : Int32, As = [.ref 0, .int c, .int d] ∧ (ctxOK (σ 1) (σ 0 2) ∧ ∃ x y : Nat, c = nI x ∧ d = nI y ∧ x < tn (σ 0 2) ∧ y < tn (σ 0 2))
def po_X10_stands : SPost := fun As σ r τ => match As with
  | [.ref _, .int c, .int d] => (τ = σ ∧ r = bI (wthn (σ 1) 12 (tn c) (tn d)))
  | _ => True
def ms_X10_stands : List Me := []
theorem mk_X10_stands : ∀ q ∈ ms_X10_stands, kp_okM layM RX10 0 q := fun _ h => absurd h List.not_mem_nil
set_option maxRecDepth 100000 in
theorem v_X10_stands {J : Nat → Lcl → List Value → Sg → Prop} {Q : Int32 → Sg → Prop} (c d : Int32) (σ : Sg) (h : J 2 [some (.ref 0), some (.int c), some (.int d), some (.int c)] [] σ) : kp_T layM gl_X10 pl_X10 (ms_X10_stands) tb_X10_stands (kp_rk (some .boolean)) J Q 30 tb_X10_stands (kp_en [.ref 0, .int c, .int d] 4) [] σ := h
set_option maxRecDepth 100000 in
theorem v_X10_stands_2 {J : Nat → Lcl → List Value → Sg → Prop} {Q : Int32 → Sg → Prop} (c d k : Int32) (σ : Sg) (h : (k = (-1) → (¬ k = d → ((nI 0) = nI 0 ∨ (nI 0) = nI 1) ∧ Q (nI 0) σ) ∧ (k = d → ((nI 1) = nI 0 ∨ (nI 1) = nI 1) ∧ Q (nI 1) σ)) ∧ (¬ k = (-1) → (k = d → (¬ k = d → ((nI 0) = nI 0 ∨ (nI 0) = nI 1) ∧ Q (nI 0) σ) ∧ (k = d → ((nI 1) = nI 0 ∨ (nI 1) = nI 1) ∧ Q (nI 1) σ)) ∧ (¬ k = d → vp_in k 12 ∧ (J 2 [some (.ref 0), some (.int c), some (.int d), some (.int (σ 1 (k).toNatClampNeg))] [] σ)))) : kp_T1 layM gl_X10 pl_X10 (ms_X10_stands) tb_X10_stands (kp_rk (some .boolean)) J Q 30 2 [some (.ref 0), some (.int c), some (.int d), some (.int k)] [] σ := h
abbrev iv_X10_stands : List Value → Sg → Nat → Nat → Lcl → List Value → Sg → Prop := fun As σ n pc ls st τ => pc = 2 ∧ st = [] ∧ τ = σ ∧ ∃ (x y : Nat) (k : Int32), As = [.ref 0, .int (nI x), .int (nI y)] ∧ ls = [some (.ref 0), some (.int (nI x)), some (.int (nI y)), some (.int k)] ∧ x < 12 ∧ y < 12 ∧ ((k = -1 ∧ n = 0 ∧ wthn (σ 1) 12 x y = false) ∨ ∃ q, k = nI q ∧ q < tn (σ 0 2) ∧ n = q + 1 ∧ wthn (σ 1) 12 x y = wthn (σ 1) 12 q y)
set_option maxRecDepth 100000 in
set_option maxHeartbeats 4000000 in
theorem c_X10_stands : kp_Met layM 0 yX10_stands cX10_stands 4 (some .boolean) (pr_X10_stands) (po_X10_stands) := by
  refine kp_met (N := 30) (by decide) tk_X10_stands gk_X10 pk_X10 (mk_X10_stands) rfl (iv_X10_stands) ?_ ?_
  · rintro As σ ⟨c, d, rfl, hp⟩
    refine ⟨⟨rfl, Nat.le_of_ble_eq_true rfl⟩, v_X10_stands c d σ ?_⟩
    obtain ⟨hc, x, y, rfl, rfl, h1, h2⟩ := hp
    obtain ⟨n, hn, n1, n2, -, -⟩ := hc
    have en : tn (σ 0 2) = n := by rw [hn, tn_nI (by omega)]
    exact ⟨x + 1, rfl, rfl, rfl, x, y, nI x, rfl, rfl, by omega, by omega, Or.inr ⟨x, rfl, h1, rfl, rfl⟩⟩
  · rintro As σ ⟨c, d, rfl, hp⟩ n pc ls st τ hI
    obtain ⟨hc, -⟩ := hp
    obtain ⟨rfl, rfl, rfl, x, y, k, hAs, rfl, hx, hy, hw⟩ := hI
    cases hAs
    obtain ⟨m, hm, m1, m2, m3, m4⟩ := id hc
    have en : tn (τ 0 2) = m := by rw [hm, tn_nI (by omega)]
    have ex : tn (nI x) = x := tn_nI (by omega)
    have ey : tn (nI y) = y := tn_nI (by omega)
    refine v_X10_stands_2 _ _ _ τ ?_
    rcases hw with ⟨rfl, rfl, hw⟩ | ⟨q, rfl, hq, rfl, hw⟩
    · refine ⟨fun _ => ⟨fun _ => ⟨Or.inl rfl, rfl, by rw [ex, ey, hw]; rfl⟩, fun h => absurd h.symm (nI_m1 (by omega))⟩, fun h => absurd rfl h⟩
    · rw [en] at hq
      refine ⟨fun h => absurd h (nI_m1 (by omega)), fun _ => ⟨fun h => ⟨fun h2 => absurd h h2, fun _ => ⟨Or.inr rfl, rfl, ?_⟩⟩, fun h => ⟨(kp_in (by omega)).mpr (by omega), ?_⟩⟩⟩
      · rw [nI_eq (by omega) (by omega)] at h
        rw [ex, ey, hw, h, wthn_s _ 11 y y, if_pos rfl]; rfl
      · rw [nI_eq (by omega) (by omega)] at h
        rw [nI_clamp (show q < 2 ^ 31 by omega)]
        rw [wthn_s _ 11 q y, if_neg h] at hw
        by_cases h0 : q = 0
        · subst h0
          rw [m3, if_pos rfl] at hw
          exact ⟨0, by omega, rfl, rfl, rfl, x, y, -1, rfl, by rw [m3], hx, hy, Or.inl ⟨rfl, rfl, hw⟩⟩
        · obtain ⟨p, hp, he⟩ := m4 q (by omega) hq
          rw [he, if_neg (nI_m1 (by omega)), tn_nI (by omega), wthn_fuel hc 11 12 p y (by omega) (by omega) (by omega)] at hw
          exact ⟨p + 1, by omega, rfl, rfl, rfl, x, y, nI p, rfl, by rw [he], hx, hy, Or.inr ⟨p, rfl, by omega, rfl, hw⟩⟩
def pr_X10_meet : SPre := fun As σ => ∃ a : Int32, ∃ b : Int32, As = [.ref 0, .int a, .int b] ∧ (ctxOK (σ 1) (σ 0 2) ∧ ∃ x y : Nat, a = nI x ∧ b = nI y ∧ x < tn (σ 0 2) ∧ y < tn (σ 0 2))
def po_X10_meet : SPost := fun As σ r τ => match As with
  | [.ref _, .int a, .int b] => (τ = σ ∧ r = bI (meets (σ 1) (tn a) (tn b)))
  | _ => True
def ms_X10_meet : List Me := [(176, 0, 9, 2, true, pr_X10_stands, po_X10_stands)]
theorem mk_X10_meet : ∀ q ∈ ms_X10_meet, kp_okM layM RX10 1 q := List.forall_mem_cons.mpr ⟨Or.inl ⟨0, yX10_stands, cX10_stands, 4, (some .boolean), c_X10_stands, by omega, by decide, rfl, lk_X10_176⟩, fun _ h => absurd h List.not_mem_nil⟩
set_option maxRecDepth 100000 in
theorem v_X10_meet {J : Nat → Lcl → List Value → Sg → Prop} {Q : Int32 → Sg → Prop} (a b : Int32) (σ : Sg) (h : pr_X10_stands [.ref 0, .int a, .int b] σ ∧ ∀ (x2 : Int32) (τ1 : Sg), po_X10_stands [.ref 0, .int a, .int b] σ x2 τ1 → ((¬ x2 = (nI 0) → ((nI 1) = nI 0 ∨ (nI 1) = nI 1) ∧ Q (nI 1) τ1) ∧ (x2 = (nI 0) → pr_X10_stands [.ref 0, .int b, .int a] τ1 ∧ ∀ (x4 : Int32) (τ3 : Sg), po_X10_stands [.ref 0, .int b, .int a] τ1 x4 τ3 → ((x4 = (nI 0) → ((nI 0) = nI 0 ∨ (nI 0) = nI 1) ∧ Q (nI 0) τ3) ∧ (¬ x4 = (nI 0) → ((nI 1) = nI 0 ∨ (nI 1) = nI 1) ∧ Q (nI 1) τ3))))) : kp_T layM gl_X10 pl_X10 (ms_X10_meet) tb_X10_meet (kp_rk (some .boolean)) J Q 30 tb_X10_meet (kp_en [.ref 0, .int a, .int b] 3) [] σ := h
set_option maxRecDepth 100000 in
set_option maxHeartbeats 4000000 in
theorem c_X10_meet : kp_Met layM 1 yX10_meet cX10_meet 3 (some .boolean) (pr_X10_meet) (po_X10_meet) := by
  refine kp_met (N := 30) (by decide) tk_X10_meet gk_X10 pk_X10 (mk_X10_meet) rfl (fun _ _ _ _ _ _ _ => False) ?_ (fun _ _ _ _ _ _ _ _ h => h.elim)
  rintro As σ ⟨a, b, rfl, hp⟩
  refine ⟨⟨rfl, Nat.le_of_ble_eq_true rfl⟩, v_X10_meet a b σ ?_⟩
  obtain ⟨hc, x, y, rfl, rfl, h1, h2⟩ := hp
  refine ⟨⟨_, _, rfl, hc, x, y, rfl, rfl, h1, h2⟩, ?_⟩
  rintro x2 τ1 ⟨rfl, rfl⟩
  rw [bI_0]
  refine ⟨fun h => ⟨Or.inr rfl, rfl, ?_⟩, fun h => ⟨⟨_, _, rfl, hc, y, x, rfl, rfl, h2, h1⟩, ?_⟩⟩
  · unfold meets
    rw [show wthn (τ1 1) 12 (tn (nI x)) (tn (nI y)) = true by simpa using h]; rfl
  · rintro x4 τ3 ⟨rfl, rfl⟩
    rw [bI_0]
    refine ⟨fun g => ⟨Or.inl rfl, rfl, ?_⟩, fun g => ⟨Or.inr rfl, rfl, ?_⟩⟩
    · unfold meets; rw [h, g]; rfl
    · unfold meets; rw [h, show wthn (τ3 1) 12 (tn (nI y)) (tn (nI x)) = true by simpa using g]; rfl
def pr_X10_breaks : SPre := fun As σ => ∃ c : Int32, ∃ s : Int32, As = [.ref 0, .int c, .int s] ∧ ((∀ c, c < 40 → nn (σ 13 c)) ∧ ∃ k j : Nat, c = nI k ∧ k < 40 ∧ s = nI j ∧ j < 2 ^ 31)
def po_X10_breaks : SPost := fun As σ r τ => match As with
  | [.ref _, .int c, .int s] => (τ = σ ∧ r = bI (brk (σ 13) (tn c) (tn s)))
  | _ => True
def ms_X10_breaks : List Me := []
theorem mk_X10_breaks : ∀ q ∈ ms_X10_breaks, kp_okM layM RX10 0 q := fun _ h => absurd h List.not_mem_nil
set_option maxRecDepth 100000 in
theorem v_X10_breaks {J : Nat → Lcl → List Value → Sg → Prop} {Q : Int32 → Sg → Prop} (c s : Int32) (σ : Sg) (h : vp_in c 40 ∧ (((σ 13 (c).toNatClampNeg) = (nI 0) → ((nI 0) = nI 0 ∨ (nI 0) = nI 1) ∧ Q (nI 0) σ) ∧ (¬ (σ 13 (c).toNatClampNeg) = (nI 0) → vp_in c 40 ∧ (((σ 13 (c).toNatClampNeg) = s → ((nI 0) = nI 0 ∨ (nI 0) = nI 1) ∧ Q (nI 0) σ) ∧ (¬ (σ 13 (c).toNatClampNeg) = s → ((nI 1) = nI 0 ∨ (nI 1) = nI 1) ∧ Q (nI 1) σ))))) : kp_T layM gl_X10 pl_X10 (ms_X10_breaks) tb_X10_breaks (kp_rk (some .boolean)) J Q 30 tb_X10_breaks (kp_en [.ref 0, .int c, .int s] 3) [] σ := h
set_option maxRecDepth 100000 in
set_option maxHeartbeats 4000000 in
theorem c_X10_breaks : kp_Met layM 0 yX10_breaks cX10_breaks 3 (some .boolean) (pr_X10_breaks) (po_X10_breaks) := by
  refine kp_met (N := 30) (by decide) tk_X10_breaks gk_X10 pk_X10 (mk_X10_breaks) rfl (fun _ _ _ _ _ _ _ => False) ?_ (fun _ _ _ _ _ _ _ _ h => h.elim)
  rintro As σ ⟨c, s, rfl, hp⟩
  refine ⟨⟨rfl, Nat.le_of_ble_eq_true rfl⟩, v_X10_breaks c s σ ?_⟩
  obtain ⟨hc, k, j, rfl, hk, rfl, hj⟩ := hp
  have ek : (nI k).toNatClampNeg = k := nI_clamp (by omega)
  rw [ek]
  have h21 := hc k hk
  have e1 : σ 13 k = nI 0 ↔ tn (σ 13 k) = 0 := by rw [show (σ 13 k = nI 0) = (nI (tn (σ 13 k)) = nI 0) by rw [← h21], nI_eq (tn_lt _) (by omega)]
  have e2 : σ 13 k = nI j ↔ tn (σ 13 k) = j := by rw [show (σ 13 k = nI j) = (nI (tn (σ 13 k)) = nI j) by rw [← h21], nI_eq (tn_lt _) hj]
  rw [e1, e2]
  have tk : tn (nI k) = k := tn_nI (by omega)
  have tj : tn (nI j) = j := tn_nI hj
  refine ⟨(kp_in (by omega)).mpr hk, fun h1 => ⟨Or.inl rfl, rfl, ?_⟩, fun h1 => ⟨(kp_in (by omega)).mpr hk, fun h2 => ⟨Or.inl rfl, rfl, ?_⟩, fun h2 => ⟨Or.inr rfl, rfl, ?_⟩⟩⟩
  · rw [tk, tj, show brk (σ 13) k j = false from decide_eq_false (fun z => z.1 h1)]; rfl
  · rw [tk, tj, show brk (σ 13) k j = false from decide_eq_false (fun z => z.2 h2)]; rfl
  · rw [tk, tj, show brk (σ 13) k j = true from decide_eq_true ⟨h1, h2⟩]; rfl
def LM (σ : Sg) : Prop := ctxOK (σ 1) (σ 0 2) ∧ mOK (σ 2) (σ 3) (σ 4) (σ 0 8)
def pr_X10_meaning : SPre := fun As σ => ∃ ctx : Int32, ∃ row : Int32, As = [.ref 0, .int ctx, .int row] ∧ (LM σ ∧ ∃ c r : Nat, ctx = nI c ∧ c < tn (σ 0 2) ∧ row = nI r ∧ r < 16777216)
def po_X10_meaning : SPost := fun As σ r τ => match As with
  | [.ref _, .int ctx, .int row] => (τ = σ ∧ r = mean (σ 1) (mM σ) (tn row) 12 (tn ctx))
  | _ => True
def ms_X10_meaning : List Me := [(101, 0, 9, 2, true, pr_X10_hasFor, po_X10_hasFor)]
theorem mk_X10_meaning : ∀ q ∈ ms_X10_meaning, kp_okM layM RX10 2 q := List.forall_mem_cons.mpr ⟨Or.inl ⟨1, yX10_hasFor, cX10_hasFor, 4, (some .int), c_X10_hasFor, by omega, by decide, rfl, lk_X10_101⟩, fun _ h => absurd h List.not_mem_nil⟩
set_option maxRecDepth 100000 in
theorem v_X10_meaning {J : Nat → Lcl → List Value → Sg → Prop} {Q : Int32 → Sg → Prop} (ctx row : Int32) (σ : Sg) (h : J 2 [some (.ref 0), some (.int ctx), some (.int row), some (.int ctx), none] [] σ) : kp_T layM gl_X10 pl_X10 (ms_X10_meaning) tb_X10_meaning (kp_rk (some .int)) J Q 33 tb_X10_meaning (kp_en [.ref 0, .int ctx, .int row] 5) [] σ := h
set_option maxRecDepth 100000 in
theorem v_X10_meaning_2 {J : Nat → Lcl → List Value → Sg → Prop} {Q : Int32 → Sg → Prop} (ctx row c : Int32) (o4 : Option Value) (σ : Sg) (h : (c = (-1) → Q (-1) σ) ∧ (¬ c = (-1) → pr_X10_hasFor [.ref 0, .int c, .int row] σ ∧ ∀ (x2 : Int32) (τ1 : Sg), po_X10_hasFor [.ref 0, .int c, .int row] σ x2 τ1 → ((x2 = (-1) → vp_in c 12 ∧ (J 2 [some (.ref 0), some (.int ctx), some (.int row), some (.int (τ1 1 (c).toNatClampNeg)), some (.int x2)] [] τ1)) ∧ (¬ x2 = (-1) → (¬ x2 = (nI 40) → Q x2 τ1) ∧ (x2 = (nI 40) → Q (-1) τ1))))) : kp_T1 layM gl_X10 pl_X10 (ms_X10_meaning) tb_X10_meaning (kp_rk (some .int)) J Q 33 2 [some (.ref 0), some (.int ctx), some (.int row), some (.int c), o4] [] σ := h
abbrev iv_X10_meaning : List Value → Sg → Nat → Nat → Lcl → List Value → Sg → Prop := fun As σ n pc ls st τ => pc = 2 ∧ st = [] ∧ τ = σ ∧ ∃ (c0 r : Nat) (a1 : Int32) (o5 : Option Value), As = [.ref 0, .int (nI c0), .int (nI r)] ∧ ls = [some (.ref 0), some (.int (nI c0)), some (.int (nI r)), some (.int a1), o5] ∧ c0 < 12 ∧ r < 16777216 ∧ ((a1 = -1 ∧ n = 0 ∧ mean (σ 1) (mM σ) r 12 c0 = -1) ∨ ∃ c, a1 = nI c ∧ c < tn (σ 0 2) ∧ n = c + 1 ∧ mean (σ 1) (mM σ) r 12 c0 = mean (σ 1) (mM σ) r 12 c)
set_option maxRecDepth 100000 in
set_option maxHeartbeats 4000000 in
theorem c_X10_meaning : kp_Met layM 2 yX10_meaning cX10_meaning 5 (some .int) (pr_X10_meaning) (po_X10_meaning) := by
  refine kp_met (N := 33) (by decide) tk_X10_meaning gk_X10 pk_X10 (mk_X10_meaning) rfl (iv_X10_meaning) ?_ ?_
  · rintro As σ ⟨ctx, row, rfl, hp⟩
    refine ⟨⟨rfl, Nat.le_of_ble_eq_true rfl⟩, v_X10_meaning ctx row σ ?_⟩
    obtain ⟨hL, c, r, rfl, hc, rfl, hr⟩ := hp
    obtain ⟨n, hn, n1, n2, -, -⟩ := hL.1
    have en : tn (σ 0 2) = n := by rw [hn, tn_nI (by omega)]
    exact ⟨c + 1, rfl, rfl, rfl, c, r, nI c, none, rfl, rfl, by omega, hr, Or.inr ⟨c, rfl, hc, rfl, rfl⟩⟩
  · rintro As σ ⟨ctx, row, rfl, hp⟩ n pc ls st τ hI
    obtain ⟨⟨hc, hbo⟩, -⟩ := hp
    obtain ⟨rfl, rfl, rfl, c0, r, a1, o5, hAs, rfl, hc0, hr, hw⟩ := hI
    cases hAs
    obtain ⟨m, hm, m1, m2, m3, m4⟩ := id hc
    have en : tn (τ 0 2) = m := by rw [hm, tn_nI (by omega)]
    refine v_X10_meaning_2 _ _ _ o5 τ ?_
    have hQ : ∀ x, mean (τ 1) (mM τ) r 12 c0 = x → po_X10_meaning [.ref 0, .int (nI c0), .int (nI r)] τ x τ := by
      rintro x rfl
      exact ⟨rfl, by rw [tn_nI (show r < 2 ^ 31 by omega), tn_nI (show c0 < 2 ^ 31 by omega)]⟩
    rcases hw with ⟨rfl, rfl, hw⟩ | ⟨c, rfl, hlt, rfl, hw⟩
    · exact ⟨fun _ => hQ _ hw, fun h => absurd rfl h⟩
    · rw [en] at hlt
      refine ⟨fun h => absurd h (nI_m1 (by omega)), fun _ => ⟨⟨_, _, rfl, hbo, c, r, rfl, by omega, rfl, hr⟩, ?_⟩⟩
      rintro x2 τ1 ⟨rfl, rfl⟩
      rw [tn_nI (show c < 2 ^ 31 by omega), tn_nI (show r < 2 ^ 31 by omega), nI_clamp (show c < 2 ^ 31 by omega)]
      rw [mean_s _ _ r 11 c] at hw
      refine ⟨fun h5 => ⟨(kp_in (by omega)).mpr (by omega), ?_⟩, fun h5 => ⟨fun h6 => hQ _ (by rw [hw, if_neg h5, if_neg h6]), fun h6 => hQ _ (by rw [hw, if_neg h5, if_pos h6])⟩⟩
      rw [if_pos h5] at hw
      by_cases h0 : c = 0
      · subst h0
        rw [m3, if_pos rfl] at hw
        exact ⟨0, by omega, rfl, rfl, rfl, c0, r, -1, _, rfl, by rw [m3], hc0, hr, Or.inl ⟨rfl, rfl, hw⟩⟩
      · obtain ⟨p, hp, he⟩ := m4 c (by omega) hlt
        rw [he, if_neg (nI_m1 (by omega)), tn_nI (by omega), mean_fuel hc 11 12 p (by omega) (by omega) (by omega)] at hw
        exact ⟨p + 1, by omega, rfl, rfl, rfl, c0, r, nI p, _, rfl, by rw [he], hc0, hr, Or.inr ⟨p, rfl, by omega, rfl, hw⟩⟩
