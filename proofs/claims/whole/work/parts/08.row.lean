/-! rows: KeyPlan$Row, and what a row is -/
def rowOK (r : Nat) : Bool := decide (1 ≤ r % 256 ∧ r % 256 ≤ 240 ∧ r / 256 % 256 ≤ 240 ∧ r / 65536 ≤ 240 ∧ (r / 256 % 256 = 0 → r / 65536 = 0))
def rlen (r : Nat) : Nat := if r % 256 = 0 then 0 else if r / 256 % 256 = 0 then 1 else if r / 65536 % 256 = 0 then 2 else 3
def isRw (x : Int32) : Bool := !decide (x < nI 1) && rowOK (tn x)
def isSt (x : Int32) : Bool := !decide (x < nI 1) && !decide (nI 240 < x)
theorem rowOK_iff {r : Nat} : rowOK r = true ↔ 1 ≤ r % 256 ∧ r % 256 ≤ 240 ∧ r / 256 % 256 ≤ 240 ∧ r / 65536 ≤ 240 ∧ (r / 256 % 256 = 0 → r / 65536 = 0) := decide_eq_true_iff
theorem rowOK_lt {r : Nat} (h : rowOK r = true) : r < 16777216 := by have := rowOK_iff.mp h; omega
theorem rlen_le (r : Nat) : rlen r ≤ 3 := by unfold rlen; split <;> (try split) <;> (try split) <;> omega
def pr_X7_isStroke : SPre := fun As σ => ∃ x : Int32, As = [.int x] ∧ (True)
def po_X7_isStroke : SPost := fun As σ r τ => match As with
  | [.int x] => (τ = σ ∧ r = bI (isSt x))
  | _ => True
def ms_X7_isStroke : List Me := []
theorem mk_X7_isStroke : ∀ q ∈ ms_X7_isStroke, kp_okM layC RX7 0 q := fun _ h => absurd h List.not_mem_nil
set_option maxRecDepth 100000 in
theorem v_X7_isStroke {J : Nat → Lcl → List Value → Sg → Prop} {Q : Int32 → Sg → Prop} (x : Int32) (σ : Sg) (h : (x < (nI 1) → ((nI 0) = nI 0 ∨ (nI 0) = nI 1) ∧ Q (nI 0) σ) ∧ (¬ x < (nI 1) → ((nI 240) < x → ((nI 0) = nI 0 ∨ (nI 0) = nI 1) ∧ Q (nI 0) σ) ∧ (¬ (nI 240) < x → ((nI 1) = nI 0 ∨ (nI 1) = nI 1) ∧ Q (nI 1) σ))) : kp_T layC gl_X7 pl_X7 (ms_X7_isStroke) tb_X7_isStroke (kp_rk (some .boolean)) J Q 30 tb_X7_isStroke (kp_en [.int x] 1) [] σ := h
set_option maxRecDepth 100000 in
set_option maxHeartbeats 4000000 in
theorem c_X7_isStroke : kp_Met layC 0 yX7_isStroke cX7_isStroke 1 (some .boolean) (pr_X7_isStroke) (po_X7_isStroke) := by
  refine kp_met (N := 30) (by decide) tk_X7_isStroke gk_X7 pk_X7 (mk_X7_isStroke) rfl (fun _ _ _ _ _ _ _ => False) ?_ (fun _ _ _ _ _ _ _ _ h => h.elim)
  rintro As σ ⟨x, rfl, hp⟩
  refine ⟨⟨rfl, Nat.le_of_ble_eq_true rfl⟩, v_X7_isStroke x σ ?_⟩
  refine ⟨fun h1 => ⟨Or.inl rfl, rfl, ?_⟩, fun h1 => ⟨fun h2 => ⟨Or.inl rfl, rfl, ?_⟩, fun h2 => ⟨Or.inr rfl, rfl, ?_⟩⟩⟩
  · simp [isSt, h1, bI]
  · simp [isSt, h1, h2, bI]
  · simp [isSt, h1, h2, bI]
def pr_X7_strokeAt : SPre := fun As σ => ∃ row : Int32, ∃ i : Int32, As = [.int row, .int i] ∧ (∃ r k : Nat, row = nI r ∧ r < 16777216 ∧ i = nI k ∧ k < 3)
def po_X7_strokeAt : SPost := fun As σ r τ => match As with
  | [.int row, .int i] => (τ = σ ∧ r = nI (tn row / 256 ^ tn i % 256))
  | _ => True
def ms_X7_strokeAt : List Me := []
theorem mk_X7_strokeAt : ∀ q ∈ ms_X7_strokeAt, kp_okM layC RX7 0 q := fun _ h => absurd h List.not_mem_nil
set_option maxRecDepth 100000 in
theorem v_X7_strokeAt {J : Nat → Lcl → List Value → Sg → Prop} {Q : Int32 → Sg → Prop} (row i : Int32) (σ : Sg) (h : Q (((Int32.toUInt32 row >>> (Int32.toUInt32 ((nI 8) * i) &&& Int32.toUInt32 31)).toInt32) &&& (nI 255)) σ) : kp_T layC gl_X7 pl_X7 (ms_X7_strokeAt) tb_X7_strokeAt (kp_rk (some .int)) J Q 30 tb_X7_strokeAt (kp_en [.int row, .int i] 2) [] σ := h
set_option maxRecDepth 100000 in
set_option maxHeartbeats 4000000 in
theorem c_X7_strokeAt : kp_Met layC 0 yX7_strokeAt cX7_strokeAt 2 (some .int) (pr_X7_strokeAt) (po_X7_strokeAt) := by
  refine kp_met (N := 30) (by decide) tk_X7_strokeAt gk_X7 pk_X7 (mk_X7_strokeAt) rfl (fun _ _ _ _ _ _ _ => False) ?_ (fun _ _ _ _ _ _ _ _ h => h.elim)
  rintro As σ ⟨row, i, rfl, hp⟩
  refine ⟨⟨rfl, Nat.le_of_ble_eq_true rfl⟩, v_X7_strokeAt row i σ ?_⟩
  obtain ⟨r, k, rfl, hr, rfl, hk⟩ := hp
  refine ⟨rfl, ?_⟩
  rw [tn_nI (by omega), tn_nI (by omega), pk_mul]
  rcases (show k = 0 ∨ k = 1 ∨ k = 2 by omega) with rfl | rfl | rfl
  · rw [pk_ushrN (by omega) _ 0 rfl, pk_andN (by omega) 8 rfl]
  · rw [pk_ushrN (by omega) _ 8 rfl, pk_andN (by omega) 8 rfl]
  · rw [pk_ushrN (by omega) _ 16 rfl, pk_andN (by omega) 8 rfl]
def pr_X7_length : SPre := fun As σ => ∃ row : Int32, As = [.int row] ∧ (∃ r : Nat, row = nI r ∧ r < 16777216)
def po_X7_length : SPost := fun As σ r τ => match As with
  | [.int row] => (τ = σ ∧ r = nI (rlen (tn row)))
  | _ => True
def ms_X7_length : List Me := [(10, 1, 0, 2, true, pr_X7_strokeAt, po_X7_strokeAt)]
theorem mk_X7_length : ∀ q ∈ ms_X7_length, kp_okM layC RX7 1 q := List.forall_mem_cons.mpr ⟨Or.inl ⟨0, yX7_strokeAt, cX7_strokeAt, 2, (some .int), c_X7_strokeAt, by omega, by decide, rfl, lk_X7_10⟩, fun _ h => absurd h List.not_mem_nil⟩
set_option maxRecDepth 100000 in
theorem v_X7_length {J : Nat → Lcl → List Value → Sg → Prop} {Q : Int32 → Sg → Prop} (row : Int32) (σ : Sg) (h : J 2 [some (.int row), some (.int (nI 0))] [] σ) : kp_T layC gl_X7 pl_X7 (ms_X7_length) tb_X7_length (kp_rk (some .int)) J Q 30 tb_X7_length (kp_en [.int row] 2) [] σ := h
set_option maxRecDepth 100000 in
theorem v_X7_length_2 {J : Nat → Lcl → List Value → Sg → Prop} {Q : Int32 → Sg → Prop} (row k : Int32) (σ : Sg) (h : (¬ k < (nI 3) → Q k σ) ∧ (k < (nI 3) → pr_X7_strokeAt [.int row, .int k] σ ∧ ∀ (x2 : Int32) (τ1 : Sg), po_X7_strokeAt [.int row, .int k] σ x2 τ1 → ((x2 = (nI 0) → Q k τ1) ∧ (¬ x2 = (nI 0) → J 2 [some (.int row), some (.int (k + nI 1))] [] τ1)))) : kp_T1 layC gl_X7 pl_X7 (ms_X7_length) tb_X7_length (kp_rk (some .int)) J Q 30 2 [some (.int row), some (.int k)] [] σ := h
abbrev iv_X7_length : List Value → Sg → Nat → Nat → Lcl → List Value → Sg → Prop := fun As σ n pc ls st τ => pc = 2 ∧ st = [] ∧ τ = σ ∧ ∃ (r k : Nat), r < 16777216 ∧ As = [.int (nI r)] ∧ ls = [some (.int (nI r)), some (.int (nI k))] ∧ k ≤ 3 ∧ n = 3 - k ∧ (∀ j, j < k → ¬ r / 256 ^ j % 256 = 0)
set_option maxRecDepth 100000 in
set_option maxHeartbeats 4000000 in
theorem c_X7_length : kp_Met layC 1 yX7_length cX7_length 2 (some .int) (pr_X7_length) (po_X7_length) := by
  refine kp_met (N := 30) (by decide) tk_X7_length gk_X7 pk_X7 (mk_X7_length) rfl (iv_X7_length) ?_ ?_
  · rintro As σ ⟨row, rfl, hp⟩
    refine ⟨⟨rfl, Nat.le_of_ble_eq_true rfl⟩, v_X7_length row σ ?_⟩
    obtain ⟨r, rfl, hr⟩ := hp
    exact ⟨3, rfl, rfl, rfl, r, 0, hr, rfl, rfl, by omega, rfl, fun j hj => by omega⟩
  · rintro As σ ⟨row, rfl, hp⟩ n pc ls st τ hI
    obtain ⟨rfl, rfl, rfl, r, k, hr, hAs, rfl, hk, rfl, hj⟩ := hI
    cases hAs
    refine v_X7_length_2 _ _ τ ⟨fun h1 => ⟨rfl, ?_⟩, fun h1 => ⟨⟨_, _, rfl, r, k, rfl, hr, rfl, ?_⟩, ?_⟩⟩
    · rw [nI_ltI (by omega) (by omega)] at h1
      have h3 : k = 3 := by omega
      subst h3
      have a0 := hj 0 (by omega)
      have a1 := hj 1 (by omega)
      have a2 := hj 2 (by omega)
      rw [tn_nI (by omega)]
      unfold rlen
      simp only [Nat.pow_zero, Nat.div_one, Nat.reducePow] at a0 a1 a2
      rw [if_neg a0, if_neg a1, if_neg a2]
    · rw [nI_ltI (by omega) (by omega)] at h1
      omega
    · rw [nI_ltI (by omega) (by omega)] at h1
      rintro x τ1 ⟨rfl, rfl⟩
      rw [tn_nI (by omega), tn_nI (by omega), nI_eq (by omega) (by omega)]
      refine ⟨fun h2 => ⟨rfl, ?_⟩, fun h2 => ⟨3 - (k + 1), by omega, rfl, rfl, rfl, r, k + 1, hr, rfl, by rw [nI_add], by omega, rfl, fun j hj2 => ?_⟩⟩
      · rw [tn_nI (by omega)]
        unfold rlen
        rcases (show k = 0 ∨ k = 1 ∨ k = 2 by omega) with rfl | rfl | rfl
        · simp only [Nat.pow_zero, Nat.div_one] at h2
          rw [if_pos h2]
        · have a0 := hj 0 (by omega)
          simp only [Nat.pow_zero, Nat.div_one, Nat.reducePow] at a0 h2
          rw [if_neg a0, if_pos h2]
        · have a0 := hj 0 (by omega)
          have a1 := hj 1 (by omega)
          simp only [Nat.pow_zero, Nat.div_one, Nat.reducePow] at a0 a1 h2
          rw [if_neg a0, if_neg a1, if_pos h2]
      · by_cases hjk : j = k
        · subst hjk; exact h2
        · exact hj j (by omega)
def pr_X7_beginning : SPre := fun As σ => ∃ row : Int32, ∃ len : Int32, As = [.int row, .int len] ∧ (∃ r k : Nat, row = nI r ∧ r < 16777216 ∧ len = nI k ∧ k ≤ 3)
def po_X7_beginning : SPost := fun As σ r τ => match As with
  | [.int row, .int len] => (τ = σ ∧ r = nI (tn row % 256 ^ tn len))
  | _ => True
def ms_X7_beginning : List Me := []
theorem mk_X7_beginning : ∀ q ∈ ms_X7_beginning, kp_okM layC RX7 0 q := fun _ h => absurd h List.not_mem_nil
set_option maxRecDepth 100000 in
theorem v_X7_beginning {J : Nat → Lcl → List Value → Sg → Prop} {Q : Int32 → Sg → Prop} (row len : Int32) (σ : Sg) (h : Q (row &&& (((nI 1) <<< (((nI 8) * len) &&& 31)) - (nI 1))) σ) : kp_T layC gl_X7 pl_X7 (ms_X7_beginning) tb_X7_beginning (kp_rk (some .int)) J Q 30 tb_X7_beginning (kp_en [.int row, .int len] 2) [] σ := h
set_option maxRecDepth 100000 in
set_option maxHeartbeats 4000000 in
theorem c_X7_beginning : kp_Met layC 0 yX7_beginning cX7_beginning 2 (some .int) (pr_X7_beginning) (po_X7_beginning) := by
  refine kp_met (N := 30) (by decide) tk_X7_beginning gk_X7 pk_X7 (mk_X7_beginning) rfl (fun _ _ _ _ _ _ _ => False) ?_ (fun _ _ _ _ _ _ _ _ h => h.elim)
  rintro As σ ⟨row, len, rfl, hp⟩
  refine ⟨⟨rfl, Nat.le_of_ble_eq_true rfl⟩, v_X7_beginning row len σ ?_⟩
  obtain ⟨r, k, rfl, hr, rfl, hk⟩ := hp
  refine ⟨rfl, ?_⟩
  rw [tn_nI (by omega), tn_nI (by omega)]
  rcases (show k = 0 ∨ k = 1 ∨ k = 2 ∨ k = 3 by omega) with rfl | rfl | rfl | rfl
  · exact pk_andN (by omega) 0 (by decide)
  · exact pk_andN (by omega) 8 (by decide)
  · exact pk_andN (by omega) 16 (by decide)
  · exact pk_andN (by omega) 24 (by decide)
def pr_X7_withoutBeginning : SPre := fun As σ => ∃ row : Int32, ∃ len : Int32, As = [.int row, .int len] ∧ (∃ r k : Nat, row = nI r ∧ r < 16777216 ∧ len = nI k ∧ k ≤ 3)
def po_X7_withoutBeginning : SPost := fun As σ r τ => match As with
  | [.int row, .int len] => (τ = σ ∧ r = nI (tn row / 256 ^ tn len))
  | _ => True
def ms_X7_withoutBeginning : List Me := []
theorem mk_X7_withoutBeginning : ∀ q ∈ ms_X7_withoutBeginning, kp_okM layC RX7 0 q := fun _ h => absurd h List.not_mem_nil
set_option maxRecDepth 100000 in
theorem v_X7_withoutBeginning {J : Nat → Lcl → List Value → Sg → Prop} {Q : Int32 → Sg → Prop} (row len : Int32) (σ : Sg) (h : Q ((Int32.toUInt32 row >>> (Int32.toUInt32 ((nI 8) * len) &&& Int32.toUInt32 31)).toInt32) σ) : kp_T layC gl_X7 pl_X7 (ms_X7_withoutBeginning) tb_X7_withoutBeginning (kp_rk (some .int)) J Q 30 tb_X7_withoutBeginning (kp_en [.int row, .int len] 2) [] σ := h
set_option maxRecDepth 100000 in
set_option maxHeartbeats 4000000 in
theorem c_X7_withoutBeginning : kp_Met layC 0 yX7_withoutBeginning cX7_withoutBeginning 2 (some .int) (pr_X7_withoutBeginning) (po_X7_withoutBeginning) := by
  refine kp_met (N := 30) (by decide) tk_X7_withoutBeginning gk_X7 pk_X7 (mk_X7_withoutBeginning) rfl (fun _ _ _ _ _ _ _ => False) ?_ (fun _ _ _ _ _ _ _ _ h => h.elim)
  rintro As σ ⟨row, len, rfl, hp⟩
  refine ⟨⟨rfl, Nat.le_of_ble_eq_true rfl⟩, v_X7_withoutBeginning row len σ ?_⟩
  obtain ⟨r, k, rfl, hr, rfl, hk⟩ := hp
  refine ⟨rfl, ?_⟩
  rw [tn_nI (by omega), tn_nI (by omega)]
  rcases (show k = 0 ∨ k = 1 ∨ k = 2 ∨ k = 3 by omega) with rfl | rfl | rfl | rfl
  · exact pk_ushrN (by omega) _ 0 (by decide)
  · exact pk_ushrN (by omega) _ 8 (by decide)
  · exact pk_ushrN (by omega) _ 16 (by decide)
  · exact pk_ushrN (by omega) _ 24 (by decide)
theorem nI_or (a b : Nat) (ha : a < 2 ^ 32) (hb : b < 2 ^ 32) : nI a ||| nI b = nI (a ||| b) := by
  apply Int32.toBitVec_inj.mp
  apply BitVec.eq_of_toNat_eq
  have hab : a ||| b < 2 ^ 32 := Nat.or_lt_two_pow ha hb
  rw [Int32.toBitVec_or, BitVec.toNat_or, pk_tn ha, pk_tn hb, pk_tn hab]
theorem nI_orp (a b k : Nat) (ha : a < 2 ^ k) (hk : b * 2 ^ k < 2 ^ 32) (h32 : k ≤ 32) : nI a ||| nI (b * 2 ^ k) = nI (a + b * 2 ^ k) := by
  have h1 : a < 2 ^ 32 := Nat.lt_of_lt_of_le ha (Nat.pow_le_pow_right (by decide) h32)
  rw [nI_or a _ h1 hk, Nat.or_comm, Nat.mul_comm b, ← Nat.two_pow_add_eq_or_of_lt ha, Nat.add_comm]
theorem rlen_cases (r : Nat) (h : r < 256 ^ rlen r) (h2 : r < 65536) : (rlen r = 0 ∧ r = 0) ∨ (rlen r = 1 ∧ r < 256 ∧ r ≠ 0) ∨ (rlen r = 2 ∧ 256 ≤ r ∧ r % 256 ≠ 0) := by
  unfold rlen at h ⊢
  split at h
  · rename_i h0
    rw [if_pos h0]
    left; omega
  · rename_i h0
    rw [if_neg h0]
    split at h
    · rename_i h1
      rw [if_pos h1]
      right; left; omega
    · rename_i h1
      rw [if_neg h1]
      split at h
      · rename_i h3
        rw [if_pos h3]
        right; right; omega
      · rename_i h3
        exact absurd (show r / 65536 % 256 = 0 by omega) h3
def pr_X7_withStroke : SPre := fun As σ => ∃ row : Int32, ∃ stroke : Int32, As = [.int row, .int stroke] ∧ (∃ r s : Nat, row = nI r ∧ r < 65536 ∧ r < 256 ^ rlen r ∧ stroke = nI s ∧ s < 256)
def po_X7_withStroke : SPost := fun As σ r τ => match As with
  | [.int row, .int stroke] => (τ = σ ∧ r = nI (tn row + tn stroke * 256 ^ rlen (tn row)))
  | _ => True
def ms_X7_withStroke : List Me := [(20, 1, 0, 1, true, pr_X7_length, po_X7_length)]
theorem mk_X7_withStroke : ∀ q ∈ ms_X7_withStroke, kp_okM layC RX7 2 q := List.forall_mem_cons.mpr ⟨Or.inl ⟨1, yX7_length, cX7_length, 2, (some .int), c_X7_length, by omega, by decide, rfl, lk_X7_20⟩, fun _ h => absurd h List.not_mem_nil⟩
set_option maxRecDepth 100000 in
theorem v_X7_withStroke {J : Nat → Lcl → List Value → Sg → Prop} {Q : Int32 → Sg → Prop} (row stroke : Int32) (σ : Sg) (h : pr_X7_length [.int row] σ ∧ ∀ (x2 : Int32) (τ1 : Sg), po_X7_length [.int row] σ x2 τ1 → (Q (row ||| (stroke <<< (((nI 8) * x2) &&& 31))) τ1)) : kp_T layC gl_X7 pl_X7 (ms_X7_withStroke) tb_X7_withStroke (kp_rk (some .int)) J Q 30 tb_X7_withStroke (kp_en [.int row, .int stroke] 2) [] σ := h
set_option maxRecDepth 100000 in
set_option maxHeartbeats 4000000 in
theorem c_X7_withStroke : kp_Met layC 2 yX7_withStroke cX7_withStroke 2 (some .int) (pr_X7_withStroke) (po_X7_withStroke) := by
  refine kp_met (N := 30) (by decide) tk_X7_withStroke gk_X7 pk_X7 (mk_X7_withStroke) rfl (fun _ _ _ _ _ _ _ => False) ?_ (fun _ _ _ _ _ _ _ _ h => h.elim)
  rintro As σ ⟨row, stroke, rfl, hp⟩
  refine ⟨⟨rfl, Nat.le_of_ble_eq_true rfl⟩, v_X7_withStroke row stroke σ ?_⟩
  obtain ⟨r, s, rfl, hr, hrl, rfl, hs⟩ := hp
  refine ⟨⟨_, rfl, r, rfl, by omega⟩, ?_⟩
  rintro x τ1 ⟨rfl, rfl⟩
  refine ⟨rfl, ?_⟩
  rw [tn_nI (show r < 2 ^ 31 by omega), tn_nI (show s < 2 ^ 31 by omega)]
  rcases rlen_cases r hrl hr with ⟨e, h⟩ | ⟨e, h⟩ | ⟨e, h⟩
  · rw [e, show nI s <<< (nI 8 * nI 0 &&& 31) = nI (s * 2 ^ 0) from pk_shlN _ 0 (by decide) (by omega)]
    exact nI_orp r s 0 (by omega) (by omega) (by omega)
  · rw [e, show nI s <<< (nI 8 * nI 1 &&& 31) = nI (s * 2 ^ 8) from pk_shlN _ 8 (by decide) (by omega)]
    exact nI_orp r s 8 (by omega) (by omega) (by omega)
  · rw [e, show nI s <<< (nI 8 * nI 2 &&& 31) = nI (s * 2 ^ 16) from pk_shlN _ 16 (by decide) (by omega)]
    exact nI_orp r s 16 (by omega) (by omega) (by omega)
def pr_X7_beginsWith : SPre := fun As σ => ∃ row : Int32, ∃ line : Int32, As = [.int row, .int line] ∧ (∃ r l : Nat, row = nI r ∧ r < 16777216 ∧ line = nI l ∧ l < 16777216)
def po_X7_beginsWith : SPost := fun As σ r τ => match As with
  | [.int row, .int line] => (τ = σ ∧ r = bI (decide (tn row % 256 ^ rlen (tn line) = tn line)))
  | _ => True
def ms_X7_beginsWith : List Me := [(20, 1, 0, 1, true, pr_X7_length, po_X7_length), (24, 1, 0, 2, true, pr_X7_beginning, po_X7_beginning)]
theorem mk_X7_beginsWith : ∀ q ∈ ms_X7_beginsWith, kp_okM layC RX7 2 q := List.forall_mem_cons.mpr ⟨Or.inl ⟨1, yX7_length, cX7_length, 2, (some .int), c_X7_length, by omega, by decide, rfl, lk_X7_20⟩, List.forall_mem_cons.mpr ⟨Or.inl ⟨0, yX7_beginning, cX7_beginning, 2, (some .int), c_X7_beginning, by omega, by decide, rfl, lk_X7_24⟩, fun _ h => absurd h List.not_mem_nil⟩⟩
set_option maxRecDepth 100000 in
theorem v_X7_beginsWith {J : Nat → Lcl → List Value → Sg → Prop} {Q : Int32 → Sg → Prop} (row line : Int32) (σ : Sg) (h : pr_X7_length [.int line] σ ∧ ∀ (x2 : Int32) (τ1 : Sg), po_X7_length [.int line] σ x2 τ1 → (pr_X7_beginning [.int row, .int x2] τ1 ∧ ∀ (x4 : Int32) (τ3 : Sg), po_X7_beginning [.int row, .int x2] τ1 x4 τ3 → ((¬ x4 = line → ((nI 0) = nI 0 ∨ (nI 0) = nI 1) ∧ Q (nI 0) τ3) ∧ (x4 = line → ((nI 1) = nI 0 ∨ (nI 1) = nI 1) ∧ Q (nI 1) τ3)))) : kp_T layC gl_X7 pl_X7 (ms_X7_beginsWith) tb_X7_beginsWith (kp_rk (some .boolean)) J Q 30 tb_X7_beginsWith (kp_en [.int row, .int line] 2) [] σ := h
set_option maxRecDepth 100000 in
set_option maxHeartbeats 4000000 in
theorem c_X7_beginsWith : kp_Met layC 2 yX7_beginsWith cX7_beginsWith 2 (some .boolean) (pr_X7_beginsWith) (po_X7_beginsWith) := by
  refine kp_met (N := 30) (by decide) tk_X7_beginsWith gk_X7 pk_X7 (mk_X7_beginsWith) rfl (fun _ _ _ _ _ _ _ => False) ?_ (fun _ _ _ _ _ _ _ _ h => h.elim)
  rintro As σ ⟨row, line, rfl, hp⟩
  refine ⟨⟨rfl, Nat.le_of_ble_eq_true rfl⟩, v_X7_beginsWith row line σ ?_⟩
  obtain ⟨r, l, rfl, hr, rfl, hl⟩ := hp
  refine ⟨⟨_, rfl, l, rfl, hl⟩, ?_⟩
  rintro x τ1 ⟨rfl, rfl⟩
  rw [tn_nI (show l < 2 ^ 31 by omega)]
  refine ⟨⟨_, _, rfl, r, rlen l, rfl, hr, rfl, rlen_le l⟩, ?_⟩
  rintro x τ2 ⟨rfl, rfl⟩
  rw [tn_nI (show r < 2 ^ 31 by omega), tn_nI (show rlen l < 2 ^ 31 by have := rlen_le l; omega)]
  have hlt : r % 256 ^ rlen l < 2 ^ 31 := Nat.lt_of_le_of_lt (Nat.mod_le _ _) (by omega)
  refine ⟨fun h1 => ⟨Or.inl rfl, rfl, ?_⟩, fun h1 => ⟨Or.inr rfl, rfl, ?_⟩⟩
  · rw [nI_eq hlt (by omega)] at h1
    rw [tn_nI (show l < 2 ^ 31 by omega), tn_nI (show r < 2 ^ 31 by omega), decide_eq_false h1]
    rfl
  · rw [nI_eq hlt (by omega)] at h1
    rw [tn_nI (show l < 2 ^ 31 by omega), tn_nI (show r < 2 ^ 31 by omega), decide_eq_true h1]
    rfl
theorem isRw_nI {r : Nat} (h : 1 ≤ r) (h2 : r < 2 ^ 31) : isRw (nI r) = rowOK r := by
  unfold isRw
  rw [tn_nI h2, decide_eq_false (by rw [nI_ltI h2 (by omega)]; omega)]
  rfl
theorem isSt_nI {s : Nat} (h2 : s < 2 ^ 31) : isSt (nI s) = decide (1 ≤ s ∧ s ≤ 240) := by
  unfold isSt
  rw [Bool.eq_iff_iff]
  simp only [Bool.and_eq_true, Bool.not_eq_true', decide_eq_false_iff_not, decide_eq_true_eq]
  rw [nI_ltI h2 (by omega), nI_ltI (by omega) h2]
  omega
theorem isRw_big {x : Int32} (h : nI 16777215 < x) : isRw x = false := by
  have h0 : ¬ x < nI 0 := by rw [lt_I, nI_toInt (by omega)] at h ⊢; omega
  rw [← nI_tn h0, nI_ltI (by omega) (tn_lt x)] at h
  unfold isRw
  rw [show rowOK (tn x) = false from decide_eq_false (by omega)]
  cases (!decide (x < nI 1)) <;> rfl
theorem isRw_spec {x : Int32} (h : isRw x = true) : ∃ r : Nat, x = nI r ∧ rowOK r = true := by
  unfold isRw at h
  obtain ⟨h1, h2⟩ := kp_and2 h
  have h3 : ¬ x < nI 1 := by simpa using h1
  refine ⟨tn x, (nI_tn ?_).symm, h2⟩
  rw [lt_I, nI_toInt (by omega)] at h3 ⊢
  omega
def pr_X7_isRow : SPre := fun As σ => ∃ row : Int32, As = [.int row] ∧ (True)
def po_X7_isRow : SPost := fun As σ r τ => match As with
  | [.int row] => (τ = σ ∧ r = bI (isRw row))
  | _ => True
def ms_X7_isRow : List Me := [(10, 1, 0, 2, true, pr_X7_strokeAt, po_X7_strokeAt), (16, 1, 0, 1, true, pr_X7_isStroke, po_X7_isStroke)]
theorem mk_X7_isRow : ∀ q ∈ ms_X7_isRow, kp_okM layC RX7 1 q := List.forall_mem_cons.mpr ⟨Or.inl ⟨0, yX7_strokeAt, cX7_strokeAt, 2, (some .int), c_X7_strokeAt, by omega, by decide, rfl, lk_X7_10⟩, List.forall_mem_cons.mpr ⟨Or.inl ⟨0, yX7_isStroke, cX7_isStroke, 1, (some .boolean), c_X7_isStroke, by omega, by decide, rfl, lk_X7_16⟩, fun _ h => absurd h List.not_mem_nil⟩⟩
set_option maxRecDepth 100000 in
theorem v_X7_isRow {J : Nat → Lcl → List Value → Sg → Prop} {Q : Int32 → Sg → Prop} (row : Int32) (σ : Sg) (h : (row < (nI 1) → ((nI 0) = nI 0 ∨ (nI 0) = nI 1) ∧ Q (nI 0) σ) ∧ (¬ row < (nI 1) → (¬ (nI 16777215) < row → pr_X7_strokeAt [.int row, .int (nI 1)] σ ∧ ∀ (x2 : Int32) (τ1 : Sg), po_X7_strokeAt [.int row, .int (nI 1)] σ x2 τ1 → (pr_X7_strokeAt [.int row, .int (nI 2)] τ1 ∧ ∀ (x4 : Int32) (τ3 : Sg), po_X7_strokeAt [.int row, .int (nI 2)] τ1 x4 τ3 → ((¬ x2 = (nI 0) → pr_X7_strokeAt [.int row, .int (nI 0)] τ3 ∧ ∀ (x6 : Int32) (τ5 : Sg), po_X7_strokeAt [.int row, .int (nI 0)] τ3 x6 τ5 → (pr_X7_isStroke [.int x6] τ5 ∧ ∀ (x8 : Int32) (τ7 : Sg), po_X7_isStroke [.int x6] τ5 x8 τ7 → ((x8 = (nI 0) → ((nI 0) = nI 0 ∨ (nI 0) = nI 1) ∧ Q (nI 0) τ7) ∧ (¬ x8 = (nI 0) → ((nI 240) < x2 → ((nI 0) = nI 0 ∨ (nI 0) = nI 1) ∧ Q (nI 0) τ7) ∧ (¬ (nI 240) < x2 → ((nI 240) < x4 → ((nI 0) = nI 0 ∨ (nI 0) = nI 1) ∧ Q (nI 0) τ7) ∧ (¬ (nI 240) < x4 → ((nI 1) = (nI 0) → ((nI 0) = nI 0 ∨ (nI 0) = nI 1) ∧ Q (nI 0) τ7) ∧ (¬ (nI 1) = (nI 0) → ((nI 1) = nI 0 ∨ (nI 1) = nI 1) ∧ Q (nI 1) τ7))))))) ∧ (x2 = (nI 0) → (¬ x4 = (nI 0) → pr_X7_strokeAt [.int row, .int (nI 0)] τ3 ∧ ∀ (x10 : Int32) (τ9 : Sg), po_X7_strokeAt [.int row, .int (nI 0)] τ3 x10 τ9 → (pr_X7_isStroke [.int x10] τ9 ∧ ∀ (x12 : Int32) (τ11 : Sg), po_X7_isStroke [.int x10] τ9 x12 τ11 → ((x12 = (nI 0) → ((nI 0) = nI 0 ∨ (nI 0) = nI 1) ∧ Q (nI 0) τ11) ∧ (¬ x12 = (nI 0) → ((nI 240) < x2 → ((nI 0) = nI 0 ∨ (nI 0) = nI 1) ∧ Q (nI 0) τ11) ∧ (¬ (nI 240) < x2 → ((nI 240) < x4 → ((nI 0) = nI 0 ∨ (nI 0) = nI 1) ∧ Q (nI 0) τ11) ∧ (¬ (nI 240) < x4 → ((nI 0) = (nI 0) → ((nI 0) = nI 0 ∨ (nI 0) = nI 1) ∧ Q (nI 0) τ11) ∧ (¬ (nI 0) = (nI 0) → ((nI 1) = nI 0 ∨ (nI 1) = nI 1) ∧ Q (nI 1) τ11))))))) ∧ (x4 = (nI 0) → pr_X7_strokeAt [.int row, .int (nI 0)] τ3 ∧ ∀ (x14 : Int32) (τ13 : Sg), po_X7_strokeAt [.int row, .int (nI 0)] τ3 x14 τ13 → (pr_X7_isStroke [.int x14] τ13 ∧ ∀ (x16 : Int32) (τ15 : Sg), po_X7_isStroke [.int x14] τ13 x16 τ15 → ((x16 = (nI 0) → ((nI 0) = nI 0 ∨ (nI 0) = nI 1) ∧ Q (nI 0) τ15) ∧ (¬ x16 = (nI 0) → ((nI 240) < x2 → ((nI 0) = nI 0 ∨ (nI 0) = nI 1) ∧ Q (nI 0) τ15) ∧ (¬ (nI 240) < x2 → ((nI 240) < x4 → ((nI 0) = nI 0 ∨ (nI 0) = nI 1) ∧ Q (nI 0) τ15) ∧ (¬ (nI 240) < x4 → ((nI 1) = (nI 0) → ((nI 0) = nI 0 ∨ (nI 0) = nI 1) ∧ Q (nI 0) τ15) ∧ (¬ (nI 1) = (nI 0) → ((nI 1) = nI 0 ∨ (nI 1) = nI 1) ∧ Q (nI 1) τ15))))))))))) ∧ ((nI 16777215) < row → ((nI 0) = nI 0 ∨ (nI 0) = nI 1) ∧ Q (nI 0) σ))) : kp_T layC gl_X7 pl_X7 (ms_X7_isRow) tb_X7_isRow (kp_rk (some .boolean)) J Q 46 tb_X7_isRow (kp_en [.int row] 4) [] σ := h
set_option maxRecDepth 100000 in
set_option maxHeartbeats 4000000 in
theorem c_X7_isRow : kp_Met layC 1 yX7_isRow cX7_isRow 4 (some .boolean) (pr_X7_isRow) (po_X7_isRow) := by
  refine kp_met (N := 46) (by decide) tk_X7_isRow gk_X7 pk_X7 (mk_X7_isRow) rfl (fun _ _ _ _ _ _ _ => False) ?_ (fun _ _ _ _ _ _ _ _ h => h.elim)
  rintro As σ ⟨row, rfl, hp⟩
  refine ⟨⟨rfl, Nat.le_of_ble_eq_true rfl⟩, v_X7_isRow row σ ?_⟩
  refine ⟨fun h1 => ⟨Or.inl rfl, rfl, ?_⟩, fun h1 => ⟨fun h2 => ?_, fun h2 => ⟨Or.inl rfl, rfl, ?_⟩⟩⟩
  · unfold isRw
    rw [decide_eq_true h1]
    rfl
  · have h0 : ¬ row < nI 0 := by rw [lt_I, nI_toInt (by omega)] at h1 ⊢; omega
    obtain ⟨r, hr, rfl⟩ := nI_of (show ¬ row < 0 from h0)
    rw [nI_ltI hr (by omega)] at h1
    rw [nI_ltI (by omega) hr] at h2
    refine ⟨⟨_, _, rfl, r, 1, rfl, by omega, rfl, by omega⟩, ?_⟩
    rintro x2 τ1 ⟨rfl, rfl⟩
    refine ⟨⟨_, _, rfl, r, 2, rfl, by omega, rfl, by omega⟩, ?_⟩
    rintro x4 τ3 ⟨rfl, rfl⟩
    have e0 : tn (nI r) / 256 ^ tn (nI 0) % 256 = r % 256 := by rw [tn_nI hr, tn_nI (by omega)]; simp
    have e1 : tn (nI r) / 256 ^ tn (nI 1) % 256 = r / 256 % 256 := by rw [tn_nI hr, tn_nI (by omega)]
    have e2 : tn (nI r) / 256 ^ tn (nI 2) % 256 = r / 65536 % 256 := by rw [tn_nI hr, tn_nI (by omega)]
    rw [e1, e2]
    have hfin : ∀ τ' : Sg, τ' = τ3 → (rowOK r = false → τ' = τ3 ∧ nI 0 = bI (isRw (nI r))) ∧ (rowOK r = true → τ' = τ3 ∧ nI 1 = bI (isRw (nI r))) := fun τ' e => by
      rw [isRw_nI (by omega) hr]
      exact ⟨fun h => ⟨e, by rw [h]; rfl⟩, fun h => ⟨e, by rw [h]; rfl⟩⟩
    have hall : ∀ (g : Int32), (g = nI 1 ∧ ¬ (r / 256 % 256 = 0 ∧ ¬ r / 65536 % 256 = 0)) ∨ (g = nI 0 ∧ (r / 256 % 256 = 0 ∧ ¬ r / 65536 % 256 = 0)) → pr_X7_strokeAt [.int (nI r), .int (nI 0)] τ3 ∧ ∀ (x6 : Int32) (τ5 : Sg), po_X7_strokeAt [.int (nI r), .int (nI 0)] τ3 x6 τ5 → (pr_X7_isStroke [.int x6] τ5 ∧ ∀ (x8 : Int32) (τ7 : Sg), po_X7_isStroke [.int x6] τ5 x8 τ7 →
        ((x8 = (nI 0) → ((nI 0) = nI 0 ∨ (nI 0) = nI 1) ∧ po_X7_isRow [.int (nI r)] τ3 (nI 0) τ7) ∧ (¬ x8 = (nI 0) → ((nI 240) < nI (r / 256 % 256) → ((nI 0) = nI 0 ∨ (nI 0) = nI 1) ∧ po_X7_isRow [.int (nI r)] τ3 (nI 0) τ7) ∧ (¬ (nI 240) < nI (r / 256 % 256) → ((nI 240) < nI (r / 65536 % 256) → ((nI 0) = nI 0 ∨ (nI 0) = nI 1) ∧ po_X7_isRow [.int (nI r)] τ3 (nI 0) τ7) ∧ (¬ (nI 240) < nI (r / 65536 % 256) → (g = (nI 0) → ((nI 0) = nI 0 ∨ (nI 0) = nI 1) ∧ po_X7_isRow [.int (nI r)] τ3 (nI 0) τ7) ∧ (¬ g = (nI 0) → ((nI 1) = nI 0 ∨ (nI 1) = nI 1) ∧ po_X7_isRow [.int (nI r)] τ3 (nI 1) τ7)))))) := by
      intro g hg
      refine ⟨⟨_, _, rfl, r, 0, rfl, by omega, rfl, by omega⟩, ?_⟩
      rintro x6 τ5 ⟨rfl, rfl⟩
      rw [e0]
      refine ⟨⟨_, rfl, trivial⟩, ?_⟩
      rintro x8 τ7 ⟨rfl, rfl⟩
      rw [isSt_nI (by omega), bI_0, nI_ltI (by omega) (by omega), nI_ltI (by omega) (by omega)]
      refine ⟨fun h3 => ⟨Or.inl rfl, (hfin _ rfl).1 (decide_eq_false ?_)⟩, fun h3 => ⟨fun h4 => ⟨Or.inl rfl, (hfin _ rfl).1 (decide_eq_false ?_)⟩, fun h4 => ⟨fun h5 => ⟨Or.inl rfl, (hfin _ rfl).1 (decide_eq_false ?_)⟩, fun h5 => ⟨fun h6 => ⟨Or.inl rfl, (hfin _ rfl).1 (decide_eq_false ?_)⟩, fun h6 => ⟨Or.inr rfl, (hfin _ rfl).2 (decide_eq_true ?_)⟩⟩⟩⟩⟩
      · have := of_decide_eq_false h3
        omega
      · omega
      · omega
      · rcases hg with ⟨hg, hg2⟩ | ⟨hg, hg2⟩
        · rw [hg] at h6; exact absurd h6 (by decide)
        · omega
      · rw [Bool.not_eq_false] at h3
        have := of_decide_eq_true h3
        rcases hg with ⟨hg, hg2⟩ | ⟨hg, hg2⟩
        · omega
        · exact absurd hg h6
    have k1 := nI_eq (a := r / 256 % 256) (b := 0) (by omega) (by omega)
    have k2 := nI_eq (a := r / 65536 % 256) (b := 0) (by omega) (by omega)
    exact ⟨fun h3 => hall (nI 1) (Or.inl ⟨rfl, fun q => h3 (k1.mpr q.1)⟩), fun h3 => ⟨fun h4 => hall (nI 0) (Or.inr ⟨rfl, k1.mp h3, fun q => h4 (k2.mpr q)⟩), fun h4 => hall (nI 1) (Or.inl ⟨rfl, fun q => q.2 (k2.mp h4)⟩)⟩⟩
  · rw [isRw_big h2]
    rfl
