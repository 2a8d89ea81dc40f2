/-! a map: KeyPlan$Bindings -/
/-- what a row of pairs has for a key -/
def lk (ks : Nat → Nat) (cs : Nat → Int32) : Nat → Nat → Int32
  | 0, _ => -1
  | z + 1, k => if ks z = k then cs z else lk ks cs z k
theorem lk_none {ks : Nat → Nat} {cs : Nat → Int32} : ∀ {z k : Nat}, (∀ i, i < z → ks i ≠ k) → lk ks cs z k = -1
  | 0, _, _ => rfl
  | z + 1, k, h => by
    unfold lk
    rw [if_neg (h z (by omega))]
    exact lk_none (fun i hi => h i (by omega))
theorem lk_at {ks : Nat → Nat} {cs : Nat → Int32} : ∀ {z i : Nat}, (∀ a b, a < z → b < z → ks a = ks b → a = b) → i < z → lk ks cs z (ks i) = cs i
  | 0, _, _, h => absurd h (Nat.not_lt_zero _)
  | z + 1, i, hj, h => by
    unfold lk
    by_cases e : ks z = ks i
    · rw [if_pos e, hj z i (by omega) h e]
    · rw [if_neg e]
      have hi : i ≠ z := fun q => e (by rw [q])
      exact lk_at (fun a b ha hb => hj a b (by omega) (by omega)) (by omega)
theorem lk_some {ks : Nat → Nat} {cs : Nat → Int32} : ∀ {z k : Nat}, lk ks cs z k ≠ -1 → ∃ i, i < z ∧ ks i = k
  | 0, _, h => absurd rfl h
  | z + 1, k, h => by
    unfold lk at h
    by_cases e : ks z = k
    · exact ⟨z, by omega, e⟩
    · rw [if_neg e] at h
      obtain ⟨i, h1, h2⟩ := lk_some h
      exact ⟨i, by omega, h2⟩
theorem lk_congr {ks ks' : Nat → Nat} {cs cs' : Nat → Int32} : ∀ {z k : Nat}, (∀ i, i < z → ks i = ks' i ∧ cs i = cs' i) → lk ks cs z k = lk ks' cs' z k
  | 0, _, _ => rfl
  | z + 1, k, h => by
    unfold lk
    rw [(h z (by omega)).1, (h z (by omega)).2, lk_congr (fun i hi => h i (by omega))]
/-- two rows of pairs that have the same pairs have the same for each key -/
theorem lk_ext {ks ks' : Nat → Nat} {cs cs' : Nat → Int32} {z z' : Nat} (hj : ∀ a b, a < z → b < z → ks a = ks b → a = b) (hj' : ∀ a b, a < z' → b < z' → ks' a = ks' b → a = b) (h1 : ∀ i, i < z → ∃ j, j < z' ∧ ks' j = ks i ∧ cs' j = cs i) (h2 : ∀ j, j < z' → ∃ i, i < z ∧ ks i = ks' j) (k : Nat) : lk ks cs z k = lk ks' cs' z' k := by
  by_cases h : ∃ i, i < z ∧ ks i = k
  · obtain ⟨i, hi, rfl⟩ := h
    obtain ⟨j, a, b, c⟩ := h1 i hi
    rw [lk_at hj hi, ← b, lk_at hj' a, c]
  · rw [lk_none (fun i hi e => h ⟨i, hi, e⟩), lk_none (fun j hj e => h (by
      obtain ⟨i, a, b⟩ := h2 j hj
      exact ⟨i, a, b.trans e⟩))]
def keyOK (k : Nat) : Prop := k / 16777216 < 12 ∧ rowOK (k % 16777216) = true
theorem keyOK_lt {k : Nat} (h : keyOK k) : k < 201326592 := by have := h.1; omega
def bOK (ks cs : Nat → Int32) (nz : Int32) : Prop := ∃ z : Nat, nz = nI z ∧ z ≤ 120 ∧ (∀ i, i < z → ks i = nI (tn (ks i)) ∧ keyOK (tn (ks i)) ∧ ∃ v : Nat, v ≤ 40 ∧ cs i = nI v) ∧ ∀ i j, i < j → j < z → tn (ks i) < tn (ks j)
def mpC (ks cs : Nat → Int32) (nz : Int32) (k : Nat) : Int32 := lk (fun i => tn (ks i)) cs (tn nz) k
theorem srt_inj {f : Nat → Nat} {z : Nat} (h : ∀ i j, i < j → j < z → f i < f j) : ∀ a b, a < z → b < z → f a = f b → a = b := by
  intro a b ha hb e
  rcases Nat.lt_trichotomy a b with q | q | q
  · have := h a b q hb; omega
  · exact q
  · have := h b a q ha; omega
theorem mpC_at {ks cs : Nat → Int32} {z i : Nat} (h : bOK ks cs (nI z)) (hz : z ≤ 120) (hi : i < z) : mpC ks cs (nI z) (tn (ks i)) = cs i := by
  obtain ⟨z', e, h1, h2, h3⟩ := h
  have : z = z' := (nI_eq (by omega) (by omega)).mp e
  subst this
  unfold mpC
  rw [tn_nI (by omega)]
  exact lk_at (ks := fun i => tn (ks i)) (srt_inj h3) hi
theorem mpC_none {ks cs : Nat → Int32} {z k : Nat} (hz : z ≤ 120) (h : ∀ i, i < z → tn (ks i) ≠ k) : mpC ks cs (nI z) k = -1 := by
  unfold mpC
  rw [tn_nI (by omega)]
  exact lk_none h
theorem mpC_some {ks cs : Nat → Int32} {z k : Nat} (hz : z ≤ 120) (h : mpC ks cs (nI z) k ≠ -1) : ∃ i, i < z ∧ tn (ks i) = k := by
  unfold mpC at h
  rw [tn_nI (by omega)] at h
  exact lk_some h
theorem mpC_val {ks cs : Nat → Int32} {nz : Int32} (h : bOK ks cs nz) (k : Nat) : mpC ks cs nz k = -1 ∨ (keyOK k ∧ ∃ v : Nat, v ≤ 40 ∧ mpC ks cs nz k = nI v) := by
  obtain ⟨z, rfl, h1, h2, h3⟩ := id h
  by_cases hh : mpC ks cs (nI z) k = -1
  · exact Or.inl hh
  · obtain ⟨i, hi, rfl⟩ := mpC_some h1 hh
    rw [mpC_at h h1 hi]
    exact Or.inr ⟨(h2 i hi).2.1, (h2 i hi).2.2⟩
def pr_X1_key : SPre := fun As σ => ∃ context : Int32, ∃ row : Int32, As = [.int context, .int row] ∧ (∃ c r : Nat, context = nI c ∧ c < 12 ∧ row = nI r ∧ r < 16777216)
def po_X1_key : SPost := fun As σ r τ => match As with
  | [.int context, .int row] => (τ = σ ∧ r = nI (tn context * 16777216 + tn row))
  | _ => True
def ms_X1_key : List Me := []
theorem mk_X1_key : ∀ q ∈ ms_X1_key, kp_okM layC RX1 0 q := fun _ h => absurd h List.not_mem_nil
set_option maxRecDepth 100000 in
theorem v_X1_key {J : Nat → Lcl → List Value → Sg → Prop} {Q : Int32 → Sg → Prop} (context row : Int32) (σ : Sg) (h : Q ((context <<< ((nI 24) &&& 31)) ||| row) σ) : kp_T layC gl_X1 pl_X1 (ms_X1_key) tb_X1_key (kp_rk (some .int)) J Q 30 tb_X1_key (kp_en [.int context, .int row] 2) [] σ := h
set_option maxRecDepth 100000 in
set_option maxHeartbeats 4000000 in
theorem c_X1_key : kp_Met layC 0 yX1_key cX1_key 2 (some .int) (pr_X1_key) (po_X1_key) := by
  refine kp_met (N := 30) (by decide) tk_X1_key gk_X1 pk_X1 (mk_X1_key) rfl (fun _ _ _ _ _ _ _ => False) ?_ (fun _ _ _ _ _ _ _ _ h => h.elim)
  rintro As σ ⟨context, row, rfl, hp⟩
  refine ⟨⟨rfl, Nat.le_of_ble_eq_true rfl⟩, v_X1_key context row σ ?_⟩
  obtain ⟨c, r, rfl, hc, rfl, hr⟩ := hp
  refine ⟨rfl, ?_⟩
  rw [tn_nI (by omega), tn_nI (by omega), show nI c <<< (nI 24 &&& 31) = nI (c * 2 ^ 24) from pk_shlN _ 24 (by decide) (by omega)]
  rw [nI_or _ _ (by omega) (by omega), Nat.mul_comm c, ← Nat.two_pow_add_eq_or_of_lt (by omega), Nat.mul_comm]
def pr_X1_contextOf : SPre := fun As σ => ∃ key : Int32, As = [.int key] ∧ (∃ k : Nat, key = nI k ∧ k < 2 ^ 31)
def po_X1_contextOf : SPost := fun As σ r τ => match As with
  | [.int key] => (τ = σ ∧ r = nI (tn key / 16777216))
  | _ => True
def ms_X1_contextOf : List Me := []
theorem mk_X1_contextOf : ∀ q ∈ ms_X1_contextOf, kp_okM layC RX1 0 q := fun _ h => absurd h List.not_mem_nil
set_option maxRecDepth 100000 in
theorem v_X1_contextOf {J : Nat → Lcl → List Value → Sg → Prop} {Q : Int32 → Sg → Prop} (key : Int32) (σ : Sg) (h : Q ((Int32.toUInt32 key >>> (Int32.toUInt32 (nI 24) &&& Int32.toUInt32 31)).toInt32) σ) : kp_T layC gl_X1 pl_X1 (ms_X1_contextOf) tb_X1_contextOf (kp_rk (some .int)) J Q 30 tb_X1_contextOf (kp_en [.int key] 1) [] σ := h
set_option maxRecDepth 100000 in
set_option maxHeartbeats 4000000 in
theorem c_X1_contextOf : kp_Met layC 0 yX1_contextOf cX1_contextOf 1 (some .int) (pr_X1_contextOf) (po_X1_contextOf) := by
  refine kp_met (N := 30) (by decide) tk_X1_contextOf gk_X1 pk_X1 (mk_X1_contextOf) rfl (fun _ _ _ _ _ _ _ => False) ?_ (fun _ _ _ _ _ _ _ _ h => h.elim)
  rintro As σ ⟨key, rfl, hp⟩
  refine ⟨⟨rfl, Nat.le_of_ble_eq_true rfl⟩, v_X1_contextOf key σ ?_⟩
  obtain ⟨k, rfl, hk⟩ := hp
  exact ⟨rfl, by rw [tn_nI hk]; exact pk_ushrN (by omega) _ 24 (by decide)⟩
def pr_X1_rowOf : SPre := fun As σ => ∃ key : Int32, As = [.int key] ∧ (∃ k : Nat, key = nI k ∧ k < 2 ^ 31)
def po_X1_rowOf : SPost := fun As σ r τ => match As with
  | [.int key] => (τ = σ ∧ r = nI (tn key % 16777216))
  | _ => True
def ms_X1_rowOf : List Me := []
theorem mk_X1_rowOf : ∀ q ∈ ms_X1_rowOf, kp_okM layC RX1 0 q := fun _ h => absurd h List.not_mem_nil
set_option maxRecDepth 100000 in
theorem v_X1_rowOf {J : Nat → Lcl → List Value → Sg → Prop} {Q : Int32 → Sg → Prop} (key : Int32) (σ : Sg) (h : Q (key &&& (nI 16777215)) σ) : kp_T layC gl_X1 pl_X1 (ms_X1_rowOf) tb_X1_rowOf (kp_rk (some .int)) J Q 30 tb_X1_rowOf (kp_en [.int key] 1) [] σ := h
set_option maxRecDepth 100000 in
set_option maxHeartbeats 4000000 in
theorem c_X1_rowOf : kp_Met layC 0 yX1_rowOf cX1_rowOf 1 (some .int) (pr_X1_rowOf) (po_X1_rowOf) := by
  refine kp_met (N := 30) (by decide) tk_X1_rowOf gk_X1 pk_X1 (mk_X1_rowOf) rfl (fun _ _ _ _ _ _ _ => False) ?_ (fun _ _ _ _ _ _ _ _ h => h.elim)
  rintro As σ ⟨key, rfl, hp⟩
  refine ⟨⟨rfl, Nat.le_of_ble_eq_true rfl⟩, v_X1_rowOf key σ ?_⟩
  obtain ⟨k, rfl, hk⟩ := hp
  exact ⟨rfl, by rw [tn_nI hk]; exact pk_andN (by omega) 24 (by decide)⟩
def pr_X1_place : SPre := fun As σ => ∃ b : Nat, ∃ key : Int32, As = [.ref b, .int key] ∧ (b = 4 ∨ b = 7) ∧ (bOK (σ (b + 1)) (σ (b + 2)) (σ b 2) ∧ ∃ k : Nat, key = nI k ∧ k < 2 ^ 31)
def po_X1_place : SPost := fun As σ r τ => match As with
  | [.ref b, .int key] => (τ = σ ∧ ∃ p : Nat, r = nI p ∧ p ≤ tn (σ b 2) ∧ (∀ i, i < p → tn (σ (b + 1) i) < tn key) ∧ (∀ i, p ≤ i → i < tn (σ b 2) → tn key ≤ tn (σ (b + 1) i)))
  | _ => True
def ms_X1_place : List Me := []
theorem mk_X1_place : ∀ q ∈ ms_X1_place, kp_okM layC RX1 0 q := fun _ h => absurd h List.not_mem_nil
set_option maxRecDepth 100000 in
theorem v_X1_place {J : Nat → Lcl → List Value → Sg → Prop} {Q : Int32 → Sg → Prop} (b : Nat) (hb : b = 4 ∨ b = 7) (key : Int32) (σ : Sg) (h : J 10 [some (.ref b), some (.int key), some (.int (nI 0)), some (.int (σ b 2)), some (.int (nI 0)), none] [] σ) : kp_T layC gl_X1 pl_X1 (ms_X1_place) tb_X1_place (kp_rk (some .int)) J Q 41 tb_X1_place (kp_en [.ref b, .int key] 6) [] σ := by rcases hb with rfl | rfl <;> exact h
set_option maxRecDepth 100000 in
theorem v_X1_place_10 {J : Nat → Lcl → List Value → Sg → Prop} {Q : Int32 → Sg → Prop} (b : Nat) (hb : b = 4 ∨ b = 7) (key low high steps : Int32) (o5 : Option Value) (σ : Sg) (h : (¬ steps < (nI 120) → Q low σ) ∧ (steps < (nI 120) → (¬ low < high → Q low σ) ∧ (low < high → vp_in ((Int32.toUInt32 (low + high) >>> (Int32.toUInt32 (nI 1) &&& Int32.toUInt32 31)).toInt32) 120 ∧ ((¬ (σ (b + 1) ((Int32.toUInt32 (low + high) >>> (Int32.toUInt32 (nI 1) &&& Int32.toUInt32 31)).toInt32).toNatClampNeg) < key → J 10 [some (.ref b), some (.int key), some (.int low), some (.int ((Int32.toUInt32 (low + high) >>> (Int32.toUInt32 (nI 1) &&& Int32.toUInt32 31)).toInt32)), some (.int (steps + nI 1)), some (.int ((Int32.toUInt32 (low + high) >>> (Int32.toUInt32 (nI 1) &&& Int32.toUInt32 31)).toInt32))] [] σ) ∧ ((σ (b + 1) ((Int32.toUInt32 (low + high) >>> (Int32.toUInt32 (nI 1) &&& Int32.toUInt32 31)).toInt32).toNatClampNeg) < key → J 10 [some (.ref b), some (.int key), some (.int (((Int32.toUInt32 (low + high) >>> (Int32.toUInt32 (nI 1) &&& Int32.toUInt32 31)).toInt32) + (nI 1))), some (.int high), some (.int (steps + nI 1)), some (.int ((Int32.toUInt32 (low + high) >>> (Int32.toUInt32 (nI 1) &&& Int32.toUInt32 31)).toInt32))] [] σ))))) : kp_T1 layC gl_X1 pl_X1 (ms_X1_place) tb_X1_place (kp_rk (some .int)) J Q 41 10 [some (.ref b), some (.int key), some (.int low), some (.int high), some (.int steps), o5] [] σ := by rcases hb with rfl | rfl <;> exact h
abbrev iv_X1_place : List Value → Sg → Nat → Nat → Lcl → List Value → Sg → Prop := fun As σ n pc ls st τ => pc = 10 ∧ st = [] ∧ τ = σ ∧ ∃ (b k lo hi sp z : Nat) (o5 : Option Value), (b = 4 ∨ b = 7) ∧ As = [.ref b, .int (nI k)] ∧ ls = [some (.ref b), some (.int (nI k)), some (.int (nI lo)), some (.int (nI hi)), some (.int (nI sp)), o5] ∧ k < 2 ^ 31 ∧ σ b 2 = nI z ∧ z ≤ 120 ∧ (∀ i, i < z → σ (b + 1) i = nI (tn (σ (b + 1) i))) ∧ (∀ i j, i < j → j < z → tn (σ (b + 1) i) < tn (σ (b + 1) j)) ∧ lo ≤ hi ∧ hi ≤ z ∧ sp + (hi - lo) ≤ 120 ∧ n = hi - lo ∧ (∀ i, i < lo → tn (σ (b + 1) i) < k) ∧ (∀ i, hi ≤ i → i < z → k ≤ tn (σ (b + 1) i))
set_option maxRecDepth 100000 in
set_option maxHeartbeats 4000000 in
theorem c_X1_place : kp_Met layC 0 yX1_place cX1_place 6 (some .int) (pr_X1_place) (po_X1_place) := by
  refine kp_met (N := 41) (by decide) tk_X1_place gk_X1 pk_X1 (mk_X1_place) rfl (iv_X1_place) ?_ ?_
  · rintro As σ ⟨b, key, rfl, hb, hp⟩
    refine ⟨⟨rfl, Nat.le_of_ble_eq_true rfl⟩, v_X1_place b hb key σ ?_⟩
    obtain ⟨⟨z, hz, h1, h2, h3⟩, k, rfl, hk⟩ := hp
    exact ⟨z, rfl, rfl, rfl, b, k, 0, z, 0, z, none, hb, rfl, by rw [hz], hk, hz, h1, fun i hi => (h2 i hi).1, h3, by omega, by omega, by omega, by omega, fun i hi => by omega, fun i hi hj => by omega⟩
  · rintro As σ ⟨b, key, rfl, hb, hp⟩ n pc ls st τ hI
    obtain ⟨rfl, rfl, rfl, b', k, lo, hi, sp, z, o5, hb', hAs, rfl, hk, hz, h1, h2, h3, h4, h5, h6, rfl, h7, h8⟩ := hI
    cases hAs
    have hmid : (Int32.toUInt32 (nI lo + nI hi) >>> (Int32.toUInt32 (nI 1) &&& Int32.toUInt32 31)).toInt32 = nI ((lo + hi) / 2) := by
      rw [nI_add]; exact pk_ushrN (by omega) _ 1 (by decide)
    refine v_X1_place_10 b hb _ _ _ _ o5 τ ?_
    rw [hmid]
    rw [nI_ltI (by omega) (by omega), nI_ltI (by omega) (by omega)]
    have hfin : lo = hi → po_X1_place [.ref b, .int (nI k)] τ (nI lo) τ := by
      rintro rfl
      refine ⟨rfl, lo, rfl, ?_, ?_, ?_⟩
      · rw [hz, tn_nI (by omega)]; exact h5
      · rw [tn_nI hk]; exact h7
      · rw [hz, tn_nI (by omega), tn_nI hk]; exact h8
    refine ⟨fun q1 => hfin (by omega), fun q1 => ⟨fun q2 => hfin (by omega), fun q2 => ?_⟩⟩
    have hm1 : (lo + hi) / 2 < hi := by omega
    have hm2 : lo ≤ (lo + hi) / 2 := by omega
    refine ⟨(kp_in (by omega)).mpr (by omega), ?_⟩
    rw [nI_clamp (show (lo + hi) / 2 < 2 ^ 31 by omega), h2 _ (show (lo + hi) / 2 < z by omega), nI_ltI (tn_lt _) hk]
    refine ⟨fun q3 => ⟨(lo + hi) / 2 - lo, by omega, rfl, rfl, rfl, b, k, lo, (lo + hi) / 2, sp + 1, z, _, hb, rfl, by rw [nI_add], hk, hz, h1, h2, h3, hm2, by omega, by omega, rfl, h7, fun i a1 a2 => ?_⟩, fun q3 => ⟨hi - ((lo + hi) / 2 + 1), by omega, rfl, rfl, rfl, b, k, (lo + hi) / 2 + 1, hi, sp + 1, z, _, hb, rfl, by rw [nI_add, nI_add], hk, hz, h1, h2, h3, by omega, h5, by omega, rfl, fun i a1 => ?_, h8⟩⟩
    · by_cases e : i = (lo + hi) / 2
      · subst e; omega
      · have := h3 ((lo + hi) / 2) i (by omega) a2; omega
    · by_cases e : i = (lo + hi) / 2
      · subst e; omega
      · have := h3 i ((lo + hi) / 2) (by omega) (by omega); omega
def pr_X1_isAt : SPre := fun As σ => ∃ b : Nat, ∃ p : Int32, ∃ k : Int32, As = [.ref b, .int p, .int k] ∧ (b = 4 ∨ b = 7) ∧ ((∃ z : Nat, σ b 2 = nI z ∧ z ≤ 120) ∧ ∃ q : Nat, p = nI q ∧ q ≤ 120)
def po_X1_isAt : SPost := fun As σ r τ => match As with
  | [.ref b, .int p, .int k] => (τ = σ ∧ r = bI (decide (tn p < tn (σ b 2) ∧ σ (b + 1) (tn p) = k)))
  | _ => True
def ms_X1_isAt : List Me := []
theorem mk_X1_isAt : ∀ q ∈ ms_X1_isAt, kp_okM layC RX1 0 q := fun _ h => absurd h List.not_mem_nil
set_option maxRecDepth 100000 in
theorem v_X1_isAt {J : Nat → Lcl → List Value → Sg → Prop} {Q : Int32 → Sg → Prop} (b : Nat) (hb : b = 4 ∨ b = 7) (p k : Int32) (σ : Sg) (h : (¬ p < (σ b 2) → ((nI 0) = nI 0 ∨ (nI 0) = nI 1) ∧ Q (nI 0) σ) ∧ (p < (σ b 2) → vp_in p 120 ∧ ((¬ (σ (b + 1) (p).toNatClampNeg) = k → ((nI 0) = nI 0 ∨ (nI 0) = nI 1) ∧ Q (nI 0) σ) ∧ ((σ (b + 1) (p).toNatClampNeg) = k → ((nI 1) = nI 0 ∨ (nI 1) = nI 1) ∧ Q (nI 1) σ)))) : kp_T layC gl_X1 pl_X1 (ms_X1_isAt) tb_X1_isAt (kp_rk (some .boolean)) J Q 30 tb_X1_isAt (kp_en [.ref b, .int p, .int k] 3) [] σ := by rcases hb with rfl | rfl <;> exact h
set_option maxRecDepth 100000 in
set_option maxHeartbeats 4000000 in
theorem c_X1_isAt : kp_Met layC 0 yX1_isAt cX1_isAt 3 (some .boolean) (pr_X1_isAt) (po_X1_isAt) := by
  refine kp_met (N := 30) (by decide) tk_X1_isAt gk_X1 pk_X1 (mk_X1_isAt) rfl (fun _ _ _ _ _ _ _ => False) ?_ (fun _ _ _ _ _ _ _ _ h => h.elim)
  rintro As σ ⟨b, p, k, rfl, hb, hp⟩
  refine ⟨⟨rfl, Nat.le_of_ble_eq_true rfl⟩, v_X1_isAt b hb p k σ ?_⟩
  obtain ⟨⟨z, hz, hz1⟩, q, rfl, hq⟩ := hp
  have e1 : tn (σ b 2) = z := by rw [hz, tn_nI (by omega)]
  have e2 : tn (nI q) = q := tn_nI (by omega)
  refine ⟨fun h1 => ⟨Or.inl rfl, rfl, ?_⟩, fun h1 => ⟨?_, fun h2 => ⟨Or.inl rfl, rfl, ?_⟩, fun h2 => ⟨Or.inr rfl, rfl, ?_⟩⟩⟩
  · rw [hz, nI_ltI (by omega) (by omega)] at h1
    rw [e1, e2, decide_eq_false (fun h => h1 h.1)]; rfl
  · rw [hz, nI_ltI (by omega) (by omega)] at h1
    rw [kp_in (by omega)]; omega
  · rw [decide_eq_false (fun h => h2 h.2)]; rfl
  · rw [hz, nI_ltI (by omega) (by omega)] at h1
    rw [e1, decide_eq_true ⟨by rw [e2]; exact h1, h2⟩]; rfl
def pr_X1_at : SPre := fun As σ => ∃ b : Nat, ∃ key : Int32, As = [.ref b, .int key] ∧ (b = 4 ∨ b = 7) ∧ (bOK (σ (b + 1)) (σ (b + 2)) (σ b 2) ∧ ∃ k : Nat, key = nI k ∧ k < 2 ^ 31)
def po_X1_at : SPost := fun As σ r τ => match As with
  | [.ref b, .int key] => (τ = σ ∧ r = mpC (σ (b + 1)) (σ (b + 2)) (σ b 2) (tn key))
  | _ => True
def ms_X1_at : List Me := [(23, 0, 1, 1, true, pr_X1_place, po_X1_place), (27, 0, 1, 2, true, pr_X1_isAt, po_X1_isAt)]
theorem mk_X1_at : ∀ q ∈ ms_X1_at, kp_okM layC RX1 1 q := List.forall_mem_cons.mpr ⟨Or.inl ⟨0, yX1_place, cX1_place, 6, (some .int), c_X1_place, by omega, by decide, rfl, lk_X1_23⟩, List.forall_mem_cons.mpr ⟨Or.inl ⟨0, yX1_isAt, cX1_isAt, 3, (some .boolean), c_X1_isAt, by omega, by decide, rfl, lk_X1_27⟩, fun _ h => absurd h List.not_mem_nil⟩⟩
set_option maxRecDepth 100000 in
theorem v_X1_at {J : Nat → Lcl → List Value → Sg → Prop} {Q : Int32 → Sg → Prop} (b : Nat) (hb : b = 4 ∨ b = 7) (key : Int32) (σ : Sg) (h : pr_X1_place [.ref b, .int key] σ ∧ ∀ (x2 : Int32) (τ1 : Sg), po_X1_place [.ref b, .int key] σ x2 τ1 → (pr_X1_isAt [.ref b, .int x2, .int key] τ1 ∧ ∀ (x4 : Int32) (τ3 : Sg), po_X1_isAt [.ref b, .int x2, .int key] τ1 x4 τ3 → ((x4 = (nI 0) → Q (-1) τ3) ∧ (¬ x4 = (nI 0) → vp_in x2 120 ∧ (Q (τ3 (b + 2) (x2).toNatClampNeg) τ3))))) : kp_T layC gl_X1 pl_X1 (ms_X1_at) tb_X1_at (kp_rk (some .int)) J Q 30 tb_X1_at (kp_en [.ref b, .int key] 3) [] σ := by rcases hb with rfl | rfl <;> exact h
set_option maxRecDepth 100000 in
set_option maxHeartbeats 4000000 in
theorem c_X1_at : kp_Met layC 1 yX1_at cX1_at 3 (some .int) (pr_X1_at) (po_X1_at) := by
  refine kp_met (N := 30) (by decide) tk_X1_at gk_X1 pk_X1 (mk_X1_at) rfl (fun _ _ _ _ _ _ _ => False) ?_ (fun _ _ _ _ _ _ _ _ h => h.elim)
  rintro As σ ⟨b, key, rfl, hb, hp⟩
  refine ⟨⟨rfl, Nat.le_of_ble_eq_true rfl⟩, v_X1_at b hb key σ ?_⟩
  obtain ⟨hbo, k, rfl, hk⟩ := hp
  obtain ⟨z, hz, h1, h2, h3⟩ := id hbo
  have e1 : tn (σ b 2) = z := by rw [hz, tn_nI (by omega)]
  refine ⟨⟨b, _, rfl, hb, hbo, k, rfl, hk⟩, ?_⟩
  rintro x2 τ1 ⟨rfl, p, rfl, h4, h5, h6⟩
  rw [tn_nI hk] at h5 h6
  rw [e1] at h4 h6
  refine ⟨⟨b, _, _, rfl, hb, ⟨z, hz, h1⟩, p, rfl, by omega⟩, ?_⟩
  rintro x4 τ3 ⟨rfl, rfl⟩
  rw [bI_0, e1, tn_nI (show p < 2 ^ 31 by omega)]
  refine ⟨fun q1 => ⟨rfl, ?_⟩, fun q1 => ⟨?_, rfl, ?_⟩⟩
  · have q1 := of_decide_eq_false q1
    rw [hz, tn_nI hk]
    refine (mpC_none h1 (fun i hi e => ?_)).symm
    by_cases hip : i < p
    · have := h5 i hip; omega
    · by_cases hi2 : i = p
      · subst hi2
        exact q1 ⟨hi, by rw [(h2 i hi).1, e]⟩
      · have a1 := h6 p (by omega) (by omega)
        have a2 := h3 p i (by omega) hi
        omega
  · have q1 := of_decide_eq_true (by simpa using q1)
    rw [kp_in (by omega)]; omega
  · have q1 := of_decide_eq_true (show decide _ = true by simpa using q1)
    have hkp : tn (τ3 (b + 1) p) = k := by rw [q1.2, tn_nI hk]
    rw [hz] at hbo
    rw [nI_clamp (show p < 2 ^ 31 by omega), hz, tn_nI hk, ← hkp, mpC_at hbo h1 q1.1]
