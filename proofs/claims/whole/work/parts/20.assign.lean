/-! assigning: KeyPlan$Assigning, its lists -/
abbrev nwC (σ : Sg) : Nat := tn (σ 23 2)
abbrev noC (σ : Sg) : Nat := tn (σ 23 4)
def asOK (σ : Sg) : Prop := nn (σ 23 2) ∧ nwC σ ≤ 6 ∧ nn (σ 23 4) ∧ noC σ ≤ 8 ∧ (∀ i, i < nwC σ → nn (σ 24 i) ∧ tn (σ 24 i) < 40 ∧ nn (σ 25 i) ∧ tn (σ 25 i) < tn (σ 2 1)) ∧ (∀ s, s < noC σ → nn (σ 26 s) ∧ 1 ≤ tn (σ 26 s) ∧ tn (σ 26 s) ≤ 240)
def pr_X0_forget : SPre := fun As σ => As = [.ref 23] ∧ (True)
def po_X0_forget : SPost := fun As σ r τ => match As with
  | [.ref _] => (τ = kp_up σ 23 5 (nI 0))
  | _ => True
def ms_X0_forget : List Me := []
theorem mk_X0_forget : ∀ q ∈ ms_X0_forget, kp_okM layC RX0 0 q := fun _ h => absurd h List.not_mem_nil
set_option maxRecDepth 100000 in
theorem v_X0_forget {J : Nat → Lcl → List Value → Sg → Prop} {Q : Int32 → Sg → Prop}  (σ : Sg) (h : ((nI 0) = nI 0 ∨ (nI 0) = nI 1) ∧ (Q (nI 0) (kp_up σ 23 5 (nI 0)))) : kp_T layC gl_X0 pl_X0 (ms_X0_forget) tb_X0_forget (kp_rk none) J Q 30 tb_X0_forget (kp_en [.ref 23] 1) [] σ := h
set_option maxRecDepth 100000 in
set_option maxHeartbeats 4000000 in
theorem c_X0_forget : kp_Met layC 0 yX0_forget cX0_forget 1 none (pr_X0_forget) (po_X0_forget) := by
  refine kp_met (N := 30) (by decide) tk_X0_forget gk_X0 pk_X0 (mk_X0_forget) rfl (fun _ _ _ _ _ _ _ => False) ?_ (fun _ _ _ _ _ _ _ _ h => h.elim)
  rintro As σ ⟨rfl, hp⟩
  refine ⟨⟨rfl, Nat.le_of_ble_eq_true rfl⟩, v_X0_forget σ ?_⟩
  exact ⟨Or.inl rfl, rfl⟩
def pr_X0_empty : SPre := fun As σ => As = [.ref 23] ∧ (True)
def po_X0_empty : SPost := fun As σ r τ => match As with
  | [.ref _] => (τ = kp_up (kp_up (kp_up σ 23 2 (nI 0)) 23 4 (nI 0)) 23 5 (nI 0))
  | _ => True
def ms_X0_empty : List Me := [(53, 0, 0, 0, false, pr_X0_forget, po_X0_forget)]
theorem mk_X0_empty : ∀ q ∈ ms_X0_empty, kp_okM layC RX0 1 q := List.forall_mem_cons.mpr ⟨Or.inl ⟨0, yX0_forget, cX0_forget, 1, none, c_X0_forget, by omega, by decide, rfl, lk_X0_53⟩, fun _ h => absurd h List.not_mem_nil⟩
set_option maxRecDepth 100000 in
theorem v_X0_empty {J : Nat → Lcl → List Value → Sg → Prop} {Q : Int32 → Sg → Prop}  (σ : Sg) (h : pr_X0_forget [.ref 23] (kp_up (kp_up σ 23 2 (nI 0)) 23 4 (nI 0)) ∧ ∀ (τ1 : Sg), po_X0_forget [.ref 23] (kp_up (kp_up σ 23 2 (nI 0)) 23 4 (nI 0)) (nI 0) τ1 → (Q (nI 0) τ1)) : kp_T layC gl_X0 pl_X0 (ms_X0_empty) tb_X0_empty (kp_rk none) J Q 30 tb_X0_empty (kp_en [.ref 23] 1) [] σ := h
set_option maxRecDepth 100000 in
set_option maxHeartbeats 4000000 in
theorem c_X0_empty : kp_Met layC 1 yX0_empty cX0_empty 1 none (pr_X0_empty) (po_X0_empty) := by
  refine kp_met (N := 30) (by decide) tk_X0_empty gk_X0 pk_X0 (mk_X0_empty) rfl (fun _ _ _ _ _ _ _ => False) ?_ (fun _ _ _ _ _ _ _ _ h => h.elim)
  rintro As σ ⟨rfl, hp⟩
  refine ⟨⟨rfl, Nat.le_of_ble_eq_true rfl⟩, v_X0_empty σ ?_⟩
  refine ⟨⟨rfl, trivial⟩, ?_⟩
  rintro τ1 rfl
  rfl
def pr_X0_isAmong : SPre := fun As σ => ∃ a : Nat, ∃ L : Nat, ∃ f : Int32, ∃ x : Int32, As = [.ref a, .int f, .int x] ∧ (a = 24 ∧ L = 6 ∨ a = 26 ∧ L = 8) ∧ (∃ m : Nat, f = nI m ∧ m ≤ L)
def po_X0_isAmong : SPost := fun As σ r τ => match As with
  | [.ref a, .int f, .int x] => (τ = σ ∧ r = bI (decide (∃ j, j < tn f ∧ σ a j = x)))
  | _ => True
def ms_X0_isAmong : List Me := []
theorem mk_X0_isAmong : ∀ q ∈ ms_X0_isAmong, kp_okM layC RX0 0 q := fun _ h => absurd h List.not_mem_nil
set_option maxRecDepth 100000 in
theorem v_X0_isAmong {J : Nat → Lcl → List Value → Sg → Prop} {Q : Int32 → Sg → Prop} (a : Nat) (L : Nat) (hb : a = 24 ∧ L = 6 ∨ a = 26 ∧ L = 8) (f x : Int32) (σ : Sg) (h : J 2 [some (.ref a), some (.int f), some (.int x), some (.int (nI 0))] [] σ) : kp_T layC gl_X0 pl_X0 (ms_X0_isAmong) tb_X0_isAmong (kp_rk (some .boolean)) J Q 30 tb_X0_isAmong (kp_en [.ref a, .int f, .int x] 4) [] σ := by rcases hb with ⟨rfl, rfl⟩ | ⟨rfl, rfl⟩ <;> exact h
set_option maxRecDepth 100000 in
theorem v_X0_isAmong_2 {J : Nat → Lcl → List Value → Sg → Prop} {Q : Int32 → Sg → Prop} (a : Nat) (L : Nat) (hb : a = 24 ∧ L = 6 ∨ a = 26 ∧ L = 8) (f x i : Int32) (σ : Sg) (h : (¬ i < f → ((nI 0) = nI 0 ∨ (nI 0) = nI 1) ∧ Q (nI 0) σ) ∧ (i < f → vp_in i L ∧ ((¬ (σ a (i).toNatClampNeg) = x → J 2 [some (.ref a), some (.int f), some (.int x), some (.int (i + nI 1))] [] σ) ∧ ((σ a (i).toNatClampNeg) = x → ((nI 1) = nI 0 ∨ (nI 1) = nI 1) ∧ Q (nI 1) σ)))) : kp_T1 layC gl_X0 pl_X0 (ms_X0_isAmong) tb_X0_isAmong (kp_rk (some .boolean)) J Q 30 2 [some (.ref a), some (.int f), some (.int x), some (.int i)] [] σ := by rcases hb with ⟨rfl, rfl⟩ | ⟨rfl, rfl⟩ <;> exact h
abbrev iv_X0_isAmong : List Value → Sg → Nat → Nat → Lcl → List Value → Sg → Prop := fun As σ n pc ls st τ => pc = 2 ∧ st = [] ∧ τ = σ ∧ ∃ (a L m i : Nat) (x : Int32), (a = 24 ∧ L = 6 ∨ a = 26 ∧ L = 8) ∧ As = [.ref a, .int (nI m), .int x] ∧ m ≤ L ∧ i ≤ m ∧ n = m - i ∧ ls = [some (.ref a), some (.int (nI m)), some (.int x), some (.int (nI i))] ∧ ∀ j, j < i → ¬ σ a j = x
set_option maxRecDepth 100000 in
set_option maxHeartbeats 4000000 in
theorem c_X0_isAmong : kp_Met layC 0 yX0_isAmong cX0_isAmong 4 (some .boolean) (pr_X0_isAmong) (po_X0_isAmong) := by
  refine kp_met (N := 30) (by decide) tk_X0_isAmong gk_X0 pk_X0 (mk_X0_isAmong) rfl (iv_X0_isAmong) ?_ ?_
  · rintro As σ ⟨a, L, f, x, rfl, hb, hp⟩
    refine ⟨⟨rfl, Nat.le_of_ble_eq_true rfl⟩, v_X0_isAmong a L hb f x σ ?_⟩
    obtain ⟨m, rfl, hm⟩ := hp
    exact ⟨m, rfl, rfl, rfl, a, L, m, 0, x, hb, rfl, hm, by omega, by omega, rfl, fun j hj => by omega⟩
  · rintro As σ ⟨a, L, f, x, rfl, hb, hp⟩ n pc ls st τ hI
    clear hp
    obtain ⟨rfl, rfl, rfl, a', L', m, i, x', hb', hAs, hm, hi, rfl, rfl, hj⟩ := hI
    cases hAs
    refine v_X0_isAmong_2 a L' hb' _ _ _ τ ?_
    rw [nI_ltI (by omega) (by omega), nI_clamp (show i < 2 ^ 31 by omega), show nI i + nI 1 = nI (i + 1) from nI_add _ _]
    refine ⟨fun g => ⟨Or.inl rfl, rfl, ?_⟩, fun g => ⟨(kp_in (by omega)).mpr (by omega), fun g2 => ⟨m - (i + 1), by omega, rfl, rfl, rfl, a, L', m, i + 1, x, hb', rfl, hm, by omega, rfl, rfl, fun j hj' => ?_⟩, fun g2 => ⟨Or.inr rfl, rfl, ?_⟩⟩⟩
    · rw [tn_nI (by omega), decide_eq_false (fun ⟨j, h1, h2⟩ => hj j (by omega) h2)]; rfl
    · by_cases e : j = i
      · subst e; exact g2
      · exact hj j (by omega)
    · rw [tn_nI (by omega), decide_eq_true ⟨i, g, g2⟩]; rfl
def pr_X0_addWanted : SPre := fun As σ => ∃ c : Int32, ∃ x : Int32, As = [.ref 23, .int c, .int x] ∧ (nn (σ 23 2) ∧ nwC σ ≤ 6)
def po_X0_addWanted : SPost := fun As σ r τ => match As with
  | [.ref _, .int c, .int x] => ((nwC σ < 6 ∧ (∀ j, j < nwC σ → σ 24 j ≠ c) → τ = kp_up (kp_up (kp_up (kp_up σ 24 (nwC σ) c) 25 (nwC σ) x) 23 2 (nI (nwC σ + 1))) 23 5 (nI 0) ∧ r = nI (nwC σ + 1)) ∧ (¬ (nwC σ < 6 ∧ (∀ j, j < nwC σ → σ 24 j ≠ c)) → τ = σ ∧ r = -1))
  | _ => True
def ms_X0_addWanted : List Me := [(56, 1, 0, 3, true, pr_X0_isAmong, po_X0_isAmong), (53, 0, 0, 0, false, pr_X0_forget, po_X0_forget)]
theorem mk_X0_addWanted : ∀ q ∈ ms_X0_addWanted, kp_okM layC RX0 1 q := List.forall_mem_cons.mpr ⟨Or.inl ⟨0, yX0_isAmong, cX0_isAmong, 4, (some .boolean), c_X0_isAmong, by omega, by decide, rfl, lk_X0_56⟩, List.forall_mem_cons.mpr ⟨Or.inl ⟨0, yX0_forget, cX0_forget, 1, none, c_X0_forget, by omega, by decide, rfl, lk_X0_53⟩, fun _ h => absurd h List.not_mem_nil⟩⟩
set_option maxRecDepth 100000 in
theorem v_X0_addWanted {J : Nat → Lcl → List Value → Sg → Prop} {Q : Int32 → Sg → Prop} (c x : Int32) (σ : Sg) (h : (¬ (σ 23 2) < (nI 6) → Q (-1) σ) ∧ ((σ 23 2) < (nI 6) → pr_X0_isAmong [.ref 24, .int (σ 23 2), .int c] σ ∧ ∀ (x2 : Int32) (τ1 : Sg), po_X0_isAmong [.ref 24, .int (σ 23 2), .int c] σ x2 τ1 → ((x2 = (nI 0) → vp_in (τ1 23 2) 6 ∧ (vp_in ((kp_up τ1 24 (τ1 23 2).toNatClampNeg c) 23 2) 6 ∧ (pr_X0_forget [.ref 23] (kp_up (kp_up (kp_up τ1 24 (τ1 23 2).toNatClampNeg c) 25 ((kp_up τ1 24 (τ1 23 2).toNatClampNeg c) 23 2).toNatClampNeg x) 23 2 (((kp_up (kp_up τ1 24 (τ1 23 2).toNatClampNeg c) 25 ((kp_up τ1 24 (τ1 23 2).toNatClampNeg c) 23 2).toNatClampNeg x) 23 2) + (nI 1))) ∧ ∀ (τ3 : Sg), po_X0_forget [.ref 23] (kp_up (kp_up (kp_up τ1 24 (τ1 23 2).toNatClampNeg c) 25 ((kp_up τ1 24 (τ1 23 2).toNatClampNeg c) 23 2).toNatClampNeg x) 23 2 (((kp_up (kp_up τ1 24 (τ1 23 2).toNatClampNeg c) 25 ((kp_up τ1 24 (τ1 23 2).toNatClampNeg c) 23 2).toNatClampNeg x) 23 2) + (nI 1))) (nI 0) τ3 → (Q (τ3 23 2) τ3)))) ∧ (¬ x2 = (nI 0) → Q (-1) τ1)))) : kp_T layC gl_X0 pl_X0 (ms_X0_addWanted) tb_X0_addWanted (kp_rk (some .int)) J Q 41 tb_X0_addWanted (kp_en [.ref 23, .int c, .int x] 3) [] σ := h
set_option maxRecDepth 100000 in
set_option maxHeartbeats 4000000 in
theorem c_X0_addWanted : kp_Met layC 1 yX0_addWanted cX0_addWanted 3 (some .int) (pr_X0_addWanted) (po_X0_addWanted) := by
  refine kp_met (N := 41) (by decide) tk_X0_addWanted gk_X0 pk_X0 (mk_X0_addWanted) rfl (fun _ _ _ _ _ _ _ => False) ?_ (fun _ _ _ _ _ _ _ _ h => h.elim)
  rintro As σ ⟨c, x, rfl, hp⟩
  refine ⟨⟨rfl, Nat.le_of_ble_eq_true rfl⟩, v_X0_addWanted c x σ ?_⟩
  obtain ⟨h1, h2⟩ := hp
  have e6 : σ 23 2 < nI 6 ↔ nwC σ < 6 := by rw [show (σ 23 2 < nI 6) = (nI (tn (σ 23 2)) < nI 6) by rw [← h1], nI_ltI (tn_lt _) (by omega)]
  rw [e6]
  refine ⟨fun g => ⟨fun z => absurd z.1 g, fun _ => ⟨rfl, rfl⟩⟩, fun g => ⟨⟨24, 6, _, _, rfl, Or.inl ⟨rfl, rfl⟩, nwC σ, h1, h2⟩, ?_⟩⟩
  rintro x2 τ1 ⟨rfl, rfl⟩
  have e1 : kp_up τ1 24 (τ1 23 2).toNatClampNeg c 23 2 = τ1 23 2 := by simp (disch := decide) only [up_c, kp_up_eq, pk_us, pk_un]
  have e2 : kp_up (kp_up τ1 24 (τ1 23 2).toNatClampNeg c) 25 (τ1 23 2).toNatClampNeg x 23 2 = τ1 23 2 := by simp (disch := decide) only [up_c, kp_up_eq, pk_us, pk_un]
  rw [e1, e2, bI_0]
  have h3 : vp_in (τ1 23 2) 6 := by rw [h1]; exact (kp_in (tn_lt _)).mpr g
  have e3 : τ1 23 2 + nI 1 = nI (nwC τ1 + 1) := by rw [← nI_add]; exact congrArg (· + nI 1) h1
  rw [e3]
  refine ⟨fun g2 => ⟨h3, h3, ⟨rfl, trivial⟩, ?_⟩, fun g2 => ⟨fun z => ?_, fun _ => ⟨rfl, rfl⟩⟩⟩
  · rintro τ3 rfl
    have g2 := of_decide_eq_false g2
    refine ⟨fun _ => ⟨rfl, ?_⟩, fun z => absurd ⟨g, fun j hj e => g2 ⟨j, hj, e⟩⟩ z⟩
    simp (disch := decide) only [up_c, kp_up_eq, pk_us, pk_un]
  · have g2 := of_decide_eq_true (show decide _ = true by simpa using g2)
    obtain ⟨j, hj, e⟩ := g2
    exact absurd e (z.2 j hj)
def pr_X0_addOffered : SPre := fun As σ => ∃ s : Int32, As = [.ref 23, .int s] ∧ (nn (σ 23 4) ∧ noC σ ≤ 8)
def po_X0_addOffered : SPost := fun As σ r τ => match As with
  | [.ref _, .int s] => ((noC σ < 8 ∧ (∀ j, j < noC σ → σ 26 j ≠ s) → τ = kp_up (kp_up (kp_up σ 26 (noC σ) s) 23 4 (nI (noC σ + 1))) 23 5 (nI 0) ∧ r = nI (noC σ + 1)) ∧ (¬ (noC σ < 8 ∧ (∀ j, j < noC σ → σ 26 j ≠ s)) → τ = σ ∧ r = -1))
  | _ => True
def ms_X0_addOffered : List Me := [(56, 1, 0, 3, true, pr_X0_isAmong, po_X0_isAmong), (53, 0, 0, 0, false, pr_X0_forget, po_X0_forget)]
theorem mk_X0_addOffered : ∀ q ∈ ms_X0_addOffered, kp_okM layC RX0 1 q := List.forall_mem_cons.mpr ⟨Or.inl ⟨0, yX0_isAmong, cX0_isAmong, 4, (some .boolean), c_X0_isAmong, by omega, by decide, rfl, lk_X0_56⟩, List.forall_mem_cons.mpr ⟨Or.inl ⟨0, yX0_forget, cX0_forget, 1, none, c_X0_forget, by omega, by decide, rfl, lk_X0_53⟩, fun _ h => absurd h List.not_mem_nil⟩⟩
set_option maxRecDepth 100000 in
theorem v_X0_addOffered {J : Nat → Lcl → List Value → Sg → Prop} {Q : Int32 → Sg → Prop} (s : Int32) (σ : Sg) (h : (¬ (σ 23 4) < (nI 8) → Q (-1) σ) ∧ ((σ 23 4) < (nI 8) → pr_X0_isAmong [.ref 26, .int (σ 23 4), .int s] σ ∧ ∀ (x2 : Int32) (τ1 : Sg), po_X0_isAmong [.ref 26, .int (σ 23 4), .int s] σ x2 τ1 → ((x2 = (nI 0) → vp_in (τ1 23 4) 8 ∧ (pr_X0_forget [.ref 23] (kp_up (kp_up τ1 26 (τ1 23 4).toNatClampNeg s) 23 4 (((kp_up τ1 26 (τ1 23 4).toNatClampNeg s) 23 4) + (nI 1))) ∧ ∀ (τ3 : Sg), po_X0_forget [.ref 23] (kp_up (kp_up τ1 26 (τ1 23 4).toNatClampNeg s) 23 4 (((kp_up τ1 26 (τ1 23 4).toNatClampNeg s) 23 4) + (nI 1))) (nI 0) τ3 → (Q (τ3 23 4) τ3))) ∧ (¬ x2 = (nI 0) → Q (-1) τ1)))) : kp_T layC gl_X0 pl_X0 (ms_X0_addOffered) tb_X0_addOffered (kp_rk (some .int)) J Q 35 tb_X0_addOffered (kp_en [.ref 23, .int s] 2) [] σ := h
set_option maxRecDepth 100000 in
set_option maxHeartbeats 4000000 in
theorem c_X0_addOffered : kp_Met layC 1 yX0_addOffered cX0_addOffered 2 (some .int) (pr_X0_addOffered) (po_X0_addOffered) := by
  refine kp_met (N := 35) (by decide) tk_X0_addOffered gk_X0 pk_X0 (mk_X0_addOffered) rfl (fun _ _ _ _ _ _ _ => False) ?_ (fun _ _ _ _ _ _ _ _ h => h.elim)
  rintro As σ ⟨s, rfl, hp⟩
  refine ⟨⟨rfl, Nat.le_of_ble_eq_true rfl⟩, v_X0_addOffered s σ ?_⟩
  obtain ⟨h1, h2⟩ := hp
  have e6 : σ 23 4 < nI 8 ↔ noC σ < 8 := by rw [show (σ 23 4 < nI 8) = (nI (tn (σ 23 4)) < nI 8) by rw [← h1], nI_ltI (tn_lt _) (by omega)]
  rw [e6]
  refine ⟨fun g => ⟨fun z => absurd z.1 g, fun _ => ⟨rfl, rfl⟩⟩, fun g => ⟨⟨26, 8, _, _, rfl, Or.inr ⟨rfl, rfl⟩, noC σ, h1, h2⟩, ?_⟩⟩
  rintro x2 τ1 ⟨rfl, rfl⟩
  have e1 : kp_up τ1 26 (τ1 23 4).toNatClampNeg s 23 4 = τ1 23 4 := by simp (disch := decide) only [up_c, kp_up_eq, pk_us, pk_un]
  rw [e1, bI_0]
  have h3 : vp_in (τ1 23 4) 8 := by rw [h1]; exact (kp_in (tn_lt _)).mpr g
  have e3 : τ1 23 4 + nI 1 = nI (noC τ1 + 1) := by rw [← nI_add]; exact congrArg (· + nI 1) h1
  rw [e3]
  refine ⟨fun g2 => ⟨h3, ⟨rfl, trivial⟩, ?_⟩, fun g2 => ⟨fun z => ?_, fun _ => ⟨rfl, rfl⟩⟩⟩
  · rintro τ3 rfl
    have g2 := of_decide_eq_false g2
    refine ⟨fun _ => ⟨rfl, ?_⟩, fun z => absurd ⟨g, fun j hj e => g2 ⟨j, hj, e⟩⟩ z⟩
    simp (disch := decide) only [up_c, kp_up_eq, pk_us, pk_un]
  · have g2 := of_decide_eq_true (show decide _ = true by simpa using g2)
    obtain ⟨j, hj, e⟩ := g2
    exact absurd e (z.2 j hj)
/-! the search -/
abbrev pC (σ : Sg) : Nat → Nat → Nat := fun i s => tn (σ (30 + i) s)
abbrev mtC (σ : Sg) : Nat → Nat → Bool := fun i j => decide (¬ σ 37 (i * 6 + j) = nI 0)
abbrev LbC (σ : Sg) : Nat → Nat := fun i => tn (σ 36 i)
abbrev ofC (σ : Sg) : Nat → Nat := fun s => tn (σ 26 s)
abbrev trC (σ : Sg) : Nat → Nat := fun j => tn (σ 28 j)
def bsC (σ : Sg) : BS := if σ 23 6 = -1 then none else some (tn (σ 23 6), (List.range (nwC σ)).map fun i => tn (σ 27 i))
def srOK (σ : Sg) : Prop := (∀ i s, i < nwC σ → s < noC σ → nn (σ (30 + i) s) ∧ pC σ i s ≤ 110000) ∧ (∀ i, i ≤ nwC σ → nn (σ 36 i) ∧ LbC σ i ≤ 660000) ∧ LbC σ (nwC σ) = 0 ∧ ∀ i s, i < nwC σ → s < noC σ → LbC σ i ≤ pC σ i s + LbC σ (i + 1)
def pr_X0_isUntaken : SPre := fun As σ => ∃ i : Int32, ∃ s : Int32, As = [.ref 23, .int i, .int s] ∧ (∃ a b : Nat, i = nI a ∧ a < 6 ∧ s = nI b ∧ b < 2 ^ 31 ∧ ∀ j, j < a → nn (σ 28 j))
def po_X0_isUntaken : SPost := fun As σ r τ => match As with
  | [.ref _, .int i, .int s] => (τ = σ ∧ r = bI (okT (mtC σ) (trC σ) (tn i) (tn s)))
  | _ => True
def ms_X0_isUntaken : List Me := []
theorem mk_X0_isUntaken : ∀ q ∈ ms_X0_isUntaken, kp_okM layC RX0 0 q := fun _ h => absurd h List.not_mem_nil
set_option maxRecDepth 100000 in
theorem v_X0_isUntaken {J : Nat → Lcl → List Value → Sg → Prop} {Q : Int32 → Sg → Prop} (i s : Int32) (σ : Sg) (h : J 2 [some (.ref 23), some (.int i), some (.int s), some (.int (nI 0))] [] σ) : kp_T layC gl_X0 pl_X0 (ms_X0_isUntaken) tb_X0_isUntaken (kp_rk (some .boolean)) J Q 31 tb_X0_isUntaken (kp_en [.ref 23, .int i, .int s] 4) [] σ := h
set_option maxRecDepth 100000 in
theorem v_X0_isUntaken_2 {J : Nat → Lcl → List Value → Sg → Prop} {Q : Int32 → Sg → Prop} (i s j : Int32) (σ : Sg) (h : (¬ j < i → ((nI 1) = nI 0 ∨ (nI 1) = nI 1) ∧ Q (nI 1) σ) ∧ (j < i → vp_in j 6 ∧ ((¬ (σ 28 (j).toNatClampNeg) = s → J 2 [some (.ref 23), some (.int i), some (.int s), some (.int (j + nI 1))] [] σ) ∧ ((σ 28 (j).toNatClampNeg) = s → vp_in ((i * (nI 6)) + j) 36 ∧ (((σ 37 ((i * (nI 6)) + j).toNatClampNeg) = (nI 0) → J 2 [some (.ref 23), some (.int i), some (.int s), some (.int (j + nI 1))] [] σ) ∧ (¬ (σ 37 ((i * (nI 6)) + j).toNatClampNeg) = (nI 0) → ((nI 0) = nI 0 ∨ (nI 0) = nI 1) ∧ Q (nI 0) σ)))))) : kp_T1 layC gl_X0 pl_X0 (ms_X0_isUntaken) tb_X0_isUntaken (kp_rk (some .boolean)) J Q 31 2 [some (.ref 23), some (.int i), some (.int s), some (.int j)] [] σ := h
abbrev iv_X0_isUntaken : List Value → Sg → Nat → Nat → Lcl → List Value → Sg → Prop := fun As σ n pc ls st τ => pc = 2 ∧ st = [] ∧ τ = σ ∧ ∃ (a b j : Nat), As = [.ref 23, .int (nI a), .int (nI b)] ∧ a < 6 ∧ b < 2 ^ 31 ∧ (∀ j, j < a → nn (σ 28 j)) ∧ j ≤ a ∧ n = a - j ∧ ls = [some (.ref 23), some (.int (nI a)), some (.int (nI b)), some (.int (nI j))] ∧ ∀ k, k < j → ¬ (trC σ k = b ∧ mtC σ a k = true)
set_option maxRecDepth 100000 in
set_option maxHeartbeats 4000000 in
theorem c_X0_isUntaken : kp_Met layC 0 yX0_isUntaken cX0_isUntaken 4 (some .boolean) (pr_X0_isUntaken) (po_X0_isUntaken) := by
  refine kp_met (N := 31) (by decide) tk_X0_isUntaken gk_X0 pk_X0 (mk_X0_isUntaken) rfl (iv_X0_isUntaken) ?_ ?_
  · rintro As σ ⟨i, s, rfl, hp⟩
    refine ⟨⟨rfl, Nat.le_of_ble_eq_true rfl⟩, v_X0_isUntaken i s σ ?_⟩
    obtain ⟨a, b, rfl, ha, rfl, hb, hn⟩ := hp
    exact ⟨a, rfl, rfl, rfl, a, b, 0, rfl, ha, hb, hn, by omega, by omega, rfl, fun k hk => by omega⟩
  · rintro As σ ⟨i, s, rfl, hp⟩ n pc ls st τ hI
    clear hp
    obtain ⟨rfl, rfl, rfl, a, b, j, hAs, ha, hb, hn, hj, rfl, rfl, hk⟩ := hI
    cases hAs
    refine v_X0_isUntaken_2 _ _ _ τ ?_
    rw [nI_ltI (by omega) (by omega), nI_clamp (show j < 2 ^ 31 by omega), show nI j + nI 1 = nI (j + 1) from nI_add _ _, pk_mul, nI_add, nI_clamp (show a * 6 + j < 2 ^ 31 by omega)]
    have ta : tn (nI a) = a := tn_nI (by omega)
    have tb : tn (nI b) = b := tn_nI hb
    have hnext : ¬ (trC τ j = b ∧ mtC τ a j = true) → j < a → ∃ n', n' < a - j ∧ iv_X0_isUntaken [.ref 23, .int (nI a), .int (nI b)] τ n' 2 [some (.ref 23), some (.int (nI a)), some (.int (nI b)), some (.int (nI (j + 1)))] [] τ := by
      intro h hja
      refine ⟨a - (j + 1), by omega, rfl, rfl, rfl, a, b, j + 1, rfl, ha, hb, hn, by omega, rfl, rfl, fun k hk' => ?_⟩
      by_cases e : k = j
      · subst e; exact h
      · exact hk k (by omega)
    refine ⟨fun g => ⟨Or.inr rfl, rfl, ?_⟩, fun g => ⟨(kp_in (by omega)).mpr (by omega), ?_⟩⟩
    · rw [ta, tb, show okT (mtC τ) (trC τ) a b = true from decide_eq_true (fun k hk' => hk k (by omega))]; rfl
    · have e1 : τ 28 j = nI b ↔ trC τ j = b := by
        rw [show (τ 28 j = nI b) = (nI (tn (τ 28 j)) = nI b) by rw [← hn j g], nI_eq (tn_lt _) hb]
      rw [e1]
      refine ⟨fun g2 => hnext (fun z => g2 z.1) g, fun g2 => ⟨(kp_in (by omega)).mpr (by omega), fun g3 => hnext (fun z => of_decide_eq_true z.2 g3) g, fun g3 => ⟨Or.inl rfl, rfl, ?_⟩⟩⟩
      rw [ta, tb, show okT (mtC τ) (trC τ) a b = false from decide_eq_false (fun z => z j g ⟨g2, decide_eq_true g3⟩)]; rfl
def pr_X0_remember : SPre := fun As σ => ∃ sum : Int32, As = [.ref 23, .int sum] ∧ (nn (σ 23 2) ∧ nwC σ ≤ 6 ∧ noC σ ≤ 8 ∧ ∀ j, j < nwC σ → nn (σ 28 j) ∧ trC σ j < noC σ)
def po_X0_remember : SPost := fun As σ r τ => match As with
  | [.ref _, .int sum] => (fr [23, 27] σ τ ∧ (∀ k, k ≠ 6 → τ 23 k = σ 23 k) ∧ τ 23 6 = sum ∧ ∀ j, j < nwC σ → τ 27 j = σ 26 (trC σ j))
  | _ => True
def ms_X0_remember : List Me := []
theorem mk_X0_remember : ∀ q ∈ ms_X0_remember, kp_okM layC RX0 0 q := fun _ h => absurd h List.not_mem_nil
set_option maxRecDepth 100000 in
theorem v_X0_remember {J : Nat → Lcl → List Value → Sg → Prop} {Q : Int32 → Sg → Prop} (sum : Int32) (σ : Sg) (h : J 7 [some (.ref 23), some (.int sum), some (.int (nI 0))] [] (kp_up σ 23 6 sum)) : kp_T layC gl_X0 pl_X0 (ms_X0_remember) tb_X0_remember (kp_rk none) J Q 30 tb_X0_remember (kp_en [.ref 23, .int sum] 3) [] σ := h
set_option maxRecDepth 100000 in
theorem v_X0_remember_7 {J : Nat → Lcl → List Value → Sg → Prop} {Q : Int32 → Sg → Prop} (sum i : Int32) (σ : Sg) (h : (¬ i < (σ 23 2) → Q (nI 0) σ) ∧ (i < (σ 23 2) → vp_in i 6 ∧ (vp_in (σ 28 (i).toNatClampNeg) 8 ∧ (vp_in i 6 ∧ (J 7 [some (.ref 23), some (.int sum), some (.int (i + nI 1))] [] (kp_up σ 27 (i).toNatClampNeg (σ 26 (σ 28 (i).toNatClampNeg).toNatClampNeg))))))) : kp_T1 layC gl_X0 pl_X0 (ms_X0_remember) tb_X0_remember (kp_rk none) J Q 30 7 [some (.ref 23), some (.int sum), some (.int i)] [] σ := h
abbrev iv_X0_remember : List Value → Sg → Nat → Nat → Lcl → List Value → Sg → Prop := fun As σ n pc ls st τ => pc = 7 ∧ st = [] ∧ ∃ (sum : Int32) (i : Nat), As = [.ref 23, .int sum] ∧ i ≤ nwC σ ∧ n = nwC σ - i ∧ ls = [some (.ref 23), some (.int sum), some (.int (nI i))] ∧ fr [23, 27] σ τ ∧ (∀ k, k ≠ 6 → τ 23 k = σ 23 k) ∧ τ 23 6 = sum ∧ ∀ j, j < i → τ 27 j = σ 26 (trC σ j)
set_option maxRecDepth 100000 in
set_option maxHeartbeats 4000000 in
theorem c_X0_remember : kp_Met layC 0 yX0_remember cX0_remember 3 none (pr_X0_remember) (po_X0_remember) := by
  refine kp_met (N := 30) (by decide) tk_X0_remember gk_X0 pk_X0 (mk_X0_remember) rfl (iv_X0_remember) ?_ ?_
  · rintro As σ ⟨sum, rfl, hp⟩
    refine ⟨⟨rfl, Nat.le_of_ble_eq_true rfl⟩, v_X0_remember sum σ ?_⟩
    refine ⟨nwC σ, rfl, rfl, sum, 0, rfl, by omega, by omega, rfl, fr_up fr_rf (by decide), fun k hk => by rw [up_n hk], by rw [up_s], fun j hj => by omega⟩
  · rintro As σ ⟨sum, rfl, hp⟩ n pc ls st τ hI
    obtain ⟨h1, h2, h3, h4⟩ := hp
    obtain ⟨rfl, rfl, sum', i, hAs, hi, rfl, rfl, hf, hk, h6, hj⟩ := hI
    cases hAs
    have q2 : τ 23 2 = σ 23 2 := hk 2 (by decide)
    have q26 : τ 26 = σ 26 := hf 26 (by decide)
    have q28 : τ 28 = σ 28 := hf 28 (by decide)
    refine v_X0_remember_7 _ _ τ ?_
    have e1 : nI i < σ 23 2 ↔ i < nwC σ := by rw [show (nI i < σ 23 2) = (nI i < nI (tn (σ 23 2))) by rw [← h1], nI_ltI (by omega) (tn_lt _)]
    rw [q2, e1, nI_clamp (show i < 2 ^ 31 by omega), show nI i + nI 1 = nI (i + 1) from nI_add _ _, q26, q28]
    refine ⟨fun g => ⟨hf, hk, h6, fun j hj' => hj j (by omega)⟩, fun g => ?_⟩
    obtain ⟨w1, w2⟩ := h4 i g
    refine ⟨(kp_in (by omega)).mpr (by omega), ?_, (kp_in (by omega)).mpr (by omega), nwC σ - (i + 1), by omega, rfl, rfl, sum, i + 1, rfl, by omega, rfl, rfl, fr_up hf (by decide), fun k hk' => ?_, ?_, fun j hj' => ?_⟩
    · rw [w1]; exact (kp_in (tn_lt _)).mpr (by have : tn (σ 28 i) < noC σ := w2; omega)
    · rw [up_c (by decide)]; exact hk k hk'
    · rw [up_c (by decide)]; exact h6
    · by_cases e : j = i
      · subst e; rw [up_s]; rfl
      · rw [up_n e]; exact hj j (by omega)
