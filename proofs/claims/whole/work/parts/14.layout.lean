/-! what rows mean: KeyPlan$Layout -/
noncomputable def dc (P : Prop) : Bool := @decide P (Classical.propDecidable P)
theorem dc_t {P : Prop} (h : P) : dc P = true := @decide_eq_true P (Classical.propDecidable P) h
theorem dc_f {P : Prop} (h : ¬ P) : dc P = false := @decide_eq_false P (Classical.propDecidable P) h
theorem dc_iff {P : Prop} : dc P = true ↔ P := ⟨fun h => @of_decide_eq_true P (Classical.propDecidable P) h, dc_t⟩
theorem dc_iff0 {P : Prop} : dc P = false ↔ ¬ P := ⟨fun h => @of_decide_eq_false P (Classical.propDecidable P) h, dc_f⟩
theorem dc_congr {P Q : Prop} (h : P ↔ Q) : dc P = dc Q := by rw [propext h]
/-- what a row means in a context -/
def mean (o M : Nat → Int32) (r : Nat) : Nat → Nat → Int32
  | 0, _ => -1
  | f + 1, c => if M (c * 16777216 + r) = -1 then (if o c = -1 then -1 else mean o M r f (tn (o c))) else if M (c * 16777216 + r) = nI 40 then -1 else M (c * 16777216 + r)
theorem mean_s (o M : Nat → Int32) (r f c : Nat) : mean o M r (f + 1) c = if M (c * 16777216 + r) = -1 then (if o c = -1 then -1 else mean o M r f (tn (o c))) else if M (c * 16777216 + r) = nI 40 then -1 else M (c * 16777216 + r) := rfl
theorem mean_fuel {o M : Nat → Int32} {nn : Int32} {r : Nat} (h : ctxOK o nn) : ∀ (f g c : Nat), c < tn nn → c < f → c < g → mean o M r f c = mean o M r g c
  | 0, _, _, _, h1, _ => absurd h1 (Nat.not_lt_zero _)
  | _, 0, _, _, _, h1 => absurd h1 (Nat.not_lt_zero _)
  | f + 1, g + 1, c, hc, h1, h2 => by
    obtain ⟨n, rfl, hn1, hn2, h3, h4⟩ := id h
    rw [tn_nI (by omega)] at hc
    rw [mean_s, mean_s]
    by_cases h0 : c = 0
    · subst h0; rw [h3, if_pos rfl, if_pos rfl]
    · obtain ⟨p, hp, he⟩ := h4 c (by omega) hc
      rw [he, tn_nI (by omega), mean_fuel h f g p (by rw [tn_nI (by omega)]; omega) (by omega) (by omega)]
theorem mean_in {o M : Nat → Int32} {r : Nat} : ∀ (f c : Nat), mean o M r f c ≠ -1 → ∃ c', M (c' * 16777216 + r) ≠ -1 ∧ mean o M r f c = M (c' * 16777216 + r) ∧ M (c' * 16777216 + r) ≠ nI 40
  | 0, _, h => absurd rfl h
  | f + 1, c, h => by
    rw [mean_s] at h ⊢
    by_cases h1 : M (c * 16777216 + r) = -1
    · rw [if_pos h1] at h ⊢
      by_cases h2 : o c = -1
      · rw [if_pos h2] at h; exact absurd rfl h
      · rw [if_neg h2] at h ⊢; exact mean_in f _ h
    · rw [if_neg h1] at h ⊢
      by_cases h2 : M (c * 16777216 + r) = nI 40
      · rw [if_pos h2] at h; exact absurd rfl h
      · rw [if_neg h2] at h ⊢; exact ⟨c, h1, rfl, h2⟩
theorem mean_congr {o o' M M' : Nat → Int32} {r : Nat} {nn : Int32} (h : ctxOK o nn) (ho : ∀ c, c < tn nn → o' c = o c) (hM : ∀ k, M' k = M k) : ∀ (f c : Nat), c < tn nn → mean o' M' r f c = mean o M r f c
  | 0, _, _ => rfl
  | f + 1, c, hc => by
    rw [mean_s, mean_s, hM, ho c hc]
    obtain ⟨n, rfl, hn1, hn2, h3, h4⟩ := id h
    rw [tn_nI (by omega)] at hc
    by_cases h0 : c = 0
    · subst h0; rw [h3, if_pos rfl, if_pos rfl]
    · obtain ⟨p, hp, he⟩ := h4 c (by omega) hc
      rw [he, tn_nI (by omega), mean_congr h ho hM f p (by rw [tn_nI (by omega)]; omega)]
/-- contexts and map as they should be -/
def LI (σ : Sg) : Prop := ctxOK (σ 3) (σ 2 1) ∧ bOK (σ 5) (σ 6) (σ 4 2)
def pr_X5_meaning : SPre := fun As σ => ∃ ctx : Int32, ∃ row : Int32, As = [.ref 1, .int ctx, .int row] ∧ (LI σ ∧ ∃ c r : Nat, ctx = nI c ∧ c < tn (σ 2 1) ∧ row = nI r ∧ r < 16777216)
def po_X5_meaning : SPost := fun As σ r τ => match As with
  | [.ref _, .int ctx, .int row] => (τ = σ ∧ r = mean (σ 3) (mC σ) (tn row) 12 (tn ctx))
  | _ => True
def ms_X5_meaning : List Me := [(25, 1, 1, 2, true, pr_X1_key, po_X1_key), (29, 0, 1, 1, true, pr_X1_at, po_X1_at), (33, 0, 2, 1, true, pr_X2_outsideOf, po_X2_outsideOf)]
theorem mk_X5_meaning : ∀ q ∈ ms_X5_meaning, kp_okM layC RX5 2 q := List.forall_mem_cons.mpr ⟨Or.inl ⟨0, yX1_key, cX1_key, 2, (some .int), c_X1_key, by omega, by decide, rfl, lk_X5_25⟩, List.forall_mem_cons.mpr ⟨Or.inl ⟨1, yX1_at, cX1_at, 3, (some .int), c_X1_at, by omega, by decide, rfl, lk_X5_29⟩, List.forall_mem_cons.mpr ⟨Or.inl ⟨1, yX2_outsideOf, cX2_outsideOf, 2, (some .int), c_X2_outsideOf, by omega, by decide, rfl, lk_X5_33⟩, fun _ h => absurd h List.not_mem_nil⟩⟩⟩
set_option maxRecDepth 100000 in
theorem v_X5_meaning {J : Nat → Lcl → List Value → Sg → Prop} {Q : Int32 → Sg → Prop} (ctx row : Int32) (σ : Sg) (h : J 5 [some (.ref 1), some (.int ctx), some (.int row), some (.int ctx), some (.int (nI 0)), none] [] σ) : kp_T layC gl_X5 pl_X5 (ms_X5_meaning) tb_X5_meaning (kp_rk (some .int)) J Q 41 tb_X5_meaning (kp_en [.ref 1, .int ctx, .int row] 6) [] σ := h
set_option maxRecDepth 100000 in
theorem v_X5_meaning_5 {J : Nat → Lcl → List Value → Sg → Prop} {Q : Int32 → Sg → Prop} (ctx row a1 steps : Int32) (o5 : Option Value) (σ : Sg) (h : (¬ steps < (nI 12) → Q (-1) σ) ∧ (steps < (nI 12) → (a1 = (-1) → Q (-1) σ) ∧ (¬ a1 = (-1) → pr_X1_key [.int a1, .int row] σ ∧ ∀ (x2 : Int32) (τ1 : Sg), po_X1_key [.int a1, .int row] σ x2 τ1 → (pr_X1_at [.ref 4, .int x2] τ1 ∧ ∀ (x4 : Int32) (τ3 : Sg), po_X1_at [.ref 4, .int x2] τ1 x4 τ3 → ((x4 = (-1) → pr_X2_outsideOf [.ref 2, .int a1] τ3 ∧ ∀ (x6 : Int32) (τ5 : Sg), po_X2_outsideOf [.ref 2, .int a1] τ3 x6 τ5 → (J 5 [some (.ref 1), some (.int ctx), some (.int row), some (.int x6), some (.int (steps + nI 1)), some (.int x4)] [] τ5)) ∧ (¬ x4 = (-1) → (¬ x4 = (nI 40) → Q x4 τ3) ∧ (x4 = (nI 40) → Q (-1) τ3))))))) : kp_T1 layC gl_X5 pl_X5 (ms_X5_meaning) tb_X5_meaning (kp_rk (some .int)) J Q 41 5 [some (.ref 1), some (.int ctx), some (.int row), some (.int a1), some (.int steps), o5] [] σ := h
abbrev iv_X5_meaning : List Value → Sg → Nat → Nat → Lcl → List Value → Sg → Prop := fun As σ n pc ls st τ => pc = 5 ∧ st = [] ∧ τ = σ ∧ ∃ (c0 r sp : Nat) (a1 : Int32) (o5 : Option Value), As = [.ref 1, .int (nI c0), .int (nI r)] ∧ ls = [some (.ref 1), some (.int (nI c0)), some (.int (nI r)), some (.int a1), some (.int (nI sp)), o5] ∧ sp ≤ 12 ∧ n = 12 - sp ∧ c0 < 2 ^ 31 ∧ r < 16777216 ∧ ((a1 = -1 ∧ mean (σ 3) (mC σ) r 12 c0 = -1) ∨ ∃ c, a1 = nI c ∧ c < tn (σ 2 1) ∧ mean (σ 3) (mC σ) r 12 c0 = mean (σ 3) (mC σ) r (12 - sp) c)
set_option maxRecDepth 100000 in
set_option maxHeartbeats 4000000 in
theorem c_X5_meaning : kp_Met layC 2 yX5_meaning cX5_meaning 6 (some .int) (pr_X5_meaning) (po_X5_meaning) := by
  refine kp_met (N := 41) (by decide) tk_X5_meaning gk_X5 pk_X5 (mk_X5_meaning) rfl (iv_X5_meaning) ?_ ?_
  · rintro As σ ⟨ctx, row, rfl, hp⟩
    refine ⟨⟨rfl, Nat.le_of_ble_eq_true rfl⟩, v_X5_meaning ctx row σ ?_⟩
    obtain ⟨hL, c, r, rfl, hc, rfl, hr⟩ := hp
    have := tn_lt (σ 2 1)
    exact ⟨12, rfl, rfl, rfl, c, r, 0, nI c, none, rfl, rfl, by omega, rfl, by omega, hr, Or.inr ⟨c, rfl, hc, rfl⟩⟩
  · rintro As σ ⟨ctx, row, rfl, hp⟩ n pc ls st τ hI
    obtain ⟨⟨hc, hbo⟩, -⟩ := hp
    obtain ⟨rfl, rfl, rfl, c0, r, sp, a1, o5, hAs, rfl, hsp, rfl, hc0, hr, hw⟩ := hI
    cases hAs
    obtain ⟨nn, hn, hn1, hn2, h3, h4⟩ := id hc
    have htn : tn (τ 2 1) = nn := by rw [hn, tn_nI (by omega)]
    rw [htn] at hw
    refine v_X5_meaning_5 _ _ _ _ o5 τ ?_
    rw [nI_ltI (by omega) (by omega)]
    have hQ : ∀ x, mean (τ 3) (mC τ) r 12 c0 = x → po_X5_meaning [.ref 1, .int (nI c0), .int (nI r)] τ x τ := by
      rintro x rfl
      exact ⟨rfl, by rw [tn_nI (show r < 2 ^ 31 by omega), tn_nI hc0]⟩
    refine ⟨fun h1 => hQ _ ?_, fun h1 => ⟨fun h2 => hQ _ ?_, fun h2 => ?_⟩⟩
    · rcases hw with ⟨-, hw⟩ | ⟨c, -, -, hw⟩
      · exact hw
      · rw [hw, show 12 - sp = 0 by omega]; rfl
    · rcases hw with ⟨-, hw⟩ | ⟨c, rfl, hlt, hw⟩
      · exact hw
      · exact absurd h2 (nI_m1 (by omega))
    · rcases hw with ⟨e, -⟩ | ⟨c, rfl, hlt, hw⟩
      · exact absurd e h2
      · rw [show 12 - sp = (12 - (sp + 1)) + 1 by omega, mean_s _ _ r (12 - (sp + 1)) c] at hw
        refine ⟨⟨_, _, rfl, c, r, rfl, by omega, rfl, hr⟩, ?_⟩
        rintro x2 τ1 ⟨rfl, rfl⟩
        rw [tn_nI (show c < 2 ^ 31 by omega), tn_nI (show r < 2 ^ 31 by omega)]
        refine ⟨⟨4, _, rfl, Or.inl rfl, hbo, c * 16777216 + r, rfl, by omega⟩, ?_⟩
        rintro x4 τ3 ⟨rfl, rfl⟩
        rw [tn_nI (show c * 16777216 + r < 2 ^ 31 by omega)]
        show (mC τ3 (c * 16777216 + r) = -1 → _) ∧ (¬ mC τ3 (c * 16777216 + r) = -1 → (¬ mC τ3 (c * 16777216 + r) = nI 40 → po_X5_meaning _ _ (mC τ3 (c * 16777216 + r)) _) ∧ _)
        refine ⟨fun h5 => ⟨⟨_, rfl, hc⟩, ?_⟩, fun h5 => ⟨fun h6 => hQ _ (by rw [hw, if_neg h5, if_neg h6]), fun h6 => hQ _ (by rw [hw, if_neg h5, if_pos h6])⟩⟩
        rintro x6 τ5 ⟨rfl, rfl⟩
        rw [if_pos (by rw [hn, isCx_iff (by omega)]; exact ⟨c, hlt, rfl⟩), tn_nI (by omega), nI_add]
        refine ⟨12 - (sp + 1), by omega, rfl, rfl, rfl, c0, r, sp + 1, _, _, rfl, rfl, by omega, rfl, hc0, hr, ?_⟩
        rw [htn]
        rw [if_pos h5] at hw
        by_cases h0 : c = 0
        · subst h0
          rw [h3, if_pos rfl] at hw
          exact Or.inl ⟨h3, hw⟩
        · obtain ⟨p, hp, he⟩ := h4 c (by omega) hlt
          rw [he, if_neg (nI_m1 (by omega)), tn_nI (by omega)] at hw
          exact Or.inr ⟨p, he, by omega, hw⟩
/-- a longer row that begins so means something -/
def opensP (o M : Nat → Int32) (c line : Nat) : Prop := ∃ r, r < 16777216 ∧ r ≠ line ∧ r % 256 ^ rlen line = line ∧ mean o M r 12 c ≠ -1
theorem key_div {c r : Nat} (h : r < 16777216) : (c * 16777216 + r) / 16777216 = c ∧ (c * 16777216 + r) % 16777216 = r := by omega
theorem row_in {σ : Sg} {z r c : Nat} (hz : σ 4 2 = nI z) (h1 : z ≤ 120) (hr : r < 16777216) (h : mean (σ 3) (mC σ) r 12 c ≠ -1) : ∃ i, i < z ∧ tn (σ 5 i) % 16777216 = r := by
  obtain ⟨c', h2, -⟩ := mean_in _ _ h
  have h2 : mpC (σ 5) (σ 6) (σ 4 2) (c' * 16777216 + r) ≠ -1 := h2
  rw [hz] at h2
  obtain ⟨i, hi, e⟩ := mpC_some h1 h2
  exact ⟨i, hi, by rw [e]; omega⟩
def pr_X5_opensLonger : SPre := fun As σ => ∃ ctx : Int32, ∃ line : Int32, As = [.ref 1, .int ctx, .int line] ∧ (LI σ ∧ ∃ c l : Nat, ctx = nI c ∧ c < tn (σ 2 1) ∧ line = nI l ∧ l < 16777216)
def po_X5_opensLonger : SPost := fun As σ r τ => match As with
  | [.ref _, .int ctx, .int line] => (τ = σ ∧ r = bI (dc (opensP (σ 3) (mC σ) (tn ctx) (tn line))))
  | _ => True
def ms_X5_opensLonger : List Me := [(51, 1, 1, 1, true, pr_X1_rowOf, po_X1_rowOf), (54, 1, 0, 2, true, pr_X7_beginsWith, po_X7_beginsWith), (36, 0, 5, 2, true, pr_X5_meaning, po_X5_meaning)]
theorem mk_X5_opensLonger : ∀ q ∈ ms_X5_opensLonger, kp_okM layC RX5 3 q := List.forall_mem_cons.mpr ⟨Or.inl ⟨0, yX1_rowOf, cX1_rowOf, 1, (some .int), c_X1_rowOf, by omega, by decide, rfl, lk_X5_51⟩, List.forall_mem_cons.mpr ⟨Or.inl ⟨2, yX7_beginsWith, cX7_beginsWith, 2, (some .boolean), c_X7_beginsWith, by omega, by decide, rfl, lk_X5_54⟩, List.forall_mem_cons.mpr ⟨Or.inl ⟨2, yX5_meaning, cX5_meaning, 6, (some .int), c_X5_meaning, by omega, by decide, rfl, lk_X5_36⟩, fun _ h => absurd h List.not_mem_nil⟩⟩⟩
set_option maxRecDepth 100000 in
theorem v_X5_opensLonger {J : Nat → Lcl → List Value → Sg → Prop} {Q : Int32 → Sg → Prop} (ctx line : Int32) (σ : Sg) (h : J 2 [some (.ref 1), some (.int ctx), some (.int line), some (.int (nI 0)), none] [] σ) : kp_T layC gl_X5 pl_X5 (ms_X5_opensLonger) tb_X5_opensLonger (kp_rk (some .boolean)) J Q 38 tb_X5_opensLonger (kp_en [.ref 1, .int ctx, .int line] 5) [] σ := h
set_option maxRecDepth 100000 in
theorem v_X5_opensLonger_2 {J : Nat → Lcl → List Value → Sg → Prop} {Q : Int32 → Sg → Prop} (ctx line i : Int32) (o4 : Option Value) (σ : Sg) (h : (¬ i < (σ 4 2) → ((nI 0) = nI 0 ∨ (nI 0) = nI 1) ∧ Q (nI 0) σ) ∧ (i < (σ 4 2) → vp_in i 120 ∧ (pr_X1_rowOf [.int (σ 5 (i).toNatClampNeg)] σ ∧ ∀ (x2 : Int32) (τ1 : Sg), po_X1_rowOf [.int (σ 5 (i).toNatClampNeg)] σ x2 τ1 → ((x2 = line → J 2 [some (.ref 1), some (.int ctx), some (.int line), some (.int (i + nI 1)), some (.int x2)] [] τ1) ∧ (¬ x2 = line → pr_X7_beginsWith [.int x2, .int line] τ1 ∧ ∀ (x4 : Int32) (τ3 : Sg), po_X7_beginsWith [.int x2, .int line] τ1 x4 τ3 → ((x4 = (nI 0) → J 2 [some (.ref 1), some (.int ctx), some (.int line), some (.int (i + nI 1)), some (.int x2)] [] τ3) ∧ (¬ x4 = (nI 0) → pr_X5_meaning [.ref 1, .int ctx, .int x2] τ3 ∧ ∀ (x6 : Int32) (τ5 : Sg), po_X5_meaning [.ref 1, .int ctx, .int x2] τ3 x6 τ5 → ((x6 = (-1) → J 2 [some (.ref 1), some (.int ctx), some (.int line), some (.int (i + nI 1)), some (.int x2)] [] τ5) ∧ (¬ x6 = (-1) → ((nI 1) = nI 0 ∨ (nI 1) = nI 1) ∧ Q (nI 1) τ5))))))))) : kp_T1 layC gl_X5 pl_X5 (ms_X5_opensLonger) tb_X5_opensLonger (kp_rk (some .boolean)) J Q 38 2 [some (.ref 1), some (.int ctx), some (.int line), some (.int i), o4] [] σ := h
abbrev iv_X5_opensLonger : List Value → Sg → Nat → Nat → Lcl → List Value → Sg → Prop := fun As σ n pc ls st τ => pc = 2 ∧ st = [] ∧ τ = σ ∧ ∃ (c l i z : Nat) (o4 : Option Value), As = [.ref 1, .int (nI c), .int (nI l)] ∧ ls = [some (.ref 1), some (.int (nI c)), some (.int (nI l)), some (.int (nI i)), o4] ∧ σ 4 2 = nI z ∧ z ≤ 120 ∧ i ≤ z ∧ n = z - i ∧ c < tn (σ 2 1) ∧ l < 16777216 ∧ ∀ j, j < i → ¬ (tn (σ 5 j) % 16777216 ≠ l ∧ tn (σ 5 j) % 16777216 % 256 ^ rlen l = l ∧ mean (σ 3) (mC σ) (tn (σ 5 j) % 16777216) 12 c ≠ -1)
set_option maxRecDepth 100000 in
set_option maxHeartbeats 4000000 in
theorem c_X5_opensLonger : kp_Met layC 3 yX5_opensLonger cX5_opensLonger 5 (some .boolean) (pr_X5_opensLonger) (po_X5_opensLonger) := by
  refine kp_met (N := 38) (by decide) tk_X5_opensLonger gk_X5 pk_X5 (mk_X5_opensLonger) rfl (iv_X5_opensLonger) ?_ ?_
  · rintro As σ ⟨ctx, line, rfl, hp⟩
    refine ⟨⟨rfl, Nat.le_of_ble_eq_true rfl⟩, v_X5_opensLonger ctx line σ ?_⟩
    obtain ⟨⟨hc, z, hz, h1, h2⟩, c, l, rfl, h3, rfl, h4⟩ := hp
    exact ⟨z, rfl, rfl, rfl, c, l, 0, z, none, rfl, rfl, hz, h1, by omega, by omega, h3, h4, fun j hj => by omega⟩
  · rintro As σ ⟨ctx, line, rfl, hp⟩ n pc ls st τ hI
    obtain ⟨hL, -⟩ := hp
    obtain ⟨hc, hbo⟩ := id hL
    obtain ⟨rfl, rfl, rfl, c, l, i, z, o4, hAs, rfl, hz, h1, hi, rfl, hcn, hl, hj⟩ := hI
    cases hAs
    obtain ⟨z', hz', h1', h2, h3⟩ := id hbo
    have : z' = z := (nI_eq (by omega) (by omega)).mp (hz'.symm.trans hz)
    subst this
    have := tn_lt (τ 2 1)
    have ec : tn (nI c) = c := tn_nI (by omega)
    have el : tn (nI l) = l := tn_nI (by omega)
    refine v_X5_opensLonger_2 _ _ _ o4 τ ?_
    rw [hz, nI_ltI (by omega) (by omega)]
    refine ⟨fun g1 => ⟨Or.inl rfl, rfl, ?_⟩, fun g1 => ?_⟩
    · rw [ec, el, dc_f]
      · rfl
      · rintro ⟨r, hr, hne, hb, hm⟩
        obtain ⟨k, hk, e⟩ := row_in hz h1 hr hm
        exact hj k (by omega) (by rw [e]; exact ⟨hne, hb, hm⟩)
    · have hnext : ∀ (o : Option Value), (tn (τ 5 i) % 16777216 ≠ l → tn (τ 5 i) % 16777216 % 256 ^ rlen l = l → mean (τ 3) (mC τ) (tn (τ 5 i) % 16777216) 12 c = -1) → ∃ n', n' < z' - i ∧ iv_X5_opensLonger [.ref 1, .int (nI c), .int (nI l)] τ n' 2 [some (.ref 1), some (.int (nI c)), some (.int (nI l)), some (.int (nI (i + 1))), o] [] τ := by
        intro o hno
        refine ⟨z' - (i + 1), by omega, rfl, rfl, rfl, c, l, i + 1, z', o, rfl, rfl, hz, h1, by omega, rfl, hcn, hl, fun j hj' => ?_⟩
        by_cases e : j = i
        · subst e
          rintro ⟨a1, a2, a3⟩
          exact a3 (hno a1 a2)
        · exact hj j (by omega)
      have hkey := h2 i g1
      have hrow : tn (τ 5 i) % 16777216 < 16777216 := Nat.mod_lt _ (by decide)
      refine ⟨(kp_in (by omega)).mpr (by omega), ⟨_, rfl, tn (τ 5 i), by rw [nI_clamp (by omega)]; exact hkey.1, tn_lt _⟩, ?_⟩
      rw [nI_clamp (show i < 2 ^ 31 by omega), nI_add]
      rintro x2 τ1 ⟨rfl, rfl⟩
      rw [nI_eq (by omega) (by omega)]
      refine ⟨fun g2 => hnext _ (fun z => absurd g2 z), fun g2 => ⟨⟨_, _, rfl, _, l, rfl, hrow, rfl, hl⟩, ?_⟩⟩
      rintro x4 τ3 ⟨rfl, rfl⟩
      rw [bI_0, tn_nI (show tn (τ3 5 i) % 16777216 < 2 ^ 31 by omega), el]
      refine ⟨fun g3 => hnext _ (fun _ z => absurd z (of_decide_eq_false g3)), fun g3 => ⟨⟨_, _, rfl, hL, c, _, rfl, hcn, rfl, hrow⟩, ?_⟩⟩
      rintro x6 τ5 ⟨rfl, rfl⟩
      rw [tn_nI (show tn (τ5 5 i) % 16777216 < 2 ^ 31 by omega), ec]
      refine ⟨fun g4 => hnext _ (fun _ _ => g4), fun g4 => ⟨Or.inr rfl, rfl, ?_⟩⟩
      rw [ec, el, dc_t]
      · rfl
      · exact ⟨_, hrow, g2, of_decide_eq_true (show decide _ = true by simpa using g3), g4⟩
def pr_X5_isLive : SPre := fun As σ => ∃ ctx : Int32, ∃ line : Int32, As = [.ref 1, .int ctx, .int line] ∧ (LI σ ∧ ∃ c l : Nat, ctx = nI c ∧ c < tn (σ 2 1) ∧ line = nI l ∧ l < 16777216)
def po_X5_isLive : SPost := fun As σ r τ => match As with
  | [.ref _, .int ctx, .int line] => (τ = σ ∧ r = bI (dc (mean (σ 3) (mC σ) (tn line) 12 (tn ctx) ≠ -1 ∨ opensP (σ 3) (mC σ) (tn ctx) (tn line))))
  | _ => True
def ms_X5_isLive : List Me := [(36, 0, 5, 2, true, pr_X5_meaning, po_X5_meaning), (39, 0, 5, 2, true, pr_X5_opensLonger, po_X5_opensLonger)]
theorem mk_X5_isLive : ∀ q ∈ ms_X5_isLive, kp_okM layC RX5 4 q := List.forall_mem_cons.mpr ⟨Or.inl ⟨2, yX5_meaning, cX5_meaning, 6, (some .int), c_X5_meaning, by omega, by decide, rfl, lk_X5_36⟩, List.forall_mem_cons.mpr ⟨Or.inl ⟨3, yX5_opensLonger, cX5_opensLonger, 5, (some .boolean), c_X5_opensLonger, by omega, by decide, rfl, lk_X5_39⟩, fun _ h => absurd h List.not_mem_nil⟩⟩
set_option maxRecDepth 100000 in
theorem v_X5_isLive {J : Nat → Lcl → List Value → Sg → Prop} {Q : Int32 → Sg → Prop} (ctx line : Int32) (σ : Sg) (h : pr_X5_meaning [.ref 1, .int ctx, .int line] σ ∧ ∀ (x2 : Int32) (τ1 : Sg), po_X5_meaning [.ref 1, .int ctx, .int line] σ x2 τ1 → ((¬ x2 = (-1) → ((nI 1) = nI 0 ∨ (nI 1) = nI 1) ∧ Q (nI 1) τ1) ∧ (x2 = (-1) → pr_X5_opensLonger [.ref 1, .int ctx, .int line] τ1 ∧ ∀ (x4 : Int32) (τ3 : Sg), po_X5_opensLonger [.ref 1, .int ctx, .int line] τ1 x4 τ3 → ((x4 = (nI 0) → ((nI 0) = nI 0 ∨ (nI 0) = nI 1) ∧ Q (nI 0) τ3) ∧ (¬ x4 = (nI 0) → ((nI 1) = nI 0 ∨ (nI 1) = nI 1) ∧ Q (nI 1) τ3))))) : kp_T layC gl_X5 pl_X5 (ms_X5_isLive) tb_X5_isLive (kp_rk (some .boolean)) J Q 30 tb_X5_isLive (kp_en [.ref 1, .int ctx, .int line] 3) [] σ := h
set_option maxRecDepth 100000 in
set_option maxHeartbeats 4000000 in
theorem c_X5_isLive : kp_Met layC 4 yX5_isLive cX5_isLive 3 (some .boolean) (pr_X5_isLive) (po_X5_isLive) := by
  refine kp_met (N := 30) (by decide) tk_X5_isLive gk_X5 pk_X5 (mk_X5_isLive) rfl (fun _ _ _ _ _ _ _ => False) ?_ (fun _ _ _ _ _ _ _ _ h => h.elim)
  rintro As σ ⟨ctx, line, rfl, hp⟩
  refine ⟨⟨rfl, Nat.le_of_ble_eq_true rfl⟩, v_X5_isLive ctx line σ ?_⟩
  refine ⟨⟨_, _, rfl, hp⟩, ?_⟩
  rintro x2 τ1 ⟨rfl, rfl⟩
  refine ⟨fun h1 => ⟨Or.inr rfl, rfl, by rw [dc_t (Or.inl h1)]; rfl⟩, fun h1 => ⟨⟨_, _, rfl, hp⟩, ?_⟩⟩
  rintro x4 τ3 ⟨rfl, rfl⟩
  rw [bI_0, dc_iff0]
  refine ⟨fun h2 => ⟨Or.inl rfl, rfl, by rw [dc_f (fun h => h.elim (fun z => z h1) h2)]; rfl⟩, fun h2 => ⟨Or.inr rfl, rfl, by rw [dc_t (Or.inr (Classical.not_not.mp h2))]; rfl⟩⟩
/-- rising numbers -/
def srtA (g : Nat → Int32) (f : Nat) : Prop := (∀ i, i < f → g i = nI (tn (g i))) ∧ ∀ i j, i < j → j < f → tn (g i) < tn (g j)
theorem srtA_ins {g : Nat → Int32} {f p r : Nat} (h : srtA g f) (hp : p ≤ f) (hr : r < 2 ^ 31) (h1 : ∀ i, i < p → tn (g i) < r) (h2 : ∀ i, p ≤ i → i < f → r < tn (g i)) : srtA (upd (shU g p f) p (nI r)) (f + 1) ∧ ∀ k, (∃ i, i < f + 1 ∧ tn (upd (shU g p f) p (nI r) i) = k) ↔ (∃ i, i < f ∧ tn (g i) = k) ∨ k = r := by
  have hb : ∀ i, i < p → upd (shU g p f) p (nI r) i = g i := fun i hi => by simp only [upd, shU]; rw [if_neg (by omega), if_pos (by omega)]
  have hm : upd (shU g p f) p (nI r) p = nI r := by simp [upd]
  have ha : ∀ i, p ≤ i → i < f → upd (shU g p f) p (nI r) (i + 1) = g i := fun i hi hz' => by simp only [upd, shU]; rw [if_neg (by omega), if_neg (by omega), if_pos (by omega), Nat.add_sub_cancel]
  refine ⟨⟨fun i hi => ?_, fun i j hij hj => ?_⟩, fun k => ⟨?_, ?_⟩⟩
  · rcases Nat.lt_trichotomy i p with a | a | a
    · rw [hb i a]; exact h.1 i (by omega)
    · subst a; rw [hm, tn_nI hr]
    · obtain ⟨i, rfl⟩ : ∃ i', i = i' + 1 := ⟨i - 1, by omega⟩
      rw [ha i (by omega) (by omega)]; exact h.1 i (by omega)
  · rcases Nat.lt_trichotomy j p with a | a | a
    · rw [hb i (by omega), hb j a]; exact h.2 i j hij (by omega)
    · subst a; rw [hb i hij, hm, tn_nI hr]; exact h1 i hij
    · obtain ⟨j, rfl⟩ : ∃ j', j = j' + 1 := ⟨j - 1, by omega⟩
      rw [ha j (by omega) (by omega)]
      rcases Nat.lt_trichotomy i p with b | b | b
      · rw [hb i b]; exact h.2 i j (by omega) (by omega)
      · subst b; rw [hm, tn_nI hr]; exact h2 j (by omega) (by omega)
      · obtain ⟨i, rfl⟩ : ∃ i', i = i' + 1 := ⟨i - 1, by omega⟩
        rw [ha i (by omega) (by omega)]; exact h.2 i j (by omega) (by omega)
  · rintro ⟨i, hi, rfl⟩
    rcases Nat.lt_trichotomy i p with a | a | a
    · exact Or.inl ⟨i, by omega, by rw [hb i a]⟩
    · subst a; exact Or.inr (by rw [hm, tn_nI hr])
    · obtain ⟨i, rfl⟩ : ∃ i', i = i' + 1 := ⟨i - 1, by omega⟩
      exact Or.inl ⟨i, by omega, by rw [ha i (by omega) (by omega)]⟩
  · rintro (⟨i, hi, rfl⟩ | rfl)
    · by_cases a : i < p
      · exact ⟨i, by omega, by rw [hb i a]⟩
      · exact ⟨i + 1, by omega, by rw [ha i (by omega) hi]⟩
    · exact ⟨p, by omega, by rw [hm, tn_nI hr]⟩
def pr_X5_insertOnce : SPre := fun As σ => ∃ filled : Int32, ∃ row : Int32, As = [.ref 12, .int filled, .int row] ∧ (∃ f r : Nat, filled = nI f ∧ f < 120 ∧ row = nI r ∧ r < 2 ^ 31 ∧ srtA (σ 12) f)
def po_X5_insertOnce : SPost := fun As σ r τ => match As with
  | [.ref _, .int filled, .int row] => (fr [12] σ τ ∧ ∃ f' : Nat, r = nI f' ∧ f' ≤ tn filled + 1 ∧ srtA (τ 12) f' ∧ ∀ k, (∃ i, i < f' ∧ tn (τ 12 i) = k) ↔ (∃ i, i < tn filled ∧ tn (σ 12 i) = k) ∨ k = tn row)
  | _ => True
def ms_X5_insertOnce : List Me := []
theorem mk_X5_insertOnce : ∀ q ∈ ms_X5_insertOnce, kp_okM layC RX5 0 q := fun _ h => absurd h List.not_mem_nil
set_option maxRecDepth 100000 in
theorem v_X5_insertOnce {J : Nat → Lcl → List Value → Sg → Prop} {Q : Int32 → Sg → Prop} (filled row : Int32) (σ : Sg) (h : J 2 [some (.ref 12), some (.int filled), some (.int row), some (.int (nI 0)), none, none] [] σ) : kp_T layC gl_X5 pl_X5 (ms_X5_insertOnce) tb_X5_insertOnce (kp_rk (some .int)) J Q 60 tb_X5_insertOnce (kp_en [.ref 12, .int filled, .int row] 6) [] σ := h
set_option maxRecDepth 100000 in
theorem v_X5_insertOnce_2 {J : Nat → Lcl → List Value → Sg → Prop} {Q : Int32 → Sg → Prop} (filled row place : Int32) (o4 o5 : Option Value) (σ : Sg) (h : (¬ place < filled → (¬ place < filled → (¬ (nI 0) = (nI 0) → Q filled σ) ∧ ((nI 0) = (nI 0) → (filled < (nI 120) → J 55 [some (.ref 12), some (.int filled), some (.int row), some (.int place), some (.int (nI 0)), some (.int filled)] [] σ) ∧ (¬ filled < (nI 120) → Q filled σ))) ∧ (place < filled → vp_in place 120 ∧ ((¬ (σ 12 (place).toNatClampNeg) = row → (¬ (nI 0) = (nI 0) → Q filled σ) ∧ ((nI 0) = (nI 0) → (filled < (nI 120) → J 55 [some (.ref 12), some (.int filled), some (.int row), some (.int place), some (.int (nI 0)), some (.int filled)] [] σ) ∧ (¬ filled < (nI 120) → Q filled σ))) ∧ ((σ 12 (place).toNatClampNeg) = row → (¬ (nI 1) = (nI 0) → Q filled σ) ∧ ((nI 1) = (nI 0) → (filled < (nI 120) → J 55 [some (.ref 12), some (.int filled), some (.int row), some (.int place), some (.int (nI 1)), some (.int filled)] [] σ) ∧ (¬ filled < (nI 120) → Q filled σ)))))) ∧ (place < filled → vp_in place 120 ∧ ((¬ (σ 12 (place).toNatClampNeg) < row → (¬ place < filled → (¬ (nI 0) = (nI 0) → Q filled σ) ∧ ((nI 0) = (nI 0) → (filled < (nI 120) → J 55 [some (.ref 12), some (.int filled), some (.int row), some (.int place), some (.int (nI 0)), some (.int filled)] [] σ) ∧ (¬ filled < (nI 120) → Q filled σ))) ∧ (place < filled → vp_in place 120 ∧ ((¬ (σ 12 (place).toNatClampNeg) = row → (¬ (nI 0) = (nI 0) → Q filled σ) ∧ ((nI 0) = (nI 0) → (filled < (nI 120) → J 55 [some (.ref 12), some (.int filled), some (.int row), some (.int place), some (.int (nI 0)), some (.int filled)] [] σ) ∧ (¬ filled < (nI 120) → Q filled σ))) ∧ ((σ 12 (place).toNatClampNeg) = row → (¬ (nI 1) = (nI 0) → Q filled σ) ∧ ((nI 1) = (nI 0) → (filled < (nI 120) → J 55 [some (.ref 12), some (.int filled), some (.int row), some (.int place), some (.int (nI 1)), some (.int filled)] [] σ) ∧ (¬ filled < (nI 120) → Q filled σ)))))) ∧ ((σ 12 (place).toNatClampNeg) < row → J 2 [some (.ref 12), some (.int filled), some (.int row), some (.int (place + nI 1)), o4, o5] [] σ)))) : kp_T1 layC gl_X5 pl_X5 (ms_X5_insertOnce) tb_X5_insertOnce (kp_rk (some .int)) J Q 60 2 [some (.ref 12), some (.int filled), some (.int row), some (.int place), o4, o5] [] σ := h
set_option maxRecDepth 100000 in
theorem v_X5_insertOnce_55 {J : Nat → Lcl → List Value → Sg → Prop} {Q : Int32 → Sg → Prop} (filled row place pres i : Int32) (σ : Sg) (h : (¬ place < i → vp_in place 120 ∧ (Q (filled + (nI 1)) (kp_up σ 12 (place).toNatClampNeg row))) ∧ (place < i → vp_in (i - (nI 1)) 120 ∧ (vp_in i 120 ∧ (J 55 [some (.ref 12), some (.int filled), some (.int row), some (.int place), some (.int pres), some (.int (i + (-1)))] [] (kp_up σ 12 (i).toNatClampNeg (σ 12 (i - (nI 1)).toNatClampNeg)))))) : kp_T1 layC gl_X5 pl_X5 (ms_X5_insertOnce) tb_X5_insertOnce (kp_rk (some .int)) J Q 60 55 [some (.ref 12), some (.int filled), some (.int row), some (.int place), some (.int pres), some (.int i)] [] σ := h
abbrev iv_X5_insertOnce : List Value → Sg → Nat → Nat → Lcl → List Value → Sg → Prop := fun As σ n pc ls st τ => st = [] ∧ ∃ (f r p : Nat), f < 120 ∧ r < 2 ^ 31 ∧ srtA (σ 12) f ∧ As = [.ref 12, .int (nI f), .int (nI r)] ∧ p ≤ f ∧ (∀ i, i < p → tn (σ 12 i) < r) ∧ ((pc = 2 ∧ τ = σ ∧ n = 1000 + (f - p) ∧ ∃ o4 o5 : Option Value, ls = [some (.ref 12), some (.int (nI f)), some (.int (nI r)), some (.int (nI p)), o4, o5]) ∨ (pc = 55 ∧ ∃ (i : Nat) (w : Int32), n = i ∧ p ≤ i ∧ i ≤ f ∧ ls = [some (.ref 12), some (.int (nI f)), some (.int (nI r)), some (.int (nI p)), some (.int w), some (.int (nI i))] ∧ (∀ j, p ≤ j → j < f → r < tn (σ 12 j)) ∧ fr [12] σ τ ∧ τ 12 = shU (σ 12) i f))
set_option maxRecDepth 100000 in
set_option maxHeartbeats 4000000 in
theorem c_X5_insertOnce : kp_Met layC 0 yX5_insertOnce cX5_insertOnce 6 (some .int) (pr_X5_insertOnce) (po_X5_insertOnce) := by
  refine kp_met (N := 60) (by decide) tk_X5_insertOnce gk_X5 pk_X5 (mk_X5_insertOnce) rfl (iv_X5_insertOnce) ?_ ?_
  · rintro As σ ⟨filled, row, rfl, hp⟩
    refine ⟨⟨rfl, Nat.le_of_ble_eq_true rfl⟩, v_X5_insertOnce filled row σ ?_⟩
    obtain ⟨f, r, rfl, hf, rfl, hr, hs⟩ := hp
    exact ⟨1000 + f, rfl, f, r, 0, hf, hr, hs, rfl, by omega, fun i hi => by omega, Or.inl ⟨rfl, rfl, rfl, none, none, rfl⟩⟩
  · rintro As σ ⟨filled, row, rfl, hp⟩ n pc ls st τ hI
    clear hp
    obtain ⟨rfl, f, r, p, hf, hr, hs, hAs, hp, h1, hI⟩ := hI
    cases hAs
    have ef : tn (nI f) = f := tn_nI (by omega)
    have er : tn (nI r) = r := tn_nI hr
    rcases hI with ⟨rfl, rfl, rfl, o4, o5, rfl⟩ | ⟨rfl, i, w, rfl, hpi, hif, rfl, h2, hfr, hsh⟩
    · refine v_X5_insertOnce_2 _ _ _ o4 o5 τ ?_
      have hgo : ∀ (w : Int32), (∀ j, p ≤ j → j < f → r < tn (τ 12 j)) → ∃ n', n' < 1000 + (f - p) ∧ iv_X5_insertOnce [.ref 12, .int (nI f), .int (nI r)] τ n' 55 [some (.ref 12), some (.int (nI f)), some (.int (nI r)), some (.int (nI p)), some (.int w), some (.int (nI f))] [] τ := fun w h2 =>
        ⟨f, by omega, rfl, f, r, p, hf, hr, hs, rfl, hp, h1, Or.inr ⟨rfl, f, w, rfl, hp, by omega, rfl, h2, fr_rf, shU_0.symm⟩⟩
      have hq : p < f → τ 12 p = nI r → po_X5_insertOnce [.ref 12, .int (nI f), .int (nI r)] τ (nI f) τ := fun a1 a2 => by
        refine ⟨fr_rf, f, rfl, by rw [ef]; omega, hs, fun k => ?_⟩
        rw [ef, er]
        exact ⟨fun h => Or.inl h, fun h => h.elim id (fun e => ⟨p, a1, by rw [a2, er, e]⟩)⟩
      have ep : (nI p).toNatClampNeg = p := nI_clamp (by omega)
      have n120 : nI f < nI 120 := by rw [nI_ltI (by omega) (by omega)]; exact hf
      rw [ep, nI_ltI (by omega) (by omega)]
      refine ⟨fun a1 => ⟨fun _ => ⟨fun z => absurd rfl z, fun _ => ⟨fun _ => hgo _ (fun j q1 q2 => by omega), fun z => absurd n120 z⟩⟩, fun z => absurd z a1⟩, fun a1 => ⟨(kp_in (by omega)).mpr (by omega), ?_⟩⟩
      have e12 := hs.1 p a1
      refine ⟨fun a2 => ⟨fun z => absurd a1 z, fun _ => ⟨(kp_in (by omega)).mpr (by omega), fun a3 => ⟨fun z => absurd rfl z, fun _ => ⟨fun _ => hgo _ (fun j q1 q2 => ?_), fun z => absurd n120 z⟩⟩, fun a3 => ⟨fun _ => hq a1 a3, fun z => absurd z (by decide)⟩⟩⟩, fun a2 => ?_⟩
      · rw [e12, nI_ltI (tn_lt _) hr] at a2
        have a3 : ¬ tn (τ 12 p) = r := fun z => a3 (by rw [e12, z])
        by_cases e : j = p
        · subst e; omega
        · have := hs.2 p j (by omega) q2; omega
      · rw [e12, nI_ltI (tn_lt _) hr] at a2
        rw [nI_add]
        refine ⟨1000 + (f - (p + 1)), by omega, rfl, f, r, p + 1, hf, hr, hs, rfl, by omega, fun i hi => ?_, Or.inl ⟨rfl, rfl, rfl, _, _, rfl⟩⟩
        by_cases e : i = p
        · subst e; exact a2
        · exact h1 i (by omega)
    · refine v_X5_insertOnce_55 _ _ _ _ _ τ ?_
      have ep : (nI p).toNatClampNeg = p := nI_clamp (by omega)
      have ei : (nI n).toNatClampNeg = n := nI_clamp (by omega)
      rw [ep, ei, nI_ltI (by omega) (by omega)]
      refine ⟨fun a1 => ⟨(kp_in (by omega)).mpr (by omega), ?_⟩, fun a1 => ?_⟩
      · have : n = p := by omega
        subst this
        obtain ⟨g1, g2⟩ := srtA_ins hs hp hr h1 h2
        refine ⟨fr_up hfr (by decide), f + 1, by rw [nI_add], by rw [ef]; omega, ?_, ?_⟩
        · rw [kp_up_eq, hsh]; exact g1
        · rw [kp_up_eq, hsh, ef, er]; exact g2
      · rw [pk_sub (show 1 ≤ n by omega), nI_clamp (show n - 1 < 2 ^ 31 by omega)]
        refine ⟨(kp_in (by omega)).mpr (by omega), (kp_in (by omega)).mpr (by omega), n - 1, by omega, rfl, f, r, p, hf, hr, hs, rfl, hp, h1, Or.inr ⟨rfl, n - 1, w, rfl, by omega, by omega, ?_, h2, fr_up hfr (by decide), ?_⟩⟩
        · rw [show nI n + (-1) = nI (n - 1) by obtain ⟨k, rfl⟩ : ∃ k, n = k + 1 := ⟨n - 1, by omega⟩; exact pk_m1 k]
        · rw [kp_up_eq, hsh]; exact shU_s (by omega) hif
/-- the rows that mean something in a context, rising -/
def isRows (g : Nat → Int32) (f : Nat) (o M : Nat → Int32) (c : Nat) : Prop := srtA g f ∧ ∀ k, (∃ i, i < f ∧ tn (g i) = k) ↔ (k < 16777216 ∧ mean o M k 12 c ≠ -1)
def pr_X5_meaningRows : SPre := fun As σ => ∃ ctx : Int32, As = [.ref 1, .int ctx, .ref 12] ∧ (LI σ ∧ ∃ c : Nat, ctx = nI c ∧ c < tn (σ 2 1))
def po_X5_meaningRows : SPost := fun As σ r τ => match As with
  | [.ref _, .int ctx, .ref _] => (fr [12] σ τ ∧ ∃ f : Nat, r = nI f ∧ f ≤ 120 ∧ isRows (τ 12) f (σ 3) (mC σ) (tn ctx))
  | _ => True
def ms_X5_meaningRows : List Me := [(51, 1, 1, 1, true, pr_X1_rowOf, po_X1_rowOf), (36, 0, 5, 2, true, pr_X5_meaning, po_X5_meaning), (59, 1, 5, 3, true, pr_X5_insertOnce, po_X5_insertOnce)]
theorem mk_X5_meaningRows : ∀ q ∈ ms_X5_meaningRows, kp_okM layC RX5 3 q := List.forall_mem_cons.mpr ⟨Or.inl ⟨0, yX1_rowOf, cX1_rowOf, 1, (some .int), c_X1_rowOf, by omega, by decide, rfl, lk_X5_51⟩, List.forall_mem_cons.mpr ⟨Or.inl ⟨2, yX5_meaning, cX5_meaning, 6, (some .int), c_X5_meaning, by omega, by decide, rfl, lk_X5_36⟩, List.forall_mem_cons.mpr ⟨Or.inl ⟨0, yX5_insertOnce, cX5_insertOnce, 6, (some .int), c_X5_insertOnce, by omega, by decide, rfl, lk_X5_59⟩, fun _ h => absurd h List.not_mem_nil⟩⟩⟩
set_option maxRecDepth 100000 in
theorem v_X5_meaningRows {J : Nat → Lcl → List Value → Sg → Prop} {Q : Int32 → Sg → Prop} (ctx : Int32) (σ : Sg) (h : J 5 [some (.ref 1), some (.int ctx), some (.ref 12), some (.int (nI 0)), some (.int (nI 0)), none] [] σ) : kp_T layC gl_X5 pl_X5 (ms_X5_meaningRows) tb_X5_meaningRows (kp_rk (some .int)) J Q 36 tb_X5_meaningRows (kp_en [.ref 1, .int ctx, .ref 12] 6) [] σ := h
set_option maxRecDepth 100000 in
theorem v_X5_meaningRows_5 {J : Nat → Lcl → List Value → Sg → Prop} {Q : Int32 → Sg → Prop} (ctx found i : Int32) (o5 : Option Value) (σ : Sg) (h : (¬ i < (σ 4 2) → Q found σ) ∧ (i < (σ 4 2) → vp_in i 120 ∧ (pr_X1_rowOf [.int (σ 5 (i).toNatClampNeg)] σ ∧ ∀ (x2 : Int32) (τ1 : Sg), po_X1_rowOf [.int (σ 5 (i).toNatClampNeg)] σ x2 τ1 → (pr_X5_meaning [.ref 1, .int ctx, .int x2] τ1 ∧ ∀ (x4 : Int32) (τ3 : Sg), po_X5_meaning [.ref 1, .int ctx, .int x2] τ1 x4 τ3 → ((x4 = (-1) → J 5 [some (.ref 1), some (.int ctx), some (.ref 12), some (.int found), some (.int (i + nI 1)), some (.int x2)] [] τ3) ∧ (¬ x4 = (-1) → pr_X5_insertOnce [.ref 12, .int found, .int x2] τ3 ∧ ∀ (x6 : Int32) (τ5 : Sg), po_X5_insertOnce [.ref 12, .int found, .int x2] τ3 x6 τ5 → (J 5 [some (.ref 1), some (.int ctx), some (.ref 12), some (.int x6), some (.int (i + nI 1)), some (.int x2)] [] τ5))))))) : kp_T1 layC gl_X5 pl_X5 (ms_X5_meaningRows) tb_X5_meaningRows (kp_rk (some .int)) J Q 36 5 [some (.ref 1), some (.int ctx), some (.ref 12), some (.int found), some (.int i), o5] [] σ := h
abbrev iv_X5_meaningRows : List Value → Sg → Nat → Nat → Lcl → List Value → Sg → Prop := fun As σ n pc ls st τ => pc = 5 ∧ st = [] ∧ ∃ (c f i z : Nat) (o5 : Option Value), As = [.ref 1, .int (nI c), .ref 12] ∧ ls = [some (.ref 1), some (.int (nI c)), some (.ref 12), some (.int (nI f)), some (.int (nI i)), o5] ∧ σ 4 2 = nI z ∧ z ≤ 120 ∧ i ≤ z ∧ f ≤ i ∧ n = z - i ∧ c < tn (σ 2 1) ∧ fr [12] σ τ ∧ srtA (τ 12) f ∧ ∀ k, (∃ j, j < f ∧ tn (τ 12 j) = k) ↔ (∃ j, j < i ∧ tn (σ 5 j) % 16777216 = k ∧ mean (σ 3) (mC σ) k 12 c ≠ -1)
set_option maxRecDepth 100000 in
set_option maxHeartbeats 4000000 in
theorem c_X5_meaningRows : kp_Met layC 3 yX5_meaningRows cX5_meaningRows 6 (some .int) (pr_X5_meaningRows) (po_X5_meaningRows) := by
  refine kp_met (N := 36) (by decide) tk_X5_meaningRows gk_X5 pk_X5 (mk_X5_meaningRows) rfl (iv_X5_meaningRows) ?_ ?_
  · rintro As σ ⟨ctx, rfl, hp⟩
    refine ⟨⟨rfl, Nat.le_of_ble_eq_true rfl⟩, v_X5_meaningRows ctx σ ?_⟩
    obtain ⟨⟨hc, z, hz, h1, h2⟩, c, rfl, h3⟩ := hp
    exact ⟨z, rfl, rfl, c, 0, 0, z, none, rfl, rfl, hz, h1, by omega, by omega, by omega, h3, fr_rf, ⟨fun i hi => by omega, fun i j _ hj => by omega⟩, fun k => ⟨fun ⟨j, hj, _⟩ => by omega, fun ⟨j, hj, _⟩ => by omega⟩⟩
  · rintro As σ ⟨ctx, rfl, hp⟩ n pc ls st τ hI
    obtain ⟨hL, -⟩ := hp
    obtain ⟨hc, hbo⟩ := id hL
    obtain ⟨rfl, rfl, c, f, i, z, o5, hAs, rfl, hz, h1, hi, hfi, rfl, hcn, hfr, hsr, hmem⟩ := hI
    cases hAs
    obtain ⟨z', hz', h1', h2, h3⟩ := id hbo
    have : z' = z := (nI_eq (by omega) (by omega)).mp (hz'.symm.trans hz)
    subst this
    have := tn_lt (σ 2 1)
    have ec : tn (nI c) = c := tn_nI (by omega)
    have q2 : τ 2 = σ 2 := hfr 2 (by decide)
    have q3 : τ 3 = σ 3 := hfr 3 (by decide)
    have q4 : τ 4 = σ 4 := hfr 4 (by decide)
    have q5 : τ 5 = σ 5 := hfr 5 (by decide)
    have q6 : τ 6 = σ 6 := hfr 6 (by decide)
    have hLt : LI τ := by unfold LI; rw [q2, q3, q4, q5, q6]; exact hL
    refine v_X5_meaningRows_5 _ _ _ o5 τ ?_
    rw [q4, hz, nI_ltI (by omega) (by omega), q5]
    refine ⟨fun g1 => ⟨hfr, f, rfl, by omega, hsr, fun k => ?_⟩, fun g1 => ?_⟩
    · rw [ec, hmem k]
      constructor
      · rintro ⟨j, hj, e, hm⟩
        exact ⟨by rw [← e]; exact Nat.mod_lt _ (by decide), hm⟩
      · rintro ⟨hk, hm⟩
        obtain ⟨j, hj, e⟩ := row_in hz h1 hk hm
        exact ⟨j, by omega, e, hm⟩
    · have hkey := h2 i g1
      have hrow : tn (σ 5 i) % 16777216 < 16777216 := Nat.mod_lt _ (by decide)
      refine ⟨(kp_in (by omega)).mpr (by omega), ⟨_, rfl, tn (σ 5 i), by rw [nI_clamp (by omega)]; exact hkey.1, tn_lt _⟩, ?_⟩
      rw [nI_clamp (show i < 2 ^ 31 by omega), nI_add]
      rintro x2 τ1 ⟨rfl, rfl⟩
      refine ⟨⟨_, _, rfl, hLt, c, _, rfl, by rw [q2]; exact hcn, rfl, hrow⟩, ?_⟩
      rintro x4 τ3 ⟨rfl, rfl⟩
      rw [tn_nI (show tn (σ 5 i) % 16777216 < 2 ^ 31 by omega), ec]
      have em : mean (τ3 3) (mC τ3) (tn (σ 5 i) % 16777216) 12 c = mean (σ 3) (mC σ) (tn (σ 5 i) % 16777216) 12 c := by unfold mC; rw [q3, q4, q5, q6]
      rw [em]
      refine ⟨fun g2 => ⟨z' - (i + 1), by omega, rfl, rfl, c, f, i + 1, z', _, rfl, rfl, hz, h1, by omega, by omega, rfl, hcn, hfr, hsr, fun k => ?_⟩, fun g2 => ⟨⟨_, _, rfl, f, _, rfl, by omega, rfl, by omega, hsr⟩, ?_⟩⟩
      · rw [hmem k]
        constructor
        · rintro ⟨j, hj, e, hm⟩
          exact ⟨j, by omega, e, hm⟩
        · rintro ⟨j, hj, e, hm⟩
          by_cases ej : j = i
          · subst ej; rw [← e] at hm; exact absurd g2 hm
          · exact ⟨j, by omega, e, hm⟩
      · rintro x6 τ5 ⟨k1, f', rfl, k2, k3, k4⟩
        rw [tn_nI (show f < 2 ^ 31 by omega)] at k2 k4
        rw [tn_nI (show tn (σ 5 i) % 16777216 < 2 ^ 31 by omega)] at k4
        refine ⟨z' - (i + 1), by omega, rfl, rfl, c, f', i + 1, z', _, rfl, rfl, hz, h1, by omega, by omega, rfl, hcn, fr_tr hfr k1, k3, fun k => ?_⟩
        rw [k4 k, hmem k]
        constructor
        · rintro (⟨j, hj, e, hm⟩ | e)
          · exact ⟨j, by omega, e, hm⟩
          · exact ⟨i, by omega, e.symm, by rw [e]; exact g2⟩
        · rintro ⟨j, hj, e, hm⟩
          by_cases ej : j = i
          · subst ej; exact Or.inr e.symm
          · exact Or.inl ⟨j, by omega, e, hm⟩
