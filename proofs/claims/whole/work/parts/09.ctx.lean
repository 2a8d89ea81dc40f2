/-! contexts: KeyPlan$Contexts -/
def isCx (nn x : Int32) : Bool := !decide (x < nI 0) && decide (x < nn)
def ctxOK (o : Nat → Int32) (nn : Int32) : Prop := ∃ n : Nat, nn = nI n ∧ 1 ≤ n ∧ n ≤ 12 ∧ o 0 = -1 ∧ ∀ c, 0 < c → c < n → ∃ p, p < c ∧ o c = nI p
/-- c is d or stands in it -/
def wthn (o : Nat → Int32) : Nat → Nat → Nat → Bool
  | 0, _, _ => false
  | f + 1, c, d => if c = d then true else if o c = -1 then false else wthn o f (tn (o c)) d
theorem wthn_s (o : Nat → Int32) (f c d : Nat) : wthn o (f + 1) c d = if c = d then true else if o c = -1 then false else wthn o f (tn (o c)) d := rfl
theorem nI_m1 {a : Nat} (h : a < 2 ^ 31) : ¬ nI a = -1 := by
  rw [eq_I, nI_toInt h]
  have : (-1 : Int32).toInt = -1 := by decide
  rw [this]; omega
theorem isCx_iff {n : Nat} {x : Int32} (hn : n < 2 ^ 31) : isCx (nI n) x = true ↔ ∃ c, c < n ∧ x = nI c := by
  unfold isCx
  constructor
  · intro h
    obtain ⟨h1, h2⟩ := kp_and2 h
    have h3 : ¬ x < nI 0 := by simpa using h1
    obtain ⟨c, hc, rfl⟩ := nI_of (show ¬ x < 0 from h3)
    have h4 := of_decide_eq_true h2
    rw [nI_ltI hc hn] at h4
    exact ⟨c, h4, rfl⟩
  · rintro ⟨c, hc, rfl⟩
    rw [decide_eq_false (by rw [nI_ltI (by omega) (by omega)]; omega), decide_eq_true (by rw [nI_ltI (by omega) hn]; exact hc)]
    rfl
def pr_X2_hold : SPre := fun As σ => ∃ x : Int32, As = [.ref 2, .int x] ∧ (True)
def po_X2_hold : SPost := fun As σ r τ => match As with
  | [.ref _, .int x] => (τ = σ ∧ r = bI (isCx (σ 2 1) x))
  | _ => True
def ms_X2_hold : List Me := []
theorem mk_X2_hold : ∀ q ∈ ms_X2_hold, kp_okM layC RX2 0 q := fun _ h => absurd h List.not_mem_nil
set_option maxRecDepth 100000 in
theorem v_X2_hold {J : Nat → Lcl → List Value → Sg → Prop} {Q : Int32 → Sg → Prop} (x : Int32) (σ : Sg) (h : (x < (nI 0) → ((nI 0) = nI 0 ∨ (nI 0) = nI 1) ∧ Q (nI 0) σ) ∧ (¬ x < (nI 0) → (¬ x < (σ 2 1) → ((nI 0) = nI 0 ∨ (nI 0) = nI 1) ∧ Q (nI 0) σ) ∧ (x < (σ 2 1) → ((nI 1) = nI 0 ∨ (nI 1) = nI 1) ∧ Q (nI 1) σ))) : kp_T layC gl_X2 pl_X2 (ms_X2_hold) tb_X2_hold (kp_rk (some .boolean)) J Q 30 tb_X2_hold (kp_en [.ref 2, .int x] 2) [] σ := h
set_option maxRecDepth 100000 in
set_option maxHeartbeats 4000000 in
theorem c_X2_hold : kp_Met layC 0 yX2_hold cX2_hold 2 (some .boolean) (pr_X2_hold) (po_X2_hold) := by
  refine kp_met (N := 30) (by decide) tk_X2_hold gk_X2 pk_X2 (mk_X2_hold) rfl (fun _ _ _ _ _ _ _ => False) ?_ (fun _ _ _ _ _ _ _ _ h => h.elim)
  rintro As σ ⟨x, rfl, hp⟩
  refine ⟨⟨rfl, Nat.le_of_ble_eq_true rfl⟩, v_X2_hold x σ ?_⟩
  refine ⟨fun h1 => ⟨Or.inl rfl, rfl, ?_⟩, fun h1 => ⟨fun h2 => ⟨Or.inl rfl, rfl, ?_⟩, fun h2 => ⟨Or.inr rfl, rfl, ?_⟩⟩⟩
  · unfold isCx; rw [decide_eq_true h1]; rfl
  · unfold isCx; rw [decide_eq_false h1, decide_eq_false h2]; rfl
  · unfold isCx; rw [decide_eq_false h1, decide_eq_true h2]; rfl
def pr_X2_add : SPre := fun As σ => ∃ x : Int32, As = [.ref 2, .int x] ∧ (ctxOK (σ 3) (σ 2 1))
def po_X2_add : SPost := fun As σ r τ => match As with
  | [.ref _, .int x] => ((isCx (σ 2 1) x = true ∧ σ 2 1 < nI 12 → τ = kp_up (kp_up σ 3 (tn (σ 2 1)) x) 2 1 (σ 2 1 + nI 1) ∧ r = σ 2 1) ∧ (¬ (isCx (σ 2 1) x = true ∧ σ 2 1 < nI 12) → τ = σ ∧ r = -1))
  | _ => True
def ms_X2_add : List Me := [(19, 0, 2, 1, true, pr_X2_hold, po_X2_hold)]
theorem mk_X2_add : ∀ q ∈ ms_X2_add, kp_okM layC RX2 1 q := List.forall_mem_cons.mpr ⟨Or.inl ⟨0, yX2_hold, cX2_hold, 2, (some .boolean), c_X2_hold, by omega, by decide, rfl, lk_X2_19⟩, fun _ h => absurd h List.not_mem_nil⟩
set_option maxRecDepth 100000 in
theorem v_X2_add {J : Nat → Lcl → List Value → Sg → Prop} {Q : Int32 → Sg → Prop} (x : Int32) (σ : Sg) (h : pr_X2_hold [.ref 2, .int x] σ ∧ ∀ (x2 : Int32) (τ1 : Sg), po_X2_hold [.ref 2, .int x] σ x2 τ1 → ((x2 = (nI 0) → Q (-1) τ1) ∧ (¬ x2 = (nI 0) → ((τ1 2 1) < (nI 12) → vp_in (τ1 2 1) 12 ∧ (Q (((kp_up (kp_up τ1 3 (τ1 2 1).toNatClampNeg x) 2 1 (((kp_up τ1 3 (τ1 2 1).toNatClampNeg x) 2 1) + (nI 1))) 2 1) - (nI 1)) (kp_up (kp_up τ1 3 (τ1 2 1).toNatClampNeg x) 2 1 (((kp_up τ1 3 (τ1 2 1).toNatClampNeg x) 2 1) + (nI 1))))) ∧ (¬ (τ1 2 1) < (nI 12) → Q (-1) τ1)))) : kp_T layC gl_X2 pl_X2 (ms_X2_add) tb_X2_add (kp_rk (some .int)) J Q 32 tb_X2_add (kp_en [.ref 2, .int x] 2) [] σ := h
set_option maxRecDepth 100000 in
set_option maxHeartbeats 4000000 in
theorem c_X2_add : kp_Met layC 1 yX2_add cX2_add 2 (some .int) (pr_X2_add) (po_X2_add) := by
  refine kp_met (N := 32) (by decide) tk_X2_add gk_X2 pk_X2 (mk_X2_add) rfl (fun _ _ _ _ _ _ _ => False) ?_ (fun _ _ _ _ _ _ _ _ h => h.elim)
  rintro As σ ⟨x, rfl, hp⟩
  refine ⟨⟨rfl, Nat.le_of_ble_eq_true rfl⟩, v_X2_add x σ ?_⟩
  obtain ⟨n, hn, h1, h2, h3, h4⟩ := hp
  refine ⟨⟨_, rfl, trivial⟩, ?_⟩
  rintro x2 τ1 ⟨rfl, rfl⟩
  rw [bI_0]
  refine ⟨fun h5 => ⟨fun h => ?_, fun _ => ⟨rfl, rfl⟩⟩, fun h5 => ⟨fun h6 => ⟨?_, ⟨fun _ => ⟨?_, ?_⟩, fun h => ?_⟩⟩, fun h6 => ⟨fun h => absurd h.2 h6, fun _ => ⟨rfl, rfl⟩⟩⟩⟩
  · rw [h5] at h; cases h.1
  · rw [hn, nI_ltI (by omega) (by omega)] at h6
    rw [hn, kp_in (by omega)]; exact h6
  · rw [up_c (show (2 : Nat) ≠ 3 by decide)]; rfl
  · rw [up_s, up_c (show (2 : Nat) ≠ 3 by decide), hn, nI_add, pk_sub (by omega)]; rfl
  · exact absurd ⟨by simpa using h5, h6⟩ h
def pr_X2_outsideOf : SPre := fun As σ => ∃ x : Int32, As = [.ref 2, .int x] ∧ (ctxOK (σ 3) (σ 2 1))
def po_X2_outsideOf : SPost := fun As σ r τ => match As with
  | [.ref _, .int x] => (τ = σ ∧ r = (if isCx (σ 2 1) x = true then σ 3 (tn x) else -1))
  | _ => True
def ms_X2_outsideOf : List Me := [(19, 0, 2, 1, true, pr_X2_hold, po_X2_hold)]
theorem mk_X2_outsideOf : ∀ q ∈ ms_X2_outsideOf, kp_okM layC RX2 1 q := List.forall_mem_cons.mpr ⟨Or.inl ⟨0, yX2_hold, cX2_hold, 2, (some .boolean), c_X2_hold, by omega, by decide, rfl, lk_X2_19⟩, fun _ h => absurd h List.not_mem_nil⟩
set_option maxRecDepth 100000 in
theorem v_X2_outsideOf {J : Nat → Lcl → List Value → Sg → Prop} {Q : Int32 → Sg → Prop} (x : Int32) (σ : Sg) (h : pr_X2_hold [.ref 2, .int x] σ ∧ ∀ (x2 : Int32) (τ1 : Sg), po_X2_hold [.ref 2, .int x] σ x2 τ1 → ((x2 = (nI 0) → Q (-1) τ1) ∧ (¬ x2 = (nI 0) → vp_in x 12 ∧ (Q (τ1 3 (x).toNatClampNeg) τ1)))) : kp_T layC gl_X2 pl_X2 (ms_X2_outsideOf) tb_X2_outsideOf (kp_rk (some .int)) J Q 30 tb_X2_outsideOf (kp_en [.ref 2, .int x] 2) [] σ := h
set_option maxRecDepth 100000 in
set_option maxHeartbeats 4000000 in
theorem c_X2_outsideOf : kp_Met layC 1 yX2_outsideOf cX2_outsideOf 2 (some .int) (pr_X2_outsideOf) (po_X2_outsideOf) := by
  refine kp_met (N := 30) (by decide) tk_X2_outsideOf gk_X2 pk_X2 (mk_X2_outsideOf) rfl (fun _ _ _ _ _ _ _ => False) ?_ (fun _ _ _ _ _ _ _ _ h => h.elim)
  rintro As σ ⟨x, rfl, hp⟩
  refine ⟨⟨rfl, Nat.le_of_ble_eq_true rfl⟩, v_X2_outsideOf x σ ?_⟩
  obtain ⟨n, hn, h1, h2, h3, h4⟩ := hp
  refine ⟨⟨_, rfl, trivial⟩, ?_⟩
  rintro x2 τ1 ⟨rfl, rfl⟩
  rw [bI_0]
  refine ⟨fun h5 => ⟨rfl, by rw [if_neg (by rw [h5]; decide)]⟩, fun h5 => ?_⟩
  have h5 : isCx (τ1 2 1) x = true := by simpa using h5
  refine ⟨?_, rfl, by rw [if_pos h5]; rfl⟩
  rw [hn, isCx_iff (by omega)] at h5
  obtain ⟨c, hc, rfl⟩ := h5
  rw [kp_in (by omega)]; omega
theorem wthn_fuel {o : Nat → Int32} {nn : Int32} (h : ctxOK o nn) : ∀ (f g c d : Nat), c < tn nn → c < f → c < g → wthn o f c d = wthn o g c d
  | 0, _, _, _, _, h1, _ => absurd h1 (Nat.not_lt_zero _)
  | _, 0, _, _, _, _, h1 => absurd h1 (Nat.not_lt_zero _)
  | f + 1, g + 1, c, d, hc, h1, h2 => by
    obtain ⟨n, rfl, hn1, hn2, h3, h4⟩ := id h
    rw [tn_nI (by omega)] at hc
    unfold wthn
    by_cases hcd : c = d
    · rw [if_pos hcd, if_pos hcd]
    · rw [if_neg hcd, if_neg hcd]
      by_cases h0 : c = 0
      · subst h0; rw [h3, if_pos rfl, if_pos rfl]
      · obtain ⟨p, hp, he⟩ := h4 c (by omega) hc
        rw [he, tn_nI (by omega), wthn_fuel h f g p d (by rw [tn_nI (by omega)]; omega) (by omega) (by omega)]
def pr_X2_isWithin : SPre := fun As σ => ∃ inner : Int32, ∃ outer : Int32, As = [.ref 2, .int inner, .int outer] ∧ (ctxOK (σ 3) (σ 2 1) ∧ ∃ c d : Nat, inner = nI c ∧ outer = nI d ∧ c < tn (σ 2 1) ∧ d < tn (σ 2 1))
def po_X2_isWithin : SPost := fun As σ r τ => match As with
  | [.ref _, .int inner, .int outer] => (τ = σ ∧ r = bI (wthn (σ 3) 12 (tn inner) (tn outer)))
  | _ => True
def ms_X2_isWithin : List Me := [(27, 0, 2, 1, true, pr_X2_outsideOf, po_X2_outsideOf)]
theorem mk_X2_isWithin : ∀ q ∈ ms_X2_isWithin, kp_okM layC RX2 2 q := List.forall_mem_cons.mpr ⟨Or.inl ⟨1, yX2_outsideOf, cX2_outsideOf, 2, (some .int), c_X2_outsideOf, by omega, by decide, rfl, lk_X2_27⟩, fun _ h => absurd h List.not_mem_nil⟩
set_option maxRecDepth 100000 in
theorem v_X2_isWithin {J : Nat → Lcl → List Value → Sg → Prop} {Q : Int32 → Sg → Prop} (inner outer : Int32) (σ : Sg) (h : J 5 [some (.ref 2), some (.int inner), some (.int outer), some (.int inner), some (.int (nI 0))] [] σ) : kp_T layC gl_X2 pl_X2 (ms_X2_isWithin) tb_X2_isWithin (kp_rk (some .boolean)) J Q 30 tb_X2_isWithin (kp_en [.ref 2, .int inner, .int outer] 5) [] σ := h
set_option maxRecDepth 100000 in
theorem v_X2_isWithin_5 {J : Nat → Lcl → List Value → Sg → Prop} {Q : Int32 → Sg → Prop} (inner outer a1 steps : Int32) (σ : Sg) (h : (¬ steps < (nI 12) → ((nI 0) = nI 0 ∨ (nI 0) = nI 1) ∧ Q (nI 0) σ) ∧ (steps < (nI 12) → (a1 = (-1) → ((nI 0) = nI 0 ∨ (nI 0) = nI 1) ∧ Q (nI 0) σ) ∧ (¬ a1 = (-1) → (¬ a1 = outer → pr_X2_outsideOf [.ref 2, .int a1] σ ∧ ∀ (x2 : Int32) (τ1 : Sg), po_X2_outsideOf [.ref 2, .int a1] σ x2 τ1 → (J 5 [some (.ref 2), some (.int inner), some (.int outer), some (.int x2), some (.int (steps + nI 1))] [] τ1)) ∧ (a1 = outer → ((nI 1) = nI 0 ∨ (nI 1) = nI 1) ∧ Q (nI 1) σ)))) : kp_T1 layC gl_X2 pl_X2 (ms_X2_isWithin) tb_X2_isWithin (kp_rk (some .boolean)) J Q 30 5 [some (.ref 2), some (.int inner), some (.int outer), some (.int a1), some (.int steps)] [] σ := h
abbrev iv_X2_isWithin : List Value → Sg → Nat → Nat → Lcl → List Value → Sg → Prop := fun As σ n pc ls st τ => pc = 5 ∧ st = [] ∧ τ = σ ∧ ∃ (c0 d sp : Nat) (a1 : Int32), As = [.ref 2, .int (nI c0), .int (nI d)] ∧ ls = [some (.ref 2), some (.int (nI c0)), some (.int (nI d)), some (.int a1), some (.int (nI sp))] ∧ sp ≤ 12 ∧ n = 12 - sp ∧ ctxOK (σ 3) (σ 2 1) ∧ c0 < 2 ^ 31 ∧ d < 2 ^ 31 ∧ ((a1 = -1 ∧ wthn (σ 3) 12 c0 d = false) ∨ ∃ c, a1 = nI c ∧ c < tn (σ 2 1) ∧ wthn (σ 3) 12 c0 d = wthn (σ 3) (12 - sp) c d)
set_option maxRecDepth 100000 in
set_option maxHeartbeats 4000000 in
theorem c_X2_isWithin : kp_Met layC 2 yX2_isWithin cX2_isWithin 5 (some .boolean) (pr_X2_isWithin) (po_X2_isWithin) := by
  refine kp_met (N := 30) (by decide) tk_X2_isWithin gk_X2 pk_X2 (mk_X2_isWithin) rfl (iv_X2_isWithin) ?_ ?_
  · rintro As σ ⟨inner, outer, rfl, hp⟩
    refine ⟨⟨rfl, Nat.le_of_ble_eq_true rfl⟩, v_X2_isWithin inner outer σ ?_⟩
    obtain ⟨hc, c, d, rfl, rfl, h1, h2⟩ := hp
    have := tn_lt (σ 2 1)
    exact ⟨12, rfl, rfl, rfl, c, d, 0, nI c, rfl, rfl, by omega, rfl, hc, by omega, by omega, Or.inr ⟨c, rfl, h1, rfl⟩⟩
  · rintro As σ ⟨inner, outer, rfl, hp⟩ n pc ls st τ hI
    obtain ⟨rfl, rfl, rfl, c0, d, sp, a1, hAs, rfl, hsp, rfl, hc, hc0, hd, hw⟩ := hI
    cases hAs
    obtain ⟨nn, hn, hn1, hn2, h3, h4⟩ := id hc
    have htn : tn (τ 2 1) = nn := by rw [hn, tn_nI (by omega)]
    rw [htn] at hw
    refine v_X2_isWithin_5 _ _ _ _ τ ⟨fun h1 => ⟨Or.inl rfl, rfl, ?_⟩, fun h1 => ⟨fun h2 => ⟨Or.inl rfl, rfl, ?_⟩, fun h2 => ⟨fun h5 => ?_, fun h5 => ⟨Or.inr rfl, rfl, ?_⟩⟩⟩⟩
    · rw [nI_ltI (by omega) (by omega)] at h1
      rw [tn_nI hc0, tn_nI hd]
      rcases hw with ⟨-, hw⟩ | ⟨c, -, -, hw⟩
      · rw [hw]; rfl
      · rw [hw, show 12 - sp = 0 by omega]; rfl
    · rw [tn_nI hc0, tn_nI hd]
      rcases hw with ⟨-, hw⟩ | ⟨c, rfl, hlt, hw⟩
      · rw [hw]; rfl
      · exact absurd h2 (nI_m1 (by omega))
    · rw [nI_ltI (by omega) (by omega)] at h1
      rcases hw with ⟨e, -⟩ | ⟨c, rfl, hlt, hw⟩
      · exact absurd e h2
      · rw [nI_eq (by omega) hd] at h5
        refine ⟨⟨_, rfl, hc⟩, ?_⟩
        rintro x2 τ1 ⟨rfl, rfl⟩
        rw [if_pos (by rw [hn, isCx_iff (by omega)]; exact ⟨c, hlt, rfl⟩), tn_nI (by omega)]
        refine ⟨12 - (sp + 1), by omega, rfl, rfl, rfl, c0, d, sp + 1, _, rfl, by rw [nI_add], by omega, rfl, hc, hc0, hd, ?_⟩
        rw [htn]
        rw [show 12 - sp = (12 - (sp + 1)) + 1 by omega, wthn_s _ (12 - (sp + 1)) c d, if_neg h5] at hw
        by_cases h0 : c = 0
        · subst h0
          rw [h3, if_pos rfl] at hw
          exact Or.inl ⟨h3, hw⟩
        · obtain ⟨p, hp, he⟩ := h4 c (by omega) hlt
          rw [he, if_neg (nI_m1 (by omega)), tn_nI (by omega)] at hw
          exact Or.inr ⟨p, he, by omega, hw⟩
    · rcases hw with ⟨e, -⟩ | ⟨c, rfl, hlt, hw⟩
      · exact absurd e h2
      · rw [nI_eq (by omega) hd] at h5
        subst h5
        rw [nI_ltI (by omega) (by omega)] at h1
        rw [tn_nI hc0, tn_nI hd, hw, show 12 - sp = (12 - (sp + 1)) + 1 by omega, wthn_s _ (12 - (sp + 1)), if_pos rfl]
        rfl
def meets (o : Nat → Int32) (c d : Nat) : Bool := wthn o 12 c d || wthn o 12 d c
def pr_X2_meet : SPre := fun As σ => ∃ a : Int32, ∃ b : Int32, As = [.ref 2, .int a, .int b] ∧ (ctxOK (σ 3) (σ 2 1) ∧ ∃ c d : Nat, a = nI c ∧ b = nI d ∧ c < tn (σ 2 1) ∧ d < tn (σ 2 1))
def po_X2_meet : SPost := fun As σ r τ => match As with
  | [.ref _, .int a, .int b] => (τ = σ ∧ r = bI (meets (σ 3) (tn a) (tn b)))
  | _ => True
def ms_X2_meet : List Me := [(23, 0, 2, 2, true, pr_X2_isWithin, po_X2_isWithin)]
theorem mk_X2_meet : ∀ q ∈ ms_X2_meet, kp_okM layC RX2 3 q := List.forall_mem_cons.mpr ⟨Or.inl ⟨2, yX2_isWithin, cX2_isWithin, 5, (some .boolean), c_X2_isWithin, by omega, by decide, rfl, lk_X2_23⟩, fun _ h => absurd h List.not_mem_nil⟩
set_option maxRecDepth 100000 in
theorem v_X2_meet {J : Nat → Lcl → List Value → Sg → Prop} {Q : Int32 → Sg → Prop} (a b : Int32) (σ : Sg) (h : pr_X2_isWithin [.ref 2, .int a, .int b] σ ∧ ∀ (x2 : Int32) (τ1 : Sg), po_X2_isWithin [.ref 2, .int a, .int b] σ x2 τ1 → ((¬ x2 = (nI 0) → ((nI 1) = nI 0 ∨ (nI 1) = nI 1) ∧ Q (nI 1) τ1) ∧ (x2 = (nI 0) → pr_X2_isWithin [.ref 2, .int b, .int a] τ1 ∧ ∀ (x4 : Int32) (τ3 : Sg), po_X2_isWithin [.ref 2, .int b, .int a] τ1 x4 τ3 → ((x4 = (nI 0) → ((nI 0) = nI 0 ∨ (nI 0) = nI 1) ∧ Q (nI 0) τ3) ∧ (¬ x4 = (nI 0) → ((nI 1) = nI 0 ∨ (nI 1) = nI 1) ∧ Q (nI 1) τ3))))) : kp_T layC gl_X2 pl_X2 (ms_X2_meet) tb_X2_meet (kp_rk (some .boolean)) J Q 30 tb_X2_meet (kp_en [.ref 2, .int a, .int b] 3) [] σ := h
set_option maxRecDepth 100000 in
set_option maxHeartbeats 4000000 in
theorem c_X2_meet : kp_Met layC 3 yX2_meet cX2_meet 3 (some .boolean) (pr_X2_meet) (po_X2_meet) := by
  refine kp_met (N := 30) (by decide) tk_X2_meet gk_X2 pk_X2 (mk_X2_meet) rfl (fun _ _ _ _ _ _ _ => False) ?_ (fun _ _ _ _ _ _ _ _ h => h.elim)
  rintro As σ ⟨a, b, rfl, hp⟩
  refine ⟨⟨rfl, Nat.le_of_ble_eq_true rfl⟩, v_X2_meet a b σ ?_⟩
  obtain ⟨hc, c, d, rfl, rfl, h1, h2⟩ := hp
  refine ⟨⟨_, _, rfl, hc, c, d, rfl, rfl, h1, h2⟩, ?_⟩
  rintro x2 τ1 ⟨rfl, rfl⟩
  rw [bI_0]
  refine ⟨fun h3 => ⟨Or.inr rfl, rfl, ?_⟩, fun h3 => ⟨⟨_, _, rfl, hc, d, c, rfl, rfl, h2, h1⟩, ?_⟩⟩
  · unfold meets; rw [show wthn (τ1 3) 12 (tn (nI c)) (tn (nI d)) = true by simpa using h3]; rfl
  · rintro x4 τ3 ⟨rfl, rfl⟩
    rw [bI_0]
    refine ⟨fun h4 => ⟨Or.inl rfl, rfl, ?_⟩, fun h4 => ⟨Or.inr rfl, rfl, ?_⟩⟩
    · unfold meets; rw [h3, h4]; rfl
    · unfold meets; rw [h3, show wthn (τ3 3) 12 (tn (nI d)) (tn (nI c)) = true by simpa using h4]; rfl
