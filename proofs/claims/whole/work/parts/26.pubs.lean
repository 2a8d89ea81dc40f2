/-! KeyPlan's own methods: the cheapest assignment, what changed, what is to be learnt -/
def bsV : BS → Int32
  | none => -1
  | some q => nI q.1
def asA (b : BS) (i : Int32) : Int32 := match b with
  | none => -1
  | some q => if i < nI 0 then -1 else match q.2[tn i]? with
    | none => -1
    | some s => nI s
def brA (ha wc : Nat → Int32) (nw : Nat) : BS → Int32
  | none => -1
  | some q => nI (bkN (fun i => brk ha (tn (wc i)) (q.2.getD i 0)) nw)
theorem rmap_get {n : Nat} {f : Nat → Nat} {i : Nat} (h : i < n) : ((List.range n).map f)[i]? = some (f i) := by simp [h]
theorem rmap_gn {n : Nat} {f : Nat → Nat} {i : Nat} (h : ¬ i < n) : ((List.range n).map f)[i]? = none := by simp; omega
theorem rmap_gD {n : Nat} {f : Nat → Nat} {i : Nat} (h : i < n) : ((List.range n).map f).getD i 0 = f i := by rw [List.getD_eq_getElem?_getD, rmap_get h]; rfl
theorem sv_case {σ τ : Sg} (h : slv τ) (he : RS τ = RS σ) : (τ 23 6 = -1 ∧ RS σ = none) ∨ (τ 23 6 ≠ -1 ∧ nn (τ 23 6) ∧ RS σ = some (tn (τ 23 6), (List.range (nwC τ)).map fun i => tn (τ 27 i))) := by
  obtain ⟨h1, h2⟩ := h
  rw [he] at h2
  unfold bsC at h2
  by_cases q : τ 23 6 = -1
  · rw [if_pos q] at h2; exact Or.inl ⟨q, h2.symm⟩
  · rw [if_neg q] at h2; exact Or.inr ⟨q, h1.resolve_left q, h2.symm⟩
def pr_X9_cheapest : SPre := fun As σ => As = [.ref 0] ∧ (InvC σ)
def po_X9_cheapest : SPost := fun As σ r τ => match As with
  | [.ref _] => (InvC τ ∧ fr svF σ τ ∧ τ 23 2 = σ 23 2 ∧ τ 23 4 = σ 23 4 ∧ r = bsV (RS σ))
  | _ => True
def ms_X9_cheapest : List Me := [(186, 0, 0, 2, false, pr_X0_solve, po_X0_solve)]
theorem mk_X9_cheapest : ∀ q ∈ ms_X9_cheapest, kp_okM layC RX9 11 q := List.forall_mem_cons.mpr ⟨Or.inl ⟨10, yX0_solve, cX0_solve, 3, none, c_X0_solve, by omega, by decide, rfl, lk_X9_186⟩, fun _ h => absurd h List.not_mem_nil⟩
set_option maxRecDepth 100000 in
theorem v_X9_cheapest {J : Nat → Lcl → List Value → Sg → Prop} {Q : Int32 → Sg → Prop}  (σ : Sg) (h : pr_X0_solve [.ref 23, .ref 18, .ref 2] σ ∧ ∀ (τ1 : Sg), po_X0_solve [.ref 23, .ref 18, .ref 2] σ (nI 0) τ1 → (Q (τ1 23 6) τ1)) : kp_T layC gl_X9 pl_X9 (ms_X9_cheapest) tb_X9_cheapest (kp_rk (some .int)) J Q 30 tb_X9_cheapest (kp_en [.ref 0] 1) [] σ := h
set_option maxRecDepth 100000 in
set_option maxHeartbeats 4000000 in
theorem c_X9_cheapest : kp_Met layC 11 yX9_cheapest cX9_cheapest 1 (some .int) (pr_X9_cheapest) (po_X9_cheapest) := by
  refine kp_met (N := 30) (by decide) tk_X9_cheapest gk_X9 pk_X9 (mk_X9_cheapest) rfl (fun _ _ _ _ _ _ _ => False) ?_ (fun _ _ _ _ _ _ _ _ h => h.elim)
  rintro As σ ⟨rfl, hp⟩
  refine ⟨⟨rfl, Nat.le_of_ble_eq_true rfl⟩, v_X9_cheapest σ ?_⟩
  obtain ⟨hL, hkb, hty, hrl, hco, has, hsl⟩ := id hp
  refine ⟨⟨rfl, has, hco, hL.1, hsl⟩, ?_⟩
  rintro τ1 ⟨k1, k2, k3, k4, k5, k6, k7⟩
  refine ⟨InvC_sv hp k1 k5 k7, k1, k2 2 (by decide) (by decide), k2 4 (by decide) (by decide), ?_⟩
  rcases sv_case k7 k6 with ⟨q1, q2⟩ | ⟨q1, q3, q2⟩
  · rw [q1, q2]; rfl
  · rw [q2]; exact q3
def pr_X9_assigned : SPre := fun As σ => ∃ i : Int32, As = [.ref 0, .int i] ∧ (InvC σ)
def po_X9_assigned : SPost := fun As σ r τ => match As with
  | [.ref _, .int i] => (InvC τ ∧ fr svF σ τ ∧ τ 23 2 = σ 23 2 ∧ τ 23 4 = σ 23 4 ∧ r = asA (RS σ) i)
  | _ => True
def ms_X9_assigned : List Me := [(186, 0, 0, 2, false, pr_X0_solve, po_X0_solve)]
theorem mk_X9_assigned : ∀ q ∈ ms_X9_assigned, kp_okM layC RX9 11 q := List.forall_mem_cons.mpr ⟨Or.inl ⟨10, yX0_solve, cX0_solve, 3, none, c_X0_solve, by omega, by decide, rfl, lk_X9_186⟩, fun _ h => absurd h List.not_mem_nil⟩
set_option maxRecDepth 100000 in
theorem v_X9_assigned {J : Nat → Lcl → List Value → Sg → Prop} {Q : Int32 → Sg → Prop} (i : Int32) (σ : Sg) (h : pr_X0_solve [.ref 23, .ref 18, .ref 2] σ ∧ ∀ (τ1 : Sg), po_X0_solve [.ref 23, .ref 18, .ref 2] σ (nI 0) τ1 → (((τ1 23 6) = (-1) → Q (-1) τ1) ∧ (¬ (τ1 23 6) = (-1) → (i < (nI 0) → Q (-1) τ1) ∧ (¬ i < (nI 0) → (i < (τ1 23 2) → vp_in i 6 ∧ (Q (τ1 27 (i).toNatClampNeg) τ1)) ∧ (¬ i < (τ1 23 2) → Q (-1) τ1))))) : kp_T layC gl_X9 pl_X9 (ms_X9_assigned) tb_X9_assigned (kp_rk (some .int)) J Q 33 tb_X9_assigned (kp_en [.ref 0, .int i] 2) [] σ := h
set_option maxRecDepth 100000 in
set_option maxHeartbeats 4000000 in
theorem c_X9_assigned : kp_Met layC 11 yX9_assigned cX9_assigned 2 (some .int) (pr_X9_assigned) (po_X9_assigned) := by
  refine kp_met (N := 33) (by decide) tk_X9_assigned gk_X9 pk_X9 (mk_X9_assigned) rfl (fun _ _ _ _ _ _ _ => False) ?_ (fun _ _ _ _ _ _ _ _ h => h.elim)
  rintro As σ ⟨i, rfl, hp⟩
  refine ⟨⟨rfl, Nat.le_of_ble_eq_true rfl⟩, v_X9_assigned i σ ?_⟩
  obtain ⟨hL, hkb, hty, hrl, hco, has, hsl⟩ := id hp
  refine ⟨⟨rfl, has, hco, hL.1, hsl⟩, ?_⟩
  rintro τ1 ⟨k1, k2, k3, k4, k5, k6, k7⟩
  have hQ : ∀ r, r = asA (RS σ) i → po_X9_assigned [.ref 0, .int i] σ r τ1 := fun r h => ⟨InvC_sv hp k1 k5 k7, k1, k2 2 (by decide) (by decide), k2 4 (by decide) (by decide), h⟩
  have hst := slv_strokes k5 k7
  rcases sv_case k7 k6 with ⟨q1, q2⟩ | ⟨q1, q3, q2⟩
  · exact ⟨fun _ => hQ _ (by rw [q2]; rfl), fun z => absurd q1 z⟩
  · refine ⟨fun z => absurd z q1, fun _ => ⟨fun h => hQ _ (by rw [q2]; show _ = (if i < nI 0 then _ else _); rw [if_pos h]), fun h => ?_⟩⟩
    have hni : nn i := (nI_tn h).symm
    have en : nwC τ1 = tn (τ1 23 2) := rfl
    have hlt : i < τ1 23 2 ↔ tn i < nwC τ1 := by rw [k5.1, (nn_lt hni (tn_lt _)).2]
    have h6 := k5.2.1
    rw [hlt]
    refine ⟨fun h2 => ⟨by rw [hni]; exact (kp_in (tn_lt _)).mpr (by omega), hQ _ ?_⟩, fun h2 => hQ _ ?_⟩
    · rw [q2]
      show _ = (if i < nI 0 then _ else _)
      rw [if_neg h]
      dsimp only
      rw [rmap_get h2]
      exact (hst q1 _ h2).1
    · rw [q2]
      show _ = (if i < nI 0 then _ else _)
      rw [if_neg h]
      dsimp only
      rw [rmap_gn h2]
def pr_X9_broken : SPre := fun As σ => As = [.ref 0] ∧ (InvC σ)
def po_X9_broken : SPost := fun As σ r τ => match As with
  | [.ref _] => (InvC τ ∧ fr svF σ τ ∧ τ 23 2 = σ 23 2 ∧ τ 23 4 = σ 23 4 ∧ r = brA (σ 21) (σ 24) (nwC σ) (RS σ))
  | _ => True
def ms_X9_broken : List Me := [(186, 0, 0, 2, false, pr_X0_solve, po_X0_solve), (199, 0, 0, 1, true, pr_X0_brokenHabits, po_X0_brokenHabits)]
theorem mk_X9_broken : ∀ q ∈ ms_X9_broken, kp_okM layC RX9 11 q := List.forall_mem_cons.mpr ⟨Or.inl ⟨10, yX0_solve, cX0_solve, 3, none, c_X0_solve, by omega, by decide, rfl, lk_X9_186⟩, List.forall_mem_cons.mpr ⟨Or.inl ⟨1, yX0_brokenHabits, cX0_brokenHabits, 4, (some .int), c_X0_brokenHabits, by omega, by decide, rfl, lk_X9_199⟩, fun _ h => absurd h List.not_mem_nil⟩⟩
set_option maxRecDepth 100000 in
theorem v_X9_broken {J : Nat → Lcl → List Value → Sg → Prop} {Q : Int32 → Sg → Prop}  (σ : Sg) (h : pr_X0_solve [.ref 23, .ref 18, .ref 2] σ ∧ ∀ (τ1 : Sg), po_X0_solve [.ref 23, .ref 18, .ref 2] σ (nI 0) τ1 → ((¬ (τ1 23 6) = (-1) → pr_X0_brokenHabits [.ref 23, .ref 18] τ1 ∧ ∀ (x3 : Int32) (τ2 : Sg), po_X0_brokenHabits [.ref 23, .ref 18] τ1 x3 τ2 → (Q x3 τ2)) ∧ ((τ1 23 6) = (-1) → Q (-1) τ1))) : kp_T layC gl_X9 pl_X9 (ms_X9_broken) tb_X9_broken (kp_rk (some .int)) J Q 30 tb_X9_broken (kp_en [.ref 0] 1) [] σ := h
set_option maxRecDepth 100000 in
set_option maxHeartbeats 4000000 in
theorem c_X9_broken : kp_Met layC 11 yX9_broken cX9_broken 1 (some .int) (pr_X9_broken) (po_X9_broken) := by
  refine kp_met (N := 30) (by decide) tk_X9_broken gk_X9 pk_X9 (mk_X9_broken) rfl (fun _ _ _ _ _ _ _ => False) ?_ (fun _ _ _ _ _ _ _ _ h => h.elim)
  rintro As σ ⟨rfl, hp⟩
  refine ⟨⟨rfl, Nat.le_of_ble_eq_true rfl⟩, v_X9_broken σ ?_⟩
  obtain ⟨hL, hkb, hty, hrl, hco, has, hsl⟩ := id hp
  refine ⟨⟨rfl, has, hco, hL.1, hsl⟩, ?_⟩
  rintro τ1 ⟨k1, k2, k3, k4, k5, k6, k7⟩
  have hI := InvC_sv hp k1 k5 k7
  have hQ : ∀ r, r = brA (σ 21) (σ 24) (nwC σ) (RS σ) → po_X9_broken [.ref 0] σ r τ1 := fun r h => ⟨hI, k1, k2 2 (by decide) (by decide), k2 4 (by decide) (by decide), h⟩
  rcases sv_case k7 k6 with ⟨q1, q2⟩ | ⟨q1, q3, q2⟩
  · exact ⟨fun z => absurd q1 z, fun _ => hQ _ (by rw [q2]; rfl)⟩
  · refine ⟨fun _ => ⟨⟨rfl, k5, hI.2.2.2.2.1, fun i hi => (slv_strokes k5 k7 q1 i hi).1⟩, ?_⟩, fun z => absurd z q1⟩
    rintro x3 τ2 ⟨rfl, rfl⟩
    refine hQ _ ?_
    have en : nwC τ2 = nwC σ := by show tn (τ2 23 2) = tn (σ 23 2); rw [k2 2 (by decide) (by decide)]
    rw [q2, en]
    show nI _ = nI _
    rw [bkN_congr (nwC σ) (fun i hi => ?_)]
    rw [rmap_gD hi]
    show brk (τ2 21) (tn (τ2 24 i)) (tn (τ2 27 i)) = _
    rw [k1 21 (by decide), k1 24 (by decide)]
def apM (K : Nat → Nat) (wc M : Nat → Int32) : Nat → Nat → Int32
  | 0 => M
  | n + 1 => fun k => if k = K n then wc n else apM K wc M n k
def apZ (K : Nat → Nat) (wc M : Nat → Int32) (Z : Nat) : Nat → Nat
  | 0 => Z
  | n + 1 => szp (apZ K wc M Z n) (apM K wc M n (K n)) (wc n)
abbrev moF (K : Nat → Nat) (M : Nat → Int32) : Nat → Bool := fun i => decide (M (K i) = -1)
abbrev otF (K : Nat → Nat) (wc M : Nat → Int32) : Nat → Bool := fun i => !decide (M (K i) = wc i)
def ap1 (K : Nat → Nat) (wc : Nat → Int32) (nw : Nat) (M : Nat → Int32) (Z : Nat) (M' : Nat → Int32) (Z' : Nat) (r : Int32) : Prop :=
  (120 < Z + bkN (moF K M) nw → (∀ k, M' k = M k) ∧ Z' = Z ∧ r = -1) ∧ (¬ 120 < Z + bkN (moF K M) nw → (∀ k, M' k = apM K wc M nw k) ∧ Z' = apZ K wc M Z nw ∧ r = nI (bkN (otF K wc M) nw))
def apP (b : BS) (wc wx : Nat → Int32) (nw : Nat) (M : Nat → Int32) (Z : Nat) (M' : Nat → Int32) (Z' : Nat) (r : Int32) : Prop := match b with
  | none => (∀ k, M' k = M k) ∧ Z' = Z ∧ r = -1
  | some q => ap1 (fun i => tn (wx i) * 16777216 + q.2.getD i 0) wc nw M Z M' Z' r
theorem apM_congr {K K' : Nat → Nat} {wc M : Nat → Int32} : ∀ n, (∀ i, i < n → K i = K' i) → apM K wc M n = apM K' wc M n
  | 0, _ => rfl
  | n + 1, h => by unfold apM; rw [apM_congr n (fun i hi => h i (by omega)), h n (by omega)]
theorem apZ_congr {K K' : Nat → Nat} {wc M : Nat → Int32} {Z : Nat} : ∀ n, (∀ i, i < n → K i = K' i) → apZ K wc M Z n = apZ K' wc M Z n
  | 0, _ => rfl
  | n + 1, h => by rw [apZ, apZ, apZ_congr n (fun i hi => h i (by omega)), apM_congr n (fun i hi => h i (by omega)), h n (by omega)]
theorem ap1_congr {K K' : Nat → Nat} {wc M M' : Nat → Int32} {nw Z Z' : Nat} {r : Int32} (h : ∀ i, i < nw → K i = K' i) (hq : ap1 K wc nw M Z M' Z' r) : ap1 K' wc nw M Z M' Z' r := by
  have e1 : bkN (moF K M) nw = bkN (moF K' M) nw := bkN_congr nw (fun i hi => by simp only [moF, h i hi])
  have e2 : bkN (otF K wc M) nw = bkN (otF K' wc M) nw := bkN_congr nw (fun i hi => by simp only [otF, h i hi])
  unfold ap1 at *
  rw [e1, e2, apM_congr nw h, apZ_congr nw h] at hq
  exact hq
theorem apM_m1 {K : Nat → Nat} {wc M : Nat → Int32} : ∀ n, (∀ i, i < n → wc i ≠ -1) → ∀ k, apM K wc M n k = -1 → M k = -1
  | 0, _, _, h => h
  | n + 1, hw, k, h => by
    unfold apM at h
    by_cases e : k = K n
    · rw [if_pos e] at h; exact absurd h (hw n (by omega))
    · rw [if_neg e] at h; exact apM_m1 n (fun i hi => hw i (by omega)) k h
theorem apZ_le {K : Nat → Nat} {wc M : Nat → Int32} {Z : Nat} : ∀ n, (∀ i, i < n → wc i ≠ -1) → apZ K wc M Z n ≤ Z + bkN (moF K M) n
  | 0, _ => Nat.le_refl _
  | n + 1, hw => by
    have ih := apZ_le (K := K) (M := M) (Z := Z) n (fun i hi => hw i (by omega))
    rw [apZ, bkN]
    unfold szp
    rw [if_neg (hw n (by omega))]
    by_cases e : apM K wc M n (K n) = -1
    · rw [if_pos e, if_pos (decide_eq_true (apM_m1 n (fun i hi => hw i (by omega)) _ e))]; omega
    · rw [if_neg e]; omega
theorem bkN_mono {f : Nat → Bool} : ∀ {n m : Nat}, n ≤ m → bkN f n ≤ bkN f m
  | n, 0, h => by have : n = 0 := by omega
                  subst this; exact Nat.le_refl _
  | n, m + 1, h => by
    by_cases e : n = m + 1
    · rw [e]; exact Nat.le_refl _
    · have := bkN_mono (f := f) (show n ≤ m by omega)
      rw [bkN]; omega
theorem ap_room {K : Nat → Nat} {wc M : Nat → Int32} {Z nw n : Nat} (hw : ∀ i, i < nw → wc i ≠ -1) (hn : n < nw) (h : ¬ 120 < Z + bkN (moF K M) nw) (he : apM K wc M n (K n) = -1) : apZ K wc M Z n < 120 := by
  have h1 := apZ_le (K := K) (M := M) (Z := Z) n (fun i hi => hw i (by omega))
  have h2 := bkN_mono (f := moF K M) (show n + 1 ≤ nw by omega)
  rw [bkN, if_pos (decide_eq_true (apM_m1 n (fun i hi => hw i (by omega)) _ he))] at h2
  omega
theorem InvC_mp {σ τ : Sg} (h : InvC σ) (hf : fr [4, 5, 6] σ τ) (h1 : bOK (τ 5) (τ 6) (τ 4 2)) : InvC τ := by
  have q : ∀ c, c ∉ [4, 5, 6] → τ c = σ c := fun c hc => hf c hc
  obtain ⟨a1, a2, a3, a4, a5, a6, a7⟩ := h
  refine ⟨⟨?_, h1⟩, ?_, ?_, ?_, ?_, ?_, ?_⟩
  · rw [q 2 (by decide), q 3 (by decide)]; exact a1.1
  · rw [q 7 (by decide), q 8 (by decide), q 9 (by decide)]; exact a2
  · unfold tyOK at *; rw [q 2 (by decide), q 15 (by decide)]; exact a3
  · rw [q 15 (by decide)]; exact a4
  · unfold cstC at *; rw [q 19 (by decide), q 20 (by decide), q 21 (by decide), q 22 (by decide)]; exact a5
  · unfold asOK nwC noC at *; rw [q 2 (by decide), q 23 (by decide), q 24 (by decide), q 25 (by decide), q 26 (by decide)]; exact a6
  · unfold slv bsC RS PT MT ofC nwC noC at *; rw [q 3 (by decide), q 19 (by decide), q 20 (by decide), q 21 (by decide), q 22 (by decide), q 23 (by decide), q 24 (by decide), q 25 (by decide), q 26 (by decide), q 27 (by decide)]; exact a7
def SVp (σ τ : Sg) : Prop := fr svF σ τ ∧ (∀ k, k ≠ 5 → k ≠ 6 → τ 23 k = σ 23 k) ∧ InvC τ ∧ slv τ ∧ RS τ = RS σ ∧ τ 23 6 ≠ -1
abbrev bK (τ : Sg) : Nat → Nat := fun i => tn (τ 25 i) * 16777216 + tn (τ 27 i)
theorem SVp_end {σ τ : Sg} (h : SVp σ τ) {M' : Nat → Int32} {Z' : Nat} {r : Int32} (hq : ap1 (bK τ) (τ 24) (nwC τ) (mC τ) (tn (τ 4 2)) M' Z' r) : apP (RS σ) (σ 24) (σ 25) (nwC σ) (mC σ) (tn (σ 4 2)) M' Z' r := by
  obtain ⟨k1, k2, hI, k7, k6, k8⟩ := h
  have en : nwC τ = nwC σ := by show tn (τ 23 2) = tn (σ 23 2); rw [k2 2 (by decide) (by decide)]
  have em : mC τ = mC σ := by unfold mC; rw [k1 4 (by decide), k1 5 (by decide), k1 6 (by decide)]
  rcases sv_case k7 k6 with ⟨q1, -⟩ | ⟨-, q3, q2⟩
  · exact absurd q1 k8
  · rw [q2]
    show ap1 _ _ _ _ _ _ _ _
    rw [k1 24 (by decide), em, en, k1 4 (by decide)] at hq
    refine ap1_congr (fun i hi => ?_) hq
    rw [en]
    dsimp only
    rw [rmap_gD hi]
    show tn (τ 25 i) * 16777216 + _ = _
    rw [k1 25 (by decide)]
abbrev apF : List Nat := [4, 5, 6, 23, 27, 28, 30, 31, 32, 33, 34, 35, 36, 37]
def pr_X9_apply : SPre := fun As σ => As = [.ref 0] ∧ (InvC σ)
def po_X9_apply : SPost := fun As σ r τ => match As with
  | [.ref _] => (InvC τ ∧ fr apF σ τ ∧ τ 23 2 = σ 23 2 ∧ τ 23 4 = σ 23 4 ∧ apP (RS σ) (σ 24) (σ 25) (nwC σ) (mC σ) (tn (σ 4 2)) (mC τ) (tn (τ 4 2)) r)
  | _ => True
def ms_X9_apply : List Me := [(186, 0, 0, 2, false, pr_X0_solve, po_X0_solve), (203, 0, 0, 1, true, pr_X0_bestKey, po_X0_bestKey), (88, 0, 1, 1, true, pr_X1_at, po_X1_at), (95, 0, 1, 2, false, pr_X1_put, po_X1_put)]
theorem mk_X9_apply : ∀ q ∈ ms_X9_apply, kp_okM layC RX9 11 q := List.forall_mem_cons.mpr ⟨Or.inl ⟨10, yX0_solve, cX0_solve, 3, none, c_X0_solve, by omega, by decide, rfl, lk_X9_186⟩, List.forall_mem_cons.mpr ⟨Or.inl ⟨1, yX0_bestKey, cX0_bestKey, 2, (some .int), c_X0_bestKey, by omega, by decide, rfl, lk_X9_203⟩, List.forall_mem_cons.mpr ⟨Or.inl ⟨1, yX1_at, cX1_at, 3, (some .int), c_X1_at, by omega, by decide, rfl, lk_X9_88⟩, List.forall_mem_cons.mpr ⟨Or.inl ⟨1, yX1_put, cX1_put, 5, none, c_X1_put, by omega, by decide, rfl, lk_X9_95⟩, fun _ h => absurd h List.not_mem_nil⟩⟩⟩⟩
set_option maxRecDepth 100000 in
theorem v_X9_apply {J : Nat → Lcl → List Value → Sg → Prop} {Q : Int32 → Sg → Prop}  (σ : Sg) (h : pr_X0_solve [.ref 23, .ref 18, .ref 2] σ ∧ ∀ (τ1 : Sg), po_X0_solve [.ref 23, .ref 18, .ref 2] σ (nI 0) τ1 → ((¬ (τ1 23 6) = (-1) → J 37 [some (.ref 0), some (.int (nI 0)), some (.int (nI 0)), some (.int (nI 0)), none] [] τ1) ∧ ((τ1 23 6) = (-1) → Q (-1) τ1))) : kp_T layC gl_X9 pl_X9 (ms_X9_apply) tb_X9_apply (kp_rk (some .int)) J Q 98 tb_X9_apply (kp_en [.ref 0] 5) [] σ := h
set_option maxRecDepth 100000 in
theorem v_X9_apply_37 {J : Nat → Lcl → List Value → Sg → Prop} {Q : Int32 → Sg → Prop} (more other i : Int32) (o4 : Option Value) (σ : Sg) (h : (¬ i < (σ 23 2) → (¬ (nI 120) < ((σ 4 2) + more) → J 131 [some (.ref 0), some (.int more), some (.int other), some (.int (nI 0)), o4] [] σ) ∧ ((nI 120) < ((σ 4 2) + more) → Q (-1) σ)) ∧ (i < (σ 23 2) → pr_X0_bestKey [.ref 23, .int i] σ ∧ ∀ (x2 : Int32) (τ1 : Sg), po_X0_bestKey [.ref 23, .int i] σ x2 τ1 → (pr_X1_at [.ref 4, .int x2] τ1 ∧ ∀ (x4 : Int32) (τ3 : Sg), po_X1_at [.ref 4, .int x2] τ1 x4 τ3 → ((¬ x4 = (-1) → vp_in i 6 ∧ ((¬ x4 = (τ3 24 (i).toNatClampNeg) → J 37 [some (.ref 0), some (.int (more + (nI 0))), some (.int (other + (nI 1))), some (.int (i + nI 1)), some (.int x4)] [] τ3) ∧ (x4 = (τ3 24 (i).toNatClampNeg) → J 37 [some (.ref 0), some (.int (more + (nI 0))), some (.int (other + (nI 0))), some (.int (i + nI 1)), some (.int x4)] [] τ3))) ∧ (x4 = (-1) → vp_in i 6 ∧ ((¬ x4 = (τ3 24 (i).toNatClampNeg) → J 37 [some (.ref 0), some (.int (more + (nI 1))), some (.int (other + (nI 1))), some (.int (i + nI 1)), some (.int x4)] [] τ3) ∧ (x4 = (τ3 24 (i).toNatClampNeg) → J 37 [some (.ref 0), some (.int (more + (nI 1))), some (.int (other + (nI 0))), some (.int (i + nI 1)), some (.int x4)] [] τ3))))))) : kp_T1 layC gl_X9 pl_X9 (ms_X9_apply) tb_X9_apply (kp_rk (some .int)) J Q 98 37 [some (.ref 0), some (.int more), some (.int other), some (.int i), o4] [] σ := h
set_option maxRecDepth 100000 in
theorem v_X9_apply_131 {J : Nat → Lcl → List Value → Sg → Prop} {Q : Int32 → Sg → Prop} (more other i : Int32) (o4 : Option Value) (σ : Sg) (h : (¬ i < (σ 23 2) → Q other σ) ∧ (i < (σ 23 2) → pr_X0_bestKey [.ref 23, .int i] σ ∧ ∀ (x2 : Int32) (τ1 : Sg), po_X0_bestKey [.ref 23, .int i] σ x2 τ1 → (vp_in i 6 ∧ (pr_X1_put [.ref 4, .int x2, .int (τ1 24 (i).toNatClampNeg)] τ1 ∧ ∀ (τ3 : Sg), po_X1_put [.ref 4, .int x2, .int (τ1 24 (i).toNatClampNeg)] τ1 (nI 0) τ3 → (J 131 [some (.ref 0), some (.int more), some (.int other), some (.int (i + nI 1)), o4] [] τ3))))) : kp_T1 layC gl_X9 pl_X9 (ms_X9_apply) tb_X9_apply (kp_rk (some .int)) J Q 98 131 [some (.ref 0), some (.int more), some (.int other), some (.int i), o4] [] σ := h
abbrev iv_X9_apply : List Value → Sg → Nat → Nat → Lcl → List Value → Sg → Prop := fun As σ n pc ls st τ => st = [] ∧ As = [.ref 0] ∧ ((pc = 37 ∧ ∃ (i : Nat) (o4 : Option Value), n = 100 + (nwC τ - i) ∧ i ≤ nwC τ ∧ SVp σ τ ∧ ls = [some (.ref 0), some (.int (nI (bkN (moF (bK τ) (mC τ)) i))), some (.int (nI (bkN (otF (bK τ) (τ 24) (mC τ)) i))), some (.int (nI i)), o4]) ∨ (pc = 131 ∧ ∃ (τ0 : Sg) (i : Nat) (m : Int32) (o4 : Option Value), n = nwC τ0 - i ∧ i ≤ nwC τ0 ∧ SVp σ τ0 ∧ fr [4, 5, 6] τ0 τ ∧ bOK (τ 5) (τ 6) (τ 4 2) ∧ ¬ 120 < tn (τ0 4 2) + bkN (moF (bK τ0) (mC τ0)) (nwC τ0) ∧ (∀ k, mC τ k = apM (bK τ0) (τ0 24) (mC τ0) i k) ∧ tn (τ 4 2) = apZ (bK τ0) (τ0 24) (mC τ0) (tn (τ0 4 2)) i ∧ ls = [some (.ref 0), some (.int m), some (.int (nI (bkN (otF (bK τ0) (τ0 24) (mC τ0)) (nwC τ0)))), some (.int (nI i)), o4]))
set_option maxRecDepth 100000 in
set_option maxHeartbeats 4000000 in
theorem c_X9_apply : kp_Met layC 11 yX9_apply cX9_apply 5 (some .int) (pr_X9_apply) (po_X9_apply) := by
  refine kp_met (N := 98) (by decide) tk_X9_apply gk_X9 pk_X9 (mk_X9_apply) rfl (iv_X9_apply) ?_ ?_
  · rintro As σ ⟨rfl, hp⟩
    refine ⟨⟨rfl, Nat.le_of_ble_eq_true rfl⟩, v_X9_apply σ ?_⟩
    obtain ⟨hL, hkb, hty, hrl, hco, has, hsl⟩ := id hp
    refine ⟨⟨rfl, has, hco, hL.1, hsl⟩, ?_⟩
    rintro τ1 ⟨k1, k2, k3, k4, k5, k6, k7⟩
    have hI := InvC_sv hp k1 k5 k7
    refine ⟨fun h => ⟨_, rfl, rfl, Or.inl ⟨rfl, 0, none, rfl, Nat.zero_le _, ⟨k1, k2, hI, k7, k6, h⟩, rfl⟩⟩, fun h => ⟨hI, fr_mono k1 (by decide), k2 2 (by decide) (by decide), k2 4 (by decide) (by decide), ?_⟩⟩
    rcases sv_case k7 k6 with ⟨q1, q2⟩ | ⟨q1, q3, q2⟩
    · rw [q2]
      refine ⟨fun k => ?_, ?_, rfl⟩
      · unfold mC; rw [k1 4 (by decide), k1 5 (by decide), k1 6 (by decide)]
      · rw [k1 4 (by decide)]
    · exact absurd h q1
  · rintro As σ ⟨rfl, hp⟩ n pc ls st τ hI
    obtain ⟨rfl, hAs, hI⟩ := hI
    clear hAs
    rcases hI with ⟨rfl, i, o4, rfl, hi, hS, rfl⟩ | ⟨rfl, τ0, i, m, o4, rfl, hi, hS, hf, hb, hr, hM, hZ, rfl⟩
    · obtain ⟨k1, k2, hI, k7, k6, k8⟩ := id hS
      obtain ⟨hL, hkb, hty, hrl, hco, has, hsl⟩ := id hI
      obtain ⟨z, hz, hz1, -, -⟩ := id hL.2
      have ez : tn (τ 4 2) = z := by rw [hz, tn_nI (by omega)]
      obtain ⟨a1, a2, a3, a4, a5, a6⟩ := id has
      have en : nwC τ = tn (τ 23 2) := rfl
      have hst := slv_strokes has k7 k8
      have hlm := bkN_le (f := moF (bK τ) (mC τ)) i
      have hlo := bkN_le (f := otF (bK τ) (τ 24) (mC τ)) i
      refine v_X9_apply_37 _ _ _ o4 τ ?_
      rw [(nn_lt a1 (show i < 2 ^ 31 by omega)).1, nI_clamp (show i < 2 ^ 31 by omega), show nI i + nI 1 = nI (i + 1) from nI_add _ _, nI_add, nI_add, nI_add, nI_add, hz, nI_add, nI_ltI (by omega) (by omega)]
      refine ⟨fun g => ?_, fun g => ⟨⟨_, rfl, i, rfl, by omega, (a5 i g).2.2.1, ?_, (hst i g).1, by have := (hst i g).2.2; omega⟩, ?_⟩⟩
      · have ei : i = nwC τ := by omega
        have hfull : fr apF σ τ := fr_mono k1 (by decide)
        refine ⟨fun h => ⟨nwC τ, by omega, rfl, rfl, Or.inr ⟨rfl, τ, 0, _, o4, rfl, Nat.zero_le _, hS, fr_rf, hL.2, by rw [ez, ← ei]; exact h, fun _ => rfl, rfl, by rw [ei]⟩⟩, fun h => ⟨hI, hfull, k2 2 (by decide) (by decide), k2 4 (by decide) (by decide), SVp_end hS ⟨fun _ => ⟨fun _ => rfl, rfl, rfl⟩, fun z => absurd (by rw [ez, ← ei]; exact h) z⟩⟩⟩
      · obtain ⟨n, hn, n1, n2, -, -⟩ := hL.1
        have := (a5 i g).2.2.2
        rw [hn, tn_nI (by omega)] at this
        omega
      · rintro x2 τ1 ⟨rfl, rfl⟩
        have hkl : bK τ1 i < 2 ^ 31 := by
          obtain ⟨n, hn, n1, n2, -, -⟩ := hL.1
          have h1 := (a5 i g).2.2.2
          have h2 := (hst i g).2.2
          rw [hn, tn_nI (by omega)] at h1
          show tn (τ1 25 i) * 16777216 + tn (τ1 27 i) < 2 ^ 31
          omega
        rw [tn_nI (show i < 2 ^ 31 by omega)]
        refine ⟨⟨4, _, rfl, Or.inl rfl, hL.2, bK τ1 i, rfl, hkl⟩, ?_⟩
        rintro x4 τ3 ⟨rfl, rfl⟩
        have e6 : tn (nI (tn (τ3 25 i) * 16777216 + tn (τ3 27 i))) = bK τ3 i := tn_nI hkl
        rw [e6]
        have hJ : ∀ a b : Nat, (bkN (moF (bK τ3) (mC τ3)) (i + 1) = bkN (moF (bK τ3) (mC τ3)) i + a) → (bkN (otF (bK τ3) (τ3 24) (mC τ3)) (i + 1) = bkN (otF (bK τ3) (τ3 24) (mC τ3)) i + b) → ∃ n', n' < 100 + (nwC τ3 - i) ∧ iv_X9_apply [.ref 0] σ n' 37 [some (.ref 0), some (.int (nI (bkN (moF (bK τ3) (mC τ3)) i + a))), some (.int (nI (bkN (otF (bK τ3) (τ3 24) (mC τ3)) i + b))), some (.int (nI (i + 1))), some (.int (mpC (τ3 5) (τ3 6) (τ3 4 2) (bK τ3 i)))] [] τ3 := fun a b ha hb => ⟨100 + (nwC τ3 - (i + 1)), by omega, rfl, rfl, Or.inl ⟨rfl, i + 1, _, rfl, by omega, hS, by rw [ha, hb]⟩⟩
        have hin : vp_in (nI i) 6 := (kp_in (by omega)).mpr (by omega)
        have cmo : moF (bK τ3) (mC τ3) i = decide (mpC (τ3 5) (τ3 6) (τ3 4 2) (bK τ3 i) = -1) := rfl
        have cot : otF (bK τ3) (τ3 24) (mC τ3) i = !decide (mpC (τ3 5) (τ3 6) (τ3 4 2) (bK τ3 i) = τ3 24 i) := rfl
        refine ⟨fun h1 => ⟨hin, fun h2 => hJ 0 1 ?_ ?_, fun h2 => hJ 0 0 ?_ ?_⟩, fun h1 => ⟨hin, fun h2 => hJ 1 1 ?_ ?_, fun h2 => hJ 1 0 ?_ ?_⟩⟩
        · rw [bkN, cmo, decide_eq_false h1]; rfl
        · rw [bkN, cot, decide_eq_false h2]; rfl
        · rw [bkN, cmo, decide_eq_false h1]; rfl
        · rw [bkN, cot, decide_eq_true h2]; rfl
        · rw [bkN, cmo, decide_eq_true h1]; rfl
        · rw [bkN, cot, decide_eq_false h2]; rfl
        · rw [bkN, cmo, decide_eq_true h1]; rfl
        · rw [bkN, cot, decide_eq_true h2]; rfl
    · obtain ⟨k1, k2, hI, k7, k6, k8⟩ := id hS
      obtain ⟨hL, hkb, hty, hrl, hco, has, hsl⟩ := id hI
      obtain ⟨a1, a2, a3, a4, a5, a6⟩ := id has
      have en : nwC τ0 = tn (τ0 23 2) := rfl
      have hst := slv_strokes has k7 k8
      have q23 : τ 23 = τ0 23 := hf 23 (by decide)
      have q24 : τ 24 = τ0 24 := hf 24 (by decide)
      have q25 : τ 25 = τ0 25 := hf 25 (by decide)
      have q27 : τ 27 = τ0 27 := hf 27 (by decide)
      refine v_X9_apply_131 _ _ _ o4 τ ?_
      rw [q23, (nn_lt a1 (show i < 2 ^ 31 by omega)).1, nI_clamp (show i < 2 ^ 31 by omega), show nI i + nI 1 = nI (i + 1) from nI_add _ _]
      refine ⟨fun g => ?_, fun g => ?_⟩
      · have ei : i = nwC τ0 := by omega
        subst ei
        refine ⟨InvC_mp hI hf hb, fr_tr (fr_mono k1 (by decide)) (fr_mono hf (by decide)), by rw [q23]; exact k2 2 (by decide) (by decide), by rw [q23]; exact k2 4 (by decide) (by decide), SVp_end hS ⟨fun z => absurd z hr, fun _ => ⟨hM, hZ, rfl⟩⟩⟩
      · obtain ⟨n, hn, n1, n2, -, -⟩ := hL.1
        have g1 := (a5 i g).2.2.2
        have g2 := hst i g
        rw [hn, tn_nI (by omega)] at g1
        have hkl : bK τ0 i < 2 ^ 31 := by
          show tn (τ0 25 i) * 16777216 + tn (τ0 27 i) < 2 ^ 31
          omega
        have hko : keyOK (bK τ0 i) := by
          unfold keyOK
          have hlt : tn (τ0 27 i) < 16777216 := by omega
          show (tn (τ0 25 i) * 16777216 + tn (τ0 27 i)) / 16777216 < 12 ∧ _
          refine ⟨by omega, ?_⟩
          show rowOK ((tn (τ0 25 i) * 16777216 + tn (τ0 27 i)) % 16777216) = true
          rw [(key_div hlt).2]
          exact rowOK_iff.mpr (by omega)
        refine ⟨⟨_, rfl, i, rfl, by omega, by rw [q25]; exact (a5 i g).2.2.1, by rw [q25]; omega, by rw [q27]; exact g2.1, by rw [q27]; omega⟩, ?_⟩
        rintro x2 τ1 ⟨rfl, rfl⟩
        rw [tn_nI (show i < 2 ^ 31 by omega), q24, q25, q27]
        have e6 : tn (nI (tn (τ0 25 i) * 16777216 + tn (τ0 27 i))) = bK τ0 i := tn_nI hkl
        have hw : ∀ j, j < nwC τ0 → τ0 24 j ≠ -1 := fun j hj h => by
          have := (a5 j hj).1
          rw [this] at h
          exact nI_m1 (tn_lt _) h
        refine ⟨(kp_in (by omega)).mpr (by omega), ⟨_, _, rfl, hb, ⟨bK τ0 i, rfl, hko⟩, Or.inr ⟨tn (τ0 24 i), by have := (a5 i g).2.1; omega, (a5 i g).1⟩, fun _ h => ?_⟩, ?_⟩
        · rw [e6] at h
          have h : mC τ1 (bK τ0 i) = -1 := h
          rw [hM] at h
          rw [hZ]
          exact ap_room hw g hr h
        · rintro τ3 ⟨p1, p2, p3, p4⟩
          rw [e6] at p3 p4
          refine ⟨nwC τ0 - (i + 1), by omega, rfl, rfl, Or.inr ⟨rfl, τ0, i + 1, m, o4, rfl, by omega, hS, fr_tr hf p2, p1, hr, fun k => ?_, ?_, rfl⟩⟩
          · show mpC _ _ _ k = if k = bK τ0 i then τ0 24 i else apM (bK τ0) (τ0 24) (mC τ0) i k
            rw [p3 k, ← hM k]
          · rw [p4, apZ, ← hZ, ← hM]
theorem mpC_copy {ks cs ks' cs' : Nat → Int32} {nz : Int32} (h : bOK ks cs nz) (he : ∀ j, j < tn nz → ks' j = ks j ∧ cs' j = cs j) : bOK ks' cs' nz ∧ mpC ks' cs' nz = mpC ks cs nz := by
  obtain ⟨z, rfl, h1, h2, h3⟩ := h
  have ez : tn (nI z) = z := tn_nI (by omega)
  rw [ez] at he
  refine ⟨⟨z, rfl, h1, fun i hi => ?_, fun i j hij hj => ?_⟩, ?_⟩
  · rw [(he i hi).1, (he i hi).2]; exact h2 i hi
  · rw [(he i (by omega)).1, (he j hj).1]; exact h3 i j hij hj
  · funext k
    unfold mpC
    rw [ez]
    exact lk_congr (fun i hi => ⟨by rw [(he i hi).1], (he i hi).2⟩)
def pr_X9_keep : SPre := fun As σ => As = [.ref 0] ∧ (InvC σ)
def po_X9_keep : SPost := fun As σ r τ => match As with
  | [.ref _] => (InvC τ ∧ fr [7, 8, 9] σ τ ∧ kC τ = mC σ ∧ τ 7 2 = σ 4 2)
  | _ => True
def ms_X9_keep : List Me := [(209, 0, 1, 1, false, pr_X1_copyFrom, po_X1_copyFrom)]
theorem mk_X9_keep : ∀ q ∈ ms_X9_keep, kp_okM layC RX9 1 q := List.forall_mem_cons.mpr ⟨Or.inl ⟨0, yX1_copyFrom, cX1_copyFrom, 3, none, c_X1_copyFrom, by omega, by decide, rfl, lk_X9_209⟩, fun _ h => absurd h List.not_mem_nil⟩
set_option maxRecDepth 100000 in
theorem v_X9_keep {J : Nat → Lcl → List Value → Sg → Prop} {Q : Int32 → Sg → Prop}  (σ : Sg) (h : pr_X1_copyFrom [.ref 7, .ref 4] σ ∧ ∀ (τ1 : Sg), po_X1_copyFrom [.ref 7, .ref 4] σ (nI 0) τ1 → (Q (nI 0) τ1)) : kp_T layC gl_X9 pl_X9 (ms_X9_keep) tb_X9_keep (kp_rk none) J Q 30 tb_X9_keep (kp_en [.ref 0] 1) [] σ := h
set_option maxRecDepth 100000 in
set_option maxHeartbeats 4000000 in
theorem c_X9_keep : kp_Met layC 1 yX9_keep cX9_keep 1 none (pr_X9_keep) (po_X9_keep) := by
  refine kp_met (N := 30) (by decide) tk_X9_keep gk_X9 pk_X9 (mk_X9_keep) rfl (fun _ _ _ _ _ _ _ => False) ?_ (fun _ _ _ _ _ _ _ _ h => h.elim)
  rintro As σ ⟨rfl, hp⟩
  refine ⟨⟨rfl, Nat.le_of_ble_eq_true rfl⟩, v_X9_keep σ ?_⟩
  obtain ⟨hL, hkb, hty, hrl, hco, has, hsl⟩ := id hp
  obtain ⟨z, hz, hz1, -, -⟩ := id hL.2
  refine ⟨⟨7, 4, rfl, Or.inr ⟨rfl, rfl⟩, z, hz, hz1⟩, ?_⟩
  rintro τ1 ⟨k1, k2, k3⟩
  have k1 : fr [7, 8, 9] σ τ1 := k1
  have k3 : ∀ j, j < tn (σ 4 2) → τ1 8 j = σ 5 j ∧ τ1 9 j = σ 6 j := k3
  obtain ⟨b1, b2⟩ := mpC_copy hL.2 k3
  rw [← k2] at b1 b2
  refine ⟨?_, k1, ?_, k2⟩
  · have q : ∀ c, c ∉ [7, 8, 9] → τ1 c = σ c := fun c hc => k1 c hc
    refine ⟨?_, b1, ?_, ?_, ?_, ?_, ?_⟩
    · unfold LI at *; rw [q 2 (by decide), q 3 (by decide), q 4 (by decide), q 5 (by decide), q 6 (by decide)]; exact hL
    · unfold tyOK at *; rw [q 2 (by decide), q 15 (by decide)]; exact hty
    · rw [q 15 (by decide)]; exact hrl
    · unfold cstC at *; rw [q 19 (by decide), q 20 (by decide), q 21 (by decide), q 22 (by decide)]; exact hco
    · unfold asOK nwC noC at *; rw [q 2 (by decide), q 23 (by decide), q 24 (by decide), q 25 (by decide), q 26 (by decide)]; exact has
    · unfold slv bsC RS PT MT ofC nwC noC at *; rw [q 3 (by decide), q 19 (by decide), q 20 (by decide), q 21 (by decide), q 22 (by decide), q 23 (by decide), q 24 (by decide), q 25 (by decide), q 26 (by decide), q 27 (by decide)]; exact hsl
  · rw [k2] at b2
    show mpC (τ1 8) (τ1 9) (τ1 7 2) = _
    rw [k2]; exact b2
def pr_X9_back : SPre := fun As σ => As = [.ref 0] ∧ (InvC σ)
def po_X9_back : SPost := fun As σ r τ => match As with
  | [.ref _] => (InvC τ ∧ fr [4, 5, 6, 10] σ τ ∧ mC τ = kC σ ∧ τ 4 2 = σ 7 2 ∧ ∃ (g : Nat → Int32) (f : Nat), isD g f (mC σ) (kC σ) ∧ f ≤ 240 ∧ r = nI f)
  | _ => True
def ms_X9_back : List Me := [(213, 0, 1, 2, true, pr_X1_differences, po_X1_differences), (209, 0, 1, 1, false, pr_X1_copyFrom, po_X1_copyFrom)]
theorem mk_X9_back : ∀ q ∈ ms_X9_back, kp_okM layC RX9 1 q := List.forall_mem_cons.mpr ⟨Or.inl ⟨0, yX1_differences, cX1_differences, 11, (some .int), c_X1_differences, by omega, by decide, rfl, lk_X9_213⟩, List.forall_mem_cons.mpr ⟨Or.inl ⟨0, yX1_copyFrom, cX1_copyFrom, 3, none, c_X1_copyFrom, by omega, by decide, rfl, lk_X9_209⟩, fun _ h => absurd h List.not_mem_nil⟩⟩
set_option maxRecDepth 100000 in
theorem v_X9_back {J : Nat → Lcl → List Value → Sg → Prop} {Q : Int32 → Sg → Prop}  (σ : Sg) (h : pr_X1_differences [.ref 4, .ref 7, .ref 10] σ ∧ ∀ (x2 : Int32) (τ1 : Sg), po_X1_differences [.ref 4, .ref 7, .ref 10] σ x2 τ1 → (pr_X1_copyFrom [.ref 4, .ref 7] τ1 ∧ ∀ (τ3 : Sg), po_X1_copyFrom [.ref 4, .ref 7] τ1 (nI 0) τ3 → (Q x2 τ3))) : kp_T layC gl_X9 pl_X9 (ms_X9_back) tb_X9_back (kp_rk (some .int)) J Q 30 tb_X9_back (kp_en [.ref 0] 2) [] σ := h
set_option maxRecDepth 100000 in
set_option maxHeartbeats 4000000 in
theorem c_X9_back : kp_Met layC 1 yX9_back cX9_back 2 (some .int) (pr_X9_back) (po_X9_back) := by
  refine kp_met (N := 30) (by decide) tk_X9_back gk_X9 pk_X9 (mk_X9_back) rfl (fun _ _ _ _ _ _ _ => False) ?_ (fun _ _ _ _ _ _ _ _ h => h.elim)
  rintro As σ ⟨rfl, hp⟩
  refine ⟨⟨rfl, Nat.le_of_ble_eq_true rfl⟩, v_X9_back σ ?_⟩
  obtain ⟨hL, hkb, hty, hrl, hco, has, hsl⟩ := id hp
  refine ⟨⟨rfl, hL.2, hkb⟩, ?_⟩
  rintro x2 τ1 ⟨k1, f, hf, rfl, hD⟩
  have hI1 := InvC_fr hp k1 (by decide)
  have q7 := k1 7 (by decide)
  have q8 := k1 8 (by decide)
  have q9 := k1 9 (by decide)
  obtain ⟨z, hz, hz1, -, -⟩ := id hkb
  refine ⟨⟨4, 7, rfl, Or.inl ⟨rfl, rfl⟩, z, by rw [q7]; exact hz, hz1⟩, ?_⟩
  rintro τ3 ⟨p1, p2, p3⟩
  have p1 : fr [4, 5, 6] τ1 τ3 := p1
  have p3 : ∀ j, j < tn (τ1 7 2) → τ3 5 j = τ1 8 j ∧ τ3 6 j = τ1 9 j := p3
  obtain ⟨b1, b2⟩ := mpC_copy hI1.2.1 p3
  rw [← p2] at b1
  refine ⟨InvC_mp hI1 p1 b1, fr_tr (fr_mono k1 (by decide)) (fr_mono p1 (by decide)), ?_, by rw [p2, q7], τ1 10, f, hD, hf, rfl⟩
  show mpC (τ3 5) (τ3 6) (τ3 4 2) = _
  rw [p2, b2, q7, q8, q9]
def chA (g : Nat → Int32) (f : Nat) (M K : Nat → Int32) (i w : Int32) : Int32 := if i < nI 0 then -1 else if tn i < f then (if w = nI 0 then nI (tn (g (tn i)) / 16777216) else if w = nI 1 then nI (tn (g (tn i)) % 16777216) else if w = nI 2 then K (tn (g (tn i))) else if w = nI 3 then M (tn (g (tn i))) else -1) else -1
def pr_X9_change : SPre := fun As σ => ∃ i : Int32, ∃ w : Int32, As = [.ref 0, .int i, .int w] ∧ (InvC σ)
def po_X9_change : SPost := fun As σ r τ => match As with
  | [.ref _, .int i, .int w] => (InvC τ ∧ fr [10] σ τ ∧ ∃ (g : Nat → Int32) (f : Nat), isD g f (mC σ) (kC σ) ∧ f ≤ 240 ∧ r = chA g f (mC σ) (kC σ) i w)
  | _ => True
def ms_X9_change : List Me := [(213, 0, 1, 2, true, pr_X1_differences, po_X1_differences), (217, 1, 1, 1, true, pr_X1_contextOf, po_X1_contextOf), (220, 1, 1, 1, true, pr_X1_rowOf, po_X1_rowOf), (88, 0, 1, 1, true, pr_X1_at, po_X1_at)]
theorem mk_X9_change : ∀ q ∈ ms_X9_change, kp_okM layC RX9 2 q := List.forall_mem_cons.mpr ⟨Or.inl ⟨0, yX1_differences, cX1_differences, 11, (some .int), c_X1_differences, by omega, by decide, rfl, lk_X9_213⟩, List.forall_mem_cons.mpr ⟨Or.inl ⟨0, yX1_contextOf, cX1_contextOf, 1, (some .int), c_X1_contextOf, by omega, by decide, rfl, lk_X9_217⟩, List.forall_mem_cons.mpr ⟨Or.inl ⟨0, yX1_rowOf, cX1_rowOf, 1, (some .int), c_X1_rowOf, by omega, by decide, rfl, lk_X9_220⟩, List.forall_mem_cons.mpr ⟨Or.inl ⟨1, yX1_at, cX1_at, 3, (some .int), c_X1_at, by omega, by decide, rfl, lk_X9_88⟩, fun _ h => absurd h List.not_mem_nil⟩⟩⟩⟩
set_option maxRecDepth 100000 in
theorem v_X9_change {J : Nat → Lcl → List Value → Sg → Prop} {Q : Int32 → Sg → Prop} (i w : Int32) (σ : Sg) (h : pr_X1_differences [.ref 4, .ref 7, .ref 10] σ ∧ ∀ (x2 : Int32) (τ1 : Sg), po_X1_differences [.ref 4, .ref 7, .ref 10] σ x2 τ1 → ((i < (nI 0) → Q (-1) τ1) ∧ (¬ i < (nI 0) → (i < x2 → vp_in i 240 ∧ ((w = nI 0 → pr_X1_contextOf [.int (τ1 10 (i).toNatClampNeg)] τ1 ∧ ∀ (x10 : Int32) (τ9 : Sg), po_X1_contextOf [.int (τ1 10 (i).toNatClampNeg)] τ1 x10 τ9 → (Q x10 τ9)) ∧ (¬ w = nI 0 → (w = nI 1 → pr_X1_rowOf [.int (τ1 10 (i).toNatClampNeg)] τ1 ∧ ∀ (x8 : Int32) (τ7 : Sg), po_X1_rowOf [.int (τ1 10 (i).toNatClampNeg)] τ1 x8 τ7 → (Q x8 τ7)) ∧ (¬ w = nI 1 → (w = nI 2 → pr_X1_at [.ref 7, .int (τ1 10 (i).toNatClampNeg)] τ1 ∧ ∀ (x6 : Int32) (τ5 : Sg), po_X1_at [.ref 7, .int (τ1 10 (i).toNatClampNeg)] τ1 x6 τ5 → (Q x6 τ5)) ∧ (¬ w = nI 2 → (w = nI 3 → pr_X1_at [.ref 4, .int (τ1 10 (i).toNatClampNeg)] τ1 ∧ ∀ (x4 : Int32) (τ3 : Sg), po_X1_at [.ref 4, .int (τ1 10 (i).toNatClampNeg)] τ1 x4 τ3 → (Q x4 τ3)) ∧ (¬ w = nI 3 → Q (-1) τ1)))))) ∧ (¬ i < x2 → Q (-1) τ1)))) : kp_T layC gl_X9 pl_X9 (ms_X9_change) tb_X9_change (kp_rk (some .int)) J Q 47 tb_X9_change (kp_en [.ref 0, .int i, .int w] 5) [] σ := h
set_option maxRecDepth 100000 in
set_option maxHeartbeats 4000000 in
theorem c_X9_change : kp_Met layC 2 yX9_change cX9_change 5 (some .int) (pr_X9_change) (po_X9_change) := by
  refine kp_met (N := 47) (by decide) tk_X9_change gk_X9 pk_X9 (mk_X9_change) rfl (fun _ _ _ _ _ _ _ => False) ?_ (fun _ _ _ _ _ _ _ _ h => h.elim)
  rintro As σ ⟨i, w, rfl, hp⟩
  refine ⟨⟨rfl, Nat.le_of_ble_eq_true rfl⟩, v_X9_change i w σ ?_⟩
  obtain ⟨hL, hkb, hty, hrl, hco, has, hsl⟩ := id hp
  refine ⟨⟨rfl, hL.2, hkb⟩, ?_⟩
  rintro x2 τ1 ⟨k1, f, hf, rfl, hD⟩
  have hI1 := InvC_fr hp k1 (by decide)
  have hQ : ∀ r, r = chA (τ1 10) f (mC σ) (kC σ) i w → po_X9_change [.ref 0, .int i, .int w] σ r τ1 := fun r h => ⟨hI1, k1, τ1 10, f, hD, hf, h⟩
  have em : mC τ1 = mC σ := by unfold mC; rw [k1 4 (by decide), k1 5 (by decide), k1 6 (by decide)]
  have ek : kC τ1 = kC σ := by unfold kC; rw [k1 7 (by decide), k1 8 (by decide), k1 9 (by decide)]
  refine ⟨fun h => hQ _ (by unfold chA; rw [if_pos h]), fun h => ?_⟩
  have hni : nn i := (nI_tn h).symm
  rw [(nn_lt hni (show f < 2 ^ 31 by omega)).2]
  refine ⟨fun h2 => ⟨by rw [hni]; exact (kp_in (tn_lt _)).mpr (by omega), ?_⟩, fun h2 => hQ _ (by unfold chA; rw [if_neg h, if_neg h2])⟩
  have hg := hD.1 _ h2
  show (_ → pr_X1_contextOf [.int (τ1 10 (tn i))] τ1 ∧ _) ∧ _
  have hcl : i.toNatClampNeg = tn i := rfl
  rw [hcl]
  refine ⟨fun h3 => ⟨⟨_, rfl, _, hg, tn_lt _⟩, ?_⟩, fun h3 => ⟨fun h4 => ⟨⟨_, rfl, _, hg, tn_lt _⟩, ?_⟩, fun h4 => ⟨fun h5 => ⟨⟨7, _, rfl, Or.inr rfl, hI1.2.1, _, hg, tn_lt _⟩, ?_⟩, fun h5 => ⟨fun h6 => ⟨⟨4, _, rfl, Or.inl rfl, hI1.1.2, _, hg, tn_lt _⟩, ?_⟩, fun h6 => ?_⟩⟩⟩⟩
  · rintro x9 τ9 ⟨rfl, rfl⟩
    exact hQ _ (by unfold chA; rw [if_neg h, if_pos h2, if_pos h3])
  · rintro x9 τ9 ⟨rfl, rfl⟩
    exact hQ _ (by unfold chA; rw [if_neg h, if_pos h2, if_neg h3, if_pos h4])
  · rintro x9 τ9 ⟨rfl, rfl⟩
    exact hQ _ (by unfold chA; rw [if_neg h, if_pos h2, if_neg h3, if_neg h4, if_pos h5, ← ek])
  · rintro x9 τ9 ⟨rfl, rfl⟩
    exact hQ _ (by unfold chA; rw [if_neg h, if_pos h2, if_neg h3, if_neg h4, if_neg h5, if_pos h6, ← em])
  · exact hQ _ (by unfold chA; rw [if_neg h, if_pos h2, if_neg h3, if_neg h4, if_neg h5, if_neg h6])
def pr_X9_learn : SPre := fun As σ => ∃ i : Int32, As = [.ref 0, .int i] ∧ (InvC σ)
def po_X9_learn : SPost := fun As σ r τ => match As with
  | [.ref _, .int i] => (InvC τ ∧ fr [39] σ τ ∧ ∃ sv : Nat → Nat, (∀ c, c < 40 → sv c ≤ 30000 ∧ isSv (σ 19) (σ 20) (mC σ) c (sv c)) ∧ r = rkd sv i 40 0)
  | _ => True
def ms_X9_learn : List Me := [(223, 0, 6, 2, false, pr_X6_weigh, po_X6_weigh), (227, 0, 6, 1, true, pr_X6_ranked, po_X6_ranked)]
theorem mk_X9_learn : ∀ q ∈ ms_X9_learn, kp_okM layC RX9 4 q := List.forall_mem_cons.mpr ⟨Or.inl ⟨3, yX6_weigh, cX6_weigh, 6, none, c_X6_weigh, by omega, by decide, rfl, lk_X9_223⟩, List.forall_mem_cons.mpr ⟨Or.inl ⟨1, yX6_ranked, cX6_ranked, 3, (some .int), c_X6_ranked, by omega, by decide, rfl, lk_X9_227⟩, fun _ h => absurd h List.not_mem_nil⟩⟩
set_option maxRecDepth 100000 in
theorem v_X9_learn {J : Nat → Lcl → List Value → Sg → Prop} {Q : Int32 → Sg → Prop} (i : Int32) (σ : Sg) (h : pr_X6_weigh [.ref 38, .ref 4, .ref 18] σ ∧ ∀ (τ1 : Sg), po_X6_weigh [.ref 38, .ref 4, .ref 18] σ (nI 0) τ1 → (pr_X6_ranked [.ref 38, .int i] τ1 ∧ ∀ (x3 : Int32) (τ2 : Sg), po_X6_ranked [.ref 38, .int i] τ1 x3 τ2 → (Q x3 τ2))) : kp_T layC gl_X9 pl_X9 (ms_X9_learn) tb_X9_learn (kp_rk (some .int)) J Q 30 tb_X9_learn (kp_en [.ref 0, .int i] 2) [] σ := h
set_option maxRecDepth 100000 in
set_option maxHeartbeats 4000000 in
theorem c_X9_learn : kp_Met layC 4 yX9_learn cX9_learn 2 (some .int) (pr_X9_learn) (po_X9_learn) := by
  refine kp_met (N := 30) (by decide) tk_X9_learn gk_X9 pk_X9 (mk_X9_learn) rfl (fun _ _ _ _ _ _ _ => False) ?_ (fun _ _ _ _ _ _ _ _ h => h.elim)
  rintro As σ ⟨i, rfl, hp⟩
  refine ⟨⟨rfl, Nat.le_of_ble_eq_true rfl⟩, v_X9_learn i σ ?_⟩
  obtain ⟨hL, hkb, hty, hrl, hco, has, hsl⟩ := id hp
  refine ⟨⟨rfl, hL.2, hco⟩, ?_⟩
  rintro τ1 ⟨k1, k2⟩
  refine ⟨⟨_, rfl, fun d hd => ?_⟩, ?_⟩
  · obtain ⟨v, h1, h2, h3⟩ := k2 d hd
    rw [h1]; exact nn_nI (by omega)
  · rintro x3 τ2 ⟨rfl, rfl⟩
    refine ⟨InvC_fr hp k1 (by decide), k1, svS τ2, fun c hc => ?_, rfl⟩
    obtain ⟨v, h1, h2, h3⟩ := k2 c hc
    have : svS τ2 c = v := by show tn (τ2 39 c) = v; rw [h1, tn_nI (by omega)]
    rw [this]; exact ⟨h2, h3⟩
def pr_X9_saves : SPre := fun As σ => ∃ c : Int32, As = [.ref 0, .int c] ∧ (InvC σ)
def po_X9_saves : SPost := fun As σ r τ => match As with
  | [.ref _, .int c] => (InvC τ ∧ fr [39] σ τ ∧ (isCx (nI 40) c = true → ∃ v : Nat, v ≤ 30000 ∧ isSv (σ 19) (σ 20) (mC σ) (tn c) v ∧ r = nI v) ∧ (¬ isCx (nI 40) c = true → r = nI 0))
  | _ => True
def ms_X9_saves : List Me := [(165, 1, 8, 1, true, pr_X9_isCommand, po_X9_isCommand), (223, 0, 6, 2, false, pr_X6_weigh, po_X6_weigh)]
theorem mk_X9_saves : ∀ q ∈ ms_X9_saves, kp_okM layC RX9 4 q := List.forall_mem_cons.mpr ⟨Or.inl ⟨0, yX9_isCommand, cX9_isCommand, 1, (some .boolean), c_X9_isCommand, by omega, by decide, rfl, lk_X9_165⟩, List.forall_mem_cons.mpr ⟨Or.inl ⟨3, yX6_weigh, cX6_weigh, 6, none, c_X6_weigh, by omega, by decide, rfl, lk_X9_223⟩, fun _ h => absurd h List.not_mem_nil⟩⟩
set_option maxRecDepth 100000 in
theorem v_X9_saves {J : Nat → Lcl → List Value → Sg → Prop} {Q : Int32 → Sg → Prop} (c : Int32) (σ : Sg) (h : pr_X9_isCommand [.int c] σ ∧ ∀ (x2 : Int32) (τ1 : Sg), po_X9_isCommand [.int c] σ x2 τ1 → ((¬ x2 = (nI 0) → pr_X6_weigh [.ref 38, .ref 4, .ref 18] τ1 ∧ ∀ (τ3 : Sg), po_X6_weigh [.ref 38, .ref 4, .ref 18] τ1 (nI 0) τ3 → (vp_in c 40 ∧ (Q (τ3 39 (c).toNatClampNeg) τ3))) ∧ (x2 = (nI 0) → Q (nI 0) τ1))) : kp_T layC gl_X9 pl_X9 (ms_X9_saves) tb_X9_saves (kp_rk (some .int)) J Q 30 tb_X9_saves (kp_en [.ref 0, .int c] 2) [] σ := h
set_option maxRecDepth 100000 in
set_option maxHeartbeats 4000000 in
theorem c_X9_saves : kp_Met layC 4 yX9_saves cX9_saves 2 (some .int) (pr_X9_saves) (po_X9_saves) := by
  refine kp_met (N := 30) (by decide) tk_X9_saves gk_X9 pk_X9 (mk_X9_saves) rfl (fun _ _ _ _ _ _ _ => False) ?_ (fun _ _ _ _ _ _ _ _ h => h.elim)
  rintro As σ ⟨c, rfl, hp⟩
  refine ⟨⟨rfl, Nat.le_of_ble_eq_true rfl⟩, v_X9_saves c σ ?_⟩
  obtain ⟨hL, hkb, hty, hrl, hco, has, hsl⟩ := id hp
  refine ⟨⟨_, rfl, trivial⟩, ?_⟩
  rintro x2 τ1 ⟨rfl, rfl⟩
  rw [bI_0]
  refine ⟨fun h1 => ⟨⟨rfl, hL.2, hco⟩, ?_⟩, fun h1 => ⟨hp, fr_rf, fun z => (by rw [h1] at z; cases z), fun _ => rfl⟩⟩
  have h1 : isCx (nI 40) c = true := by simpa using h1
  rintro τ3 ⟨k1, k2⟩
  obtain ⟨a, ha, rfl⟩ := (isCx_iff (by omega)).mp h1
  obtain ⟨v, g1, g2, g3⟩ := k2 a ha
  have et : tn (nI a) = a := tn_nI (by omega)
  refine ⟨(kp_in (by omega)).mpr ha, InvC_fr hp k1 (by decide), k1, fun _ => ⟨v, g2, by rw [et]; exact g3, ?_⟩, fun z => absurd h1 z⟩
  show τ3 39 (tn (nI a)) = _
  rw [et]; exact g1
def cnA (w a0 a1 a2 a3 a4 a5 a6 a7 : Int32) : Int32 := if w = nI 0 then a0 else if w = nI 1 then a1 else if w = nI 2 then a2 else if w = nI 3 then a3 else if w = nI 4 then a4 else if w = nI 5 then a5 else if w = nI 6 then a6 else if w = nI 7 then a7 else -1
def pr_X9_count : SPre := fun As σ => ∃ w : Int32, As = [.ref 0, .int w] ∧ (InvC σ)
def po_X9_count : SPost := fun As σ r τ => match As with
  | [.ref _, .int w] => (InvC τ ∧ fr [10] σ τ ∧ (w = nI 8 → ∃ (g : Nat → Int32) (f : Nat), isD g f (mC σ) (kC σ) ∧ f ≤ 240 ∧ r = nI f) ∧ (¬ w = nI 8 → r = cnA w (σ 2 1) (σ 4 2) (nI (rlen (tn (σ 15 7)))) (σ 15 2) (σ 15 3) (σ 23 2) (σ 23 4) (σ 15 4)))
  | _ => True
def ms_X9_count : List Me := [(138, 1, 0, 1, true, pr_X7_length, po_X7_length), (213, 0, 1, 2, true, pr_X1_differences, po_X1_differences)]
theorem mk_X9_count : ∀ q ∈ ms_X9_count, kp_okM layC RX9 2 q := List.forall_mem_cons.mpr ⟨Or.inl ⟨1, yX7_length, cX7_length, 2, (some .int), c_X7_length, by omega, by decide, rfl, lk_X9_138⟩, List.forall_mem_cons.mpr ⟨Or.inl ⟨0, yX1_differences, cX1_differences, 11, (some .int), c_X1_differences, by omega, by decide, rfl, lk_X9_213⟩, fun _ h => absurd h List.not_mem_nil⟩⟩
set_option maxRecDepth 100000 in
theorem v_X9_count {J : Nat → Lcl → List Value → Sg → Prop} {Q : Int32 → Sg → Prop} (w : Int32) (σ : Sg) (h : (w = nI 0 → Q (σ 2 1) σ) ∧ (¬ w = nI 0 → (w = nI 1 → Q (σ 4 2) σ) ∧ (¬ w = nI 1 → (w = nI 2 → pr_X7_length [.int (σ 15 7)] σ ∧ ∀ (x4 : Int32) (τ3 : Sg), po_X7_length [.int (σ 15 7)] σ x4 τ3 → (Q x4 τ3)) ∧ (¬ w = nI 2 → (w = nI 3 → Q (σ 15 2) σ) ∧ (¬ w = nI 3 → (w = nI 4 → Q (σ 15 3) σ) ∧ (¬ w = nI 4 → (w = nI 5 → Q (σ 23 2) σ) ∧ (¬ w = nI 5 → (w = nI 6 → Q (σ 23 4) σ) ∧ (¬ w = nI 6 → (w = nI 7 → Q (σ 15 4) σ) ∧ (¬ w = nI 7 → (w = nI 8 → pr_X1_differences [.ref 4, .ref 7, .ref 10] σ ∧ ∀ (x2 : Int32) (τ1 : Sg), po_X1_differences [.ref 4, .ref 7, .ref 10] σ x2 τ1 → (Q x2 τ1)) ∧ (¬ w = nI 8 → Q (-1) σ)))))))))) : kp_T layC gl_X9 pl_X9 (ms_X9_count) tb_X9_count (kp_rk (some .int)) J Q 53 tb_X9_count (kp_en [.ref 0, .int w] 2) [] σ := h
set_option maxRecDepth 100000 in
set_option maxHeartbeats 4000000 in
theorem c_X9_count : kp_Met layC 2 yX9_count cX9_count 2 (some .int) (pr_X9_count) (po_X9_count) := by
  refine kp_met (N := 53) (by decide) tk_X9_count gk_X9 pk_X9 (mk_X9_count) rfl (fun _ _ _ _ _ _ _ => False) ?_ (fun _ _ _ _ _ _ _ _ h => h.elim)
  rintro As σ ⟨w, rfl, hp⟩
  refine ⟨⟨rfl, Nat.le_of_ble_eq_true rfl⟩, v_X9_count w σ ?_⟩
  obtain ⟨hL, hkb, hty, hrl, hco, has, hsl⟩ := id hp
  have hQ : ∀ r, (¬ w = nI 8 ∧ r = cnA w (σ 2 1) (σ 4 2) (nI (rlen (tn (σ 15 7)))) (σ 15 2) (σ 15 3) (σ 23 2) (σ 23 4) (σ 15 4)) → po_X9_count [.ref 0, .int w] σ r σ := fun r h => ⟨hp, fr_rf, fun z => absurd z h.1, fun _ => h.2⟩
  refine ⟨fun h0 => hQ _ ⟨by rw [h0]; decide, by unfold cnA; rw [if_pos h0]⟩, fun h0 => ⟨fun h1 => hQ _ ⟨by rw [h1]; decide, by unfold cnA; rw [if_neg h0, if_pos h1]⟩, fun h1 => ⟨fun h2 => ⟨⟨_, rfl, tn (σ 15 7), hty.1, lnOK_lt hty.2.1⟩, ?_⟩, fun h2 => ⟨fun h3 => hQ _ ⟨by rw [h3]; decide, by unfold cnA; rw [if_neg h0, if_neg h1, if_neg h2, if_pos h3]⟩, fun h3 => ⟨fun h4 => hQ _ ⟨by rw [h4]; decide, by unfold cnA; rw [if_neg h0, if_neg h1, if_neg h2, if_neg h3, if_pos h4]⟩, fun h4 => ⟨fun h5 => hQ _ ⟨by rw [h5]; decide, by unfold cnA; rw [if_neg h0, if_neg h1, if_neg h2, if_neg h3, if_neg h4, if_pos h5]⟩, fun h5 => ⟨fun h6 => hQ _ ⟨by rw [h6]; decide, by unfold cnA; rw [if_neg h0, if_neg h1, if_neg h2, if_neg h3, if_neg h4, if_neg h5, if_pos h6]⟩, fun h6 => ⟨fun h7 => hQ _ ⟨by rw [h7]; decide, by unfold cnA; rw [if_neg h0, if_neg h1, if_neg h2, if_neg h3, if_neg h4, if_neg h5, if_neg h6, if_pos h7]⟩, fun h7 => ⟨fun h8 => ⟨⟨rfl, hL.2, hkb⟩, ?_⟩, fun h8 => hQ _ ⟨h8, by unfold cnA; rw [if_neg h0, if_neg h1, if_neg h2, if_neg h3, if_neg h4, if_neg h5, if_neg h6, if_neg h7]⟩⟩⟩⟩⟩⟩⟩⟩⟩⟩
  · rintro x4 τ3 ⟨rfl, rfl⟩
    exact hQ _ ⟨by rw [h2]; decide, by unfold cnA; rw [if_neg h0, if_neg h1, if_pos h2]⟩
  · rintro x2 τ1 ⟨k1, f, hf, rfl, hD⟩
    exact ⟨InvC_fr hp k1 (by decide), k1, fun _ => ⟨τ1 10, f, hD, hf, rfl⟩, fun z => absurd h8 z⟩
