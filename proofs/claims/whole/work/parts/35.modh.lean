/-! the model's cheapest assignment -/
abbrev RSM (σ : Sg) : BS := gv (nwM σ) (noM σ) (PTM σ) (MTM σ) (ofM σ) (nwM σ) 0 0 (fun _ => 0) none
def agM (σ τ : Sg) : Prop := InvM τ ∧ fm [19, 20] [0, 33] σ τ ∧ bmOK τ ∧ bsM τ = RSM σ
def pr_X10_assigns : SPre := fun As σ => As = [.ref 0] ∧ (InvM σ)
def po_X10_assigns : SPost := fun As σ r τ => match As with
  | [.ref _] => (agM σ τ ∧ r = bI (!decide (τ 0 33 = -1)))
  | _ => True
def ms_X10_assigns : List Me := [(188, 0, 9, 2, false, (pr_X10_gives 7), po_X10_gives)]
theorem mk_X10_assigns : ∀ q ∈ ms_X10_assigns, kp_okM layM RX10 11 q := List.forall_mem_cons.mpr ⟨Or.inl ⟨8, yX10_gives, cX10_gives, 6, none, (cc_gives 7), by omega, by decide, rfl, lk_X10_188⟩, fun _ h => absurd h List.not_mem_nil⟩
set_option maxRecDepth 100000 in
theorem v_X10_assigns {J : Nat → Lcl → List Value → Sg → Prop} {Q : Int32 → Sg → Prop}  (σ : Sg) (h : (pr_X10_gives 7) [.ref 0, .int (nI 0), .int (nI 0)] (kp_up (kp_up σ 0 0 (nI 0)) 0 33 (-1)) ∧ ∀ (τ1 : Sg), po_X10_gives [.ref 0, .int (nI 0), .int (nI 0)] (kp_up (kp_up σ 0 0 (nI 0)) 0 33 (-1)) (nI 0) τ1 → (((τ1 0 33) = (-1) → ((nI 0) = nI 0 ∨ (nI 0) = nI 1) ∧ Q (nI 0) τ1) ∧ (¬ (τ1 0 33) = (-1) → ((nI 1) = nI 0 ∨ (nI 1) = nI 1) ∧ Q (nI 1) τ1))) : kp_T layM gl_X10 pl_X10 (ms_X10_assigns) tb_X10_assigns (kp_rk (some .boolean)) J Q 30 tb_X10_assigns (kp_en [.ref 0] 1) [] σ := h
set_option maxRecDepth 100000 in
set_option maxHeartbeats 4000000 in
theorem c_X10_assigns : kp_Met layM 11 yX10_assigns cX10_assigns 1 (some .boolean) (pr_X10_assigns) (po_X10_assigns) := by
  refine kp_met (N := 30) (by decide) tk_X10_assigns gk_X10 pk_X10 (mk_X10_assigns) rfl (fun _ _ _ _ _ _ _ => False) ?_ (fun _ _ _ _ _ _ _ _ h => h.elim)
  rintro As σ ⟨rfl, hp⟩
  refine ⟨⟨rfl, Nat.le_of_ble_eq_true rfl⟩, v_X10_assigns σ ?_⟩
  obtain ⟨hL, hk, hty, hco, has⟩ := id hp
  have hf : fm [19, 20] [0, 33] σ (kp_up (kp_up σ 0 0 (nI 0)) 0 33 (-1)) := fm_up0 (fm_up0 fm_rf (by decide)) (by decide)
  have h0 : InvM (kp_up (kp_up σ 0 0 (nI 0)) 0 33 (-1)) := InvM_fm hp hf (by decide) (by decide)
  obtain ⟨d1, d2, d3, d4, d5⟩ := fm_data hf (by decide) (by decide)
  have h33 : kp_up (kp_up σ 0 0 (nI 0)) 0 33 (-1) 0 33 = -1 := up_s
  have hnw := has.2.1
  refine ⟨⟨_, _, rfl, h0.2.2.2.2, h0.2.2.2.1, h0.1.1, 0, 0, rfl, rfl, by rw [d1]; omega, Nat.zero_le _, Nat.zero_le _, fun j hj => by omega, Or.inl h33, fun z => absurd h33 z⟩, ?_⟩
  rintro τ1 ⟨⟨p1, p2, p3⟩, p4⟩
  have hf1 : fm [19, 20] [0, 33] σ τ1 := fm_tr hf (fm_mono p1 (by decide) (by decide))
  have hA : agM σ τ1 := by
    refine ⟨InvM_fm hp hf1 (by decide) (by decide), hf1, p3, ?_⟩
    rw [p4]
    have e0 : bsM (kp_up (kp_up σ 0 0 (nI 0)) 0 33 (-1)) = none := by unfold bsM; rw [if_pos h33]
    unfold gvM
    rw [e0, d1, d2, d3, d4, d5]
    exact gv_congr (fun _ _ _ _ => rfl) (fun _ _ _ _ => rfl) (fun _ _ => rfl) _ 0 _ _ _ _ (Nat.zero_add _) (fun j hj => by omega)
  exact ⟨fun h => ⟨Or.inl rfl, hA, by rw [decide_eq_true h]; rfl⟩, fun h => ⟨Or.inr rfl, hA, by rw [decide_eq_false h]; rfl⟩⟩
theorem ag_case {σ τ : Sg} (h : agM σ τ) : (τ 0 33 = -1 ∧ RSM σ = none) ∨ (τ 0 33 ≠ -1 ∧ nn (τ 0 33) ∧ RSM σ = some (tn (τ 0 33), (List.range (nwM τ)).map fun i => tn (τ 17 (tn (τ 20 i)))) ∧ ∀ j, j < nwM τ → nn (τ 20 j) ∧ tn (τ 20 j) < noM τ) := by
  obtain ⟨-, -, h1, h2⟩ := h
  unfold bsM at h2
  by_cases q : τ 0 33 = -1
  · rw [if_pos q] at h2; exact Or.inl ⟨q, h2.symm⟩
  · rw [if_neg q] at h2; exact Or.inr ⟨q, (h1.1.resolve_left q).1, h2.symm, h1.2 q⟩
theorem ag_t {x : Int32} : (bI (!decide (x = -1)) = nI 0 ↔ x = -1) := by rw [bI_0]; simp
def pr_X10_cheapest : SPre := fun As σ => As = [.ref 0] ∧ (InvM σ)
def po_X10_cheapest : SPost := fun As σ r τ => match As with
  | [.ref _] => (InvM τ ∧ fm [19, 20] [0, 33] σ τ ∧ r = bsV (RSM σ))
  | _ => True
def ms_X10_cheapest : List Me := [(192, 0, 9, 0, true, pr_X10_assigns, po_X10_assigns)]
theorem mk_X10_cheapest : ∀ q ∈ ms_X10_cheapest, kp_okM layM RX10 12 q := List.forall_mem_cons.mpr ⟨Or.inl ⟨11, yX10_assigns, cX10_assigns, 1, (some .boolean), c_X10_assigns, by omega, by decide, rfl, lk_X10_192⟩, fun _ h => absurd h List.not_mem_nil⟩
set_option maxRecDepth 100000 in
theorem v_X10_cheapest {J : Nat → Lcl → List Value → Sg → Prop} {Q : Int32 → Sg → Prop}  (σ : Sg) (h : pr_X10_assigns [.ref 0] σ ∧ ∀ (x2 : Int32) (τ1 : Sg), po_X10_assigns [.ref 0] σ x2 τ1 → ((x2 = (nI 0) → Q (-1) τ1) ∧ (¬ x2 = (nI 0) → Q (τ1 0 33) τ1))) : kp_T layM gl_X10 pl_X10 (ms_X10_cheapest) tb_X10_cheapest (kp_rk (some .int)) J Q 30 tb_X10_cheapest (kp_en [.ref 0] 1) [] σ := h
set_option maxRecDepth 100000 in
set_option maxHeartbeats 4000000 in
theorem c_X10_cheapest : kp_Met layM 12 yX10_cheapest cX10_cheapest 1 (some .int) (pr_X10_cheapest) (po_X10_cheapest) := by
  refine kp_met (N := 30) (by decide) tk_X10_cheapest gk_X10 pk_X10 (mk_X10_cheapest) rfl (fun _ _ _ _ _ _ _ => False) ?_ (fun _ _ _ _ _ _ _ _ h => h.elim)
  rintro As σ ⟨rfl, hp⟩
  refine ⟨⟨rfl, Nat.le_of_ble_eq_true rfl⟩, v_X10_cheapest σ ?_⟩
  refine ⟨⟨rfl, hp⟩, ?_⟩
  rintro x2 τ1 ⟨hA, rfl⟩
  rw [ag_t]
  rcases ag_case hA with ⟨q1, q2⟩ | ⟨q1, q2, q3, q4⟩
  · exact ⟨fun _ => ⟨hA.1, hA.2.1, by rw [q2]; rfl⟩, fun z => absurd q1 z⟩
  · exact ⟨fun z => absurd z q1, fun _ => ⟨hA.1, hA.2.1, by rw [q3]; exact q2⟩⟩
def pr_X10_assigned : SPre := fun As σ => ∃ i : Int32, As = [.ref 0, .int i] ∧ (InvM σ)
def po_X10_assigned : SPost := fun As σ r τ => match As with
  | [.ref _, .int i] => (InvM τ ∧ fm [19, 20] [0, 33] σ τ ∧ r = asA (RSM σ) i)
  | _ => True
def ms_X10_assigned : List Me := [(192, 0, 9, 0, true, pr_X10_assigns, po_X10_assigns)]
theorem mk_X10_assigned : ∀ q ∈ ms_X10_assigned, kp_okM layM RX10 12 q := List.forall_mem_cons.mpr ⟨Or.inl ⟨11, yX10_assigns, cX10_assigns, 1, (some .boolean), c_X10_assigns, by omega, by decide, rfl, lk_X10_192⟩, fun _ h => absurd h List.not_mem_nil⟩
set_option maxRecDepth 100000 in
theorem v_X10_assigned {J : Nat → Lcl → List Value → Sg → Prop} {Q : Int32 → Sg → Prop} (i : Int32) (σ : Sg) (h : pr_X10_assigns [.ref 0] σ ∧ ∀ (x2 : Int32) (τ1 : Sg), po_X10_assigns [.ref 0] σ x2 τ1 → ((x2 = (nI 0) → Q (-1) τ1) ∧ (¬ x2 = (nI 0) → (i < (nI 0) → Q (-1) τ1) ∧ (¬ i < (nI 0) → (¬ i < (τ1 0 10) → Q (-1) τ1) ∧ (i < (τ1 0 10) → vp_in i 6 ∧ (vp_in (τ1 20 (i).toNatClampNeg) 8 ∧ (Q (τ1 17 (τ1 20 (i).toNatClampNeg).toNatClampNeg) τ1))))))) : kp_T layM gl_X10 pl_X10 (ms_X10_assigned) tb_X10_assigned (kp_rk (some .int)) J Q 30 tb_X10_assigned (kp_en [.ref 0, .int i] 2) [] σ := h
set_option maxRecDepth 100000 in
set_option maxHeartbeats 4000000 in
theorem c_X10_assigned : kp_Met layM 12 yX10_assigned cX10_assigned 2 (some .int) (pr_X10_assigned) (po_X10_assigned) := by
  refine kp_met (N := 30) (by decide) tk_X10_assigned gk_X10 pk_X10 (mk_X10_assigned) rfl (fun _ _ _ _ _ _ _ => False) ?_ (fun _ _ _ _ _ _ _ _ h => h.elim)
  rintro As σ ⟨i, rfl, hp⟩
  refine ⟨⟨rfl, Nat.le_of_ble_eq_true rfl⟩, v_X10_assigned i σ ?_⟩
  refine ⟨⟨rfl, hp⟩, ?_⟩
  rintro x2 τ1 ⟨hA, rfl⟩
  rw [ag_t]
  have hQ : ∀ r, r = asA (RSM σ) i → po_X10_assigned [.ref 0, .int i] σ r τ1 := fun r h => ⟨hA.1, hA.2.1, h⟩
  rcases ag_case hA with ⟨q1, q2⟩ | ⟨q1, q2, q3, q4⟩
  · exact ⟨fun _ => hQ _ (by rw [q2]; rfl), fun z => absurd q1 z⟩
  · have has := hA.1.2.2.2.2
    refine ⟨fun z => absurd z q1, fun _ => ⟨fun h => hQ _ (by rw [q3]; show _ = (if i < nI 0 then _ else _); rw [if_pos h]), fun h => ?_⟩⟩
    have hni : nn i := (nI_tn h).symm
    have hlt : i < τ1 0 10 ↔ tn i < nwM τ1 := by rw [has.1, (nn_lt hni (tn_lt _)).2]
    have h6 := has.2.1
    have h8 := has.2.2.2.1
    rw [hlt]
    refine ⟨fun h2 => hQ _ ?_, fun h2 => ⟨by rw [hni]; exact (kp_in (tn_lt _)).mpr (by omega), ?_, hQ _ ?_⟩⟩
    · rw [q3]
      show _ = (if i < nI 0 then _ else _)
      rw [if_neg h]
      dsimp only
      rw [rmap_gn h2]
    · obtain ⟨b1, b2⟩ := q4 _ h2
      show vp_in (τ1 20 (tn i)) 8
      rw [b1]; exact (kp_in (tn_lt _)).mpr (by omega)
    · rw [q3]
      show τ1 17 (tn (τ1 20 (tn i))) = (if i < nI 0 then _ else _)
      rw [if_neg h]
      dsimp only
      rw [rmap_get h2]
      exact (has.2.2.2.2.2 _ (q4 _ h2).2).1
def pr_X10_broken : SPre := fun As σ => As = [.ref 0] ∧ (InvM σ)
def po_X10_broken : SPost := fun As σ r τ => match As with
  | [.ref _] => (InvM τ ∧ fm [19, 20] [0, 33] σ τ ∧ r = brA (σ 13) (σ 15) (nwM σ) (RSM σ))
  | _ => True
def ms_X10_broken : List Me := [(192, 0, 9, 0, true, pr_X10_assigns, po_X10_assigns), (185, 0, 9, 2, true, pr_X10_breaks, po_X10_breaks)]
theorem mk_X10_broken : ∀ q ∈ ms_X10_broken, kp_okM layM RX10 12 q := List.forall_mem_cons.mpr ⟨Or.inl ⟨11, yX10_assigns, cX10_assigns, 1, (some .boolean), c_X10_assigns, by omega, by decide, rfl, lk_X10_192⟩, List.forall_mem_cons.mpr ⟨Or.inl ⟨0, yX10_breaks, cX10_breaks, 3, (some .boolean), c_X10_breaks, by omega, by decide, rfl, lk_X10_185⟩, fun _ h => absurd h List.not_mem_nil⟩⟩
set_option maxRecDepth 100000 in
theorem v_X10_broken {J : Nat → Lcl → List Value → Sg → Prop} {Q : Int32 → Sg → Prop}  (σ : Sg) (h : pr_X10_assigns [.ref 0] σ ∧ ∀ (x2 : Int32) (τ1 : Sg), po_X10_assigns [.ref 0] σ x2 τ1 → ((¬ x2 = (nI 0) → J 13 [some (.ref 0), some (.int (nI 0)), some (.int (nI 0))] [] τ1) ∧ (x2 = (nI 0) → Q (-1) τ1))) : kp_T layM gl_X10 pl_X10 (ms_X10_broken) tb_X10_broken (kp_rk (some .int)) J Q 42 tb_X10_broken (kp_en [.ref 0] 3) [] σ := h
set_option maxRecDepth 100000 in
theorem v_X10_broken_13 {J : Nat → Lcl → List Value → Sg → Prop} {Q : Int32 → Sg → Prop} (n1 k : Int32) (σ : Sg) (h : (¬ k < (σ 0 10) → Q n1 σ) ∧ (k < (σ 0 10) → vp_in k 6 ∧ (vp_in k 6 ∧ (vp_in (σ 20 (k).toNatClampNeg) 8 ∧ (pr_X10_breaks [.ref 0, .int (σ 15 (k).toNatClampNeg), .int (σ 17 (σ 20 (k).toNatClampNeg).toNatClampNeg)] σ ∧ ∀ (x2 : Int32) (τ1 : Sg), po_X10_breaks [.ref 0, .int (σ 15 (k).toNatClampNeg), .int (σ 17 (σ 20 (k).toNatClampNeg).toNatClampNeg)] σ x2 τ1 → ((x2 = (nI 0) → J 13 [some (.ref 0), some (.int (n1 + (nI 0))), some (.int (k + nI 1))] [] τ1) ∧ (¬ x2 = (nI 0) → J 13 [some (.ref 0), some (.int (n1 + (nI 1))), some (.int (k + nI 1))] [] τ1))))))) : kp_T1 layM gl_X10 pl_X10 (ms_X10_broken) tb_X10_broken (kp_rk (some .int)) J Q 42 13 [some (.ref 0), some (.int n1), some (.int k)] [] σ := h
abbrev iv_X10_broken : List Value → Sg → Nat → Nat → Lcl → List Value → Sg → Prop := fun As σ n pc ls st τ => pc = 13 ∧ st = [] ∧ As = [.ref 0] ∧ agM σ τ ∧ τ 0 33 ≠ -1 ∧ ∃ k : Nat, k ≤ nwM τ ∧ n = nwM τ - k ∧ ls = [some (.ref 0), some (.int (nI (bkN (fun i => brk (τ 13) (tn (τ 15 i)) (tn (τ 17 (tn (τ 20 i))))) k))), some (.int (nI k))]
set_option maxRecDepth 100000 in
set_option maxHeartbeats 4000000 in
theorem c_X10_broken : kp_Met layM 12 yX10_broken cX10_broken 3 (some .int) (pr_X10_broken) (po_X10_broken) := by
  refine kp_met (N := 42) (by decide) tk_X10_broken gk_X10 pk_X10 (mk_X10_broken) rfl (iv_X10_broken) ?_ ?_
  · rintro As σ ⟨rfl, hp⟩
    refine ⟨⟨rfl, Nat.le_of_ble_eq_true rfl⟩, v_X10_broken σ ?_⟩
    refine ⟨⟨rfl, hp⟩, ?_⟩
    rintro x2 τ1 ⟨hA, rfl⟩
    rw [ag_t]
    refine ⟨fun h => ⟨_, rfl, rfl, rfl, hA, h, 0, Nat.zero_le _, rfl, rfl⟩, fun h => ⟨hA.1, hA.2.1, ?_⟩⟩
    rcases ag_case hA with ⟨q1, q2⟩ | ⟨q1, q2, q3, q4⟩
    · rw [q2]; rfl
    · exact absurd h q1
  · rintro As σ ⟨rfl, hp⟩ n pc ls st τ hI
    obtain ⟨rfl, rfl, hAs, hA, h33, k, hk, rfl, rfl⟩ := hI
    clear hAs
    obtain ⟨q2, q3, q4⟩ := ((ag_case hA).resolve_left (fun z => h33 z.1)).2
    have has := hA.1.2.2.2.2
    obtain ⟨a1, a2, a3, a4, a5, a6⟩ := id has
    have en : nwM τ = tn (τ 0 10) := rfl
    have hle := bkN_le (f := fun i => brk (τ 13) (tn (τ 15 i)) (tn (τ 17 (tn (τ 20 i))))) k
    refine v_X10_broken_13 _ _ τ ?_
    rw [(nn_lt a1 (show k < 2 ^ 31 by omega)).1, nI_clamp (show k < 2 ^ 31 by omega), show nI k + nI 1 = nI (k + 1) from nI_add _ _]
    refine ⟨fun g => ⟨hA.1, hA.2.1, ?_⟩, fun g => ?_⟩
    · have ek : k = nwM τ := by omega
      have enw : nwM τ = nwM σ := by show tn (τ 0 10) = tn (σ 0 10); rw [hA.2.1.2 10 (by decide)]
      rw [q3]
      show nI _ = nI _
      rw [ek, enw]
      rw [bkN_congr (nwM σ) (fun i hi => ?_)]
      rw [rmap_gD hi]
      show brk (τ 13) (tn (τ 15 i)) _ = _
      rw [hA.2.1.1 13 (by decide) (by decide), hA.2.1.1 15 (by decide) (by decide)]
    · obtain ⟨b1, b2⟩ := q4 k g
      have hin : vp_in (nI k) 6 := (kp_in (by omega)).mpr (by omega)
      have ecl : (τ 20 k).toNatClampNeg = tn (τ 20 k) := rfl
      rw [ecl]
      refine ⟨hin, hin, by rw [b1]; exact (kp_in (tn_lt _)).mpr (by omega), ⟨_, _, rfl, fun c h => (hA.1.2.2.2.1.2 c h).2.1.1, tn (τ 15 k), tn (τ 17 (tn (τ 20 k))), (a5 k g).1, (a5 k g).2.1, (a6 _ b2).1, tn_lt _⟩, ?_⟩
      rintro x2 τ1 ⟨rfl, rfl⟩
      rw [bI_0, nI_add, nI_add]
      refine ⟨fun h => ⟨nwM τ1 - (k + 1), by omega, rfl, rfl, rfl, hA, h33, k + 1, by omega, rfl, ?_⟩, fun h => ⟨nwM τ1 - (k + 1), by omega, rfl, rfl, rfl, hA, h33, k + 1, by omega, rfl, ?_⟩⟩
      · rw [bkN, if_neg (by rw [h]; decide)]
      · rw [bkN, if_pos (by simpa using h)]
abbrev bKM (τ : Sg) : Nat → Nat := fun i => tn (τ 16 i) * 16777216 + tn (τ 17 (tn (τ 20 i)))
theorem ag_end {σ τ : Sg} (hA : agM σ τ) (h33 : τ 0 33 ≠ -1) {M' : Nat → Int32} {Z' : Nat} {r : Int32} (hq : ap1 (bKM τ) (τ 15) (nwM τ) (mM τ) (tn (τ 0 8)) M' Z' r) : apP (RSM σ) (σ 15) (σ 16) (nwM σ) (mM σ) (tn (σ 0 8)) M' Z' r := by
  obtain ⟨q2, q3, q4⟩ := ((ag_case hA).resolve_left (fun z => h33 z.1)).2
  obtain ⟨hI, hf, -, -⟩ := hA
  have en : nwM τ = nwM σ := by show tn (τ 0 10) = tn (σ 0 10); rw [hf.2 10 (by decide)]
  have em : mM τ = mM σ := by unfold mM; rw [hf.1 2 (by decide) (by decide), hf.1 3 (by decide) (by decide), hf.1 4 (by decide) (by decide), hf.2 8 (by decide)]
  rw [q3]
  show ap1 _ _ _ _ _ _ _ _
  rw [hf.1 15 (by decide) (by decide), em, en, hf.2 8 (by decide)] at hq
  refine ap1_congr (fun i hi => ?_) hq
  rw [en]
  dsimp only
  rw [rmap_gD hi]
  show tn (τ 16 i) * 16777216 + _ = _
  rw [hf.1 16 (by decide) (by decide)]
def pr_X10_apply : SPre := fun As σ => As = [.ref 0] ∧ (InvM σ)
def po_X10_apply : SPost := fun As σ r τ => match As with
  | [.ref _] => (InvM τ ∧ fm [2, 3, 4, 19, 20] [0, 8, 33] σ τ ∧ apP (RSM σ) (σ 15) (σ 16) (nwM σ) (mM σ) (tn (σ 0 8)) (mM τ) (tn (τ 0 8)) r)
  | _ => True
def ms_X10_apply : List Me := [(192, 0, 9, 0, true, pr_X10_assigns, po_X10_assigns), (101, 0, 9, 2, true, pr_X10_hasFor, po_X10_hasFor), (104, 0, 9, 3, false, pr_X10_set, po_X10_set)]
theorem mk_X10_apply : ∀ q ∈ ms_X10_apply, kp_okM layM RX10 12 q := List.forall_mem_cons.mpr ⟨Or.inl ⟨11, yX10_assigns, cX10_assigns, 1, (some .boolean), c_X10_assigns, by omega, by decide, rfl, lk_X10_192⟩, List.forall_mem_cons.mpr ⟨Or.inl ⟨1, yX10_hasFor, cX10_hasFor, 4, (some .int), c_X10_hasFor, by omega, by decide, rfl, lk_X10_101⟩, List.forall_mem_cons.mpr ⟨Or.inl ⟨1, yX10_set, cX10_set, 6, none, c_X10_set, by omega, by decide, rfl, lk_X10_104⟩, fun _ h => absurd h List.not_mem_nil⟩⟩⟩
set_option maxRecDepth 100000 in
theorem v_X10_apply {J : Nat → Lcl → List Value → Sg → Prop} {Q : Int32 → Sg → Prop}  (σ : Sg) (h : pr_X10_assigns [.ref 0] σ ∧ ∀ (x2 : Int32) (τ1 : Sg), po_X10_assigns [.ref 0] σ x2 τ1 → ((¬ x2 = (nI 0) → J 15 [some (.ref 0), some (.int (nI 0)), some (.int (nI 0)), some (.int (nI 0)), none] [] τ1) ∧ (x2 = (nI 0) → Q (-1) τ1))) : kp_T layM gl_X10 pl_X10 (ms_X10_apply) tb_X10_apply (kp_rk (some .int)) J Q 92 tb_X10_apply (kp_en [.ref 0] 5) [] σ := h
set_option maxRecDepth 100000 in
theorem v_X10_apply_15 {J : Nat → Lcl → List Value → Sg → Prop} {Q : Int32 → Sg → Prop} (more other k : Int32) (o4 : Option Value) (σ : Sg) (h : (¬ k < (σ 0 10) → (¬ (nI 120) < ((σ 0 8) + more) → J 100 [some (.ref 0), some (.int more), some (.int other), some (.int (nI 0)), o4] [] σ) ∧ ((nI 120) < ((σ 0 8) + more) → Q (-1) σ)) ∧ (k < (σ 0 10) → vp_in k 6 ∧ (vp_in k 6 ∧ (vp_in (σ 20 (k).toNatClampNeg) 8 ∧ (pr_X10_hasFor [.ref 0, .int (σ 16 (k).toNatClampNeg), .int (σ 17 (σ 20 (k).toNatClampNeg).toNatClampNeg)] σ ∧ ∀ (x2 : Int32) (τ1 : Sg), po_X10_hasFor [.ref 0, .int (σ 16 (k).toNatClampNeg), .int (σ 17 (σ 20 (k).toNatClampNeg).toNatClampNeg)] σ x2 τ1 → ((¬ x2 = (-1) → vp_in k 6 ∧ ((x2 = (τ1 15 (k).toNatClampNeg) → J 15 [some (.ref 0), some (.int (more + (nI 0))), some (.int (other + (nI 0))), some (.int (k + nI 1)), some (.int x2)] [] τ1) ∧ (¬ x2 = (τ1 15 (k).toNatClampNeg) → J 15 [some (.ref 0), some (.int (more + (nI 0))), some (.int (other + (nI 1))), some (.int (k + nI 1)), some (.int x2)] [] τ1))) ∧ (x2 = (-1) → vp_in k 6 ∧ ((x2 = (τ1 15 (k).toNatClampNeg) → J 15 [some (.ref 0), some (.int (more + (nI 1))), some (.int (other + (nI 0))), some (.int (k + nI 1)), some (.int x2)] [] τ1) ∧ (¬ x2 = (τ1 15 (k).toNatClampNeg) → J 15 [some (.ref 0), some (.int (more + (nI 1))), some (.int (other + (nI 1))), some (.int (k + nI 1)), some (.int x2)] [] τ1))))))))) : kp_T1 layM gl_X10 pl_X10 (ms_X10_apply) tb_X10_apply (kp_rk (some .int)) J Q 92 15 [some (.ref 0), some (.int more), some (.int other), some (.int k), o4] [] σ := h
set_option maxRecDepth 100000 in
theorem v_X10_apply_100 {J : Nat → Lcl → List Value → Sg → Prop} {Q : Int32 → Sg → Prop} (more other k : Int32) (o4 : Option Value) (σ : Sg) (h : (¬ k < (σ 0 10) → Q other σ) ∧ (k < (σ 0 10) → vp_in k 6 ∧ (vp_in k 6 ∧ (vp_in (σ 20 (k).toNatClampNeg) 8 ∧ (vp_in k 6 ∧ (pr_X10_set [.ref 0, .int (σ 16 (k).toNatClampNeg), .int (σ 17 (σ 20 (k).toNatClampNeg).toNatClampNeg), .int (σ 15 (k).toNatClampNeg)] σ ∧ ∀ (τ1 : Sg), po_X10_set [.ref 0, .int (σ 16 (k).toNatClampNeg), .int (σ 17 (σ 20 (k).toNatClampNeg).toNatClampNeg), .int (σ 15 (k).toNatClampNeg)] σ (nI 0) τ1 → (J 100 [some (.ref 0), some (.int more), some (.int other), some (.int (k + nI 1)), o4] [] τ1))))))) : kp_T1 layM gl_X10 pl_X10 (ms_X10_apply) tb_X10_apply (kp_rk (some .int)) J Q 92 100 [some (.ref 0), some (.int more), some (.int other), some (.int k), o4] [] σ := h
abbrev iv_X10_apply : List Value → Sg → Nat → Nat → Lcl → List Value → Sg → Prop := fun As σ n pc ls st τ => st = [] ∧ As = [.ref 0] ∧ ((pc = 15 ∧ ∃ (i : Nat) (o4 : Option Value), n = 100 + (nwM τ - i) ∧ i ≤ nwM τ ∧ agM σ τ ∧ τ 0 33 ≠ -1 ∧ ls = [some (.ref 0), some (.int (nI (bkN (moF (bKM τ) (mM τ)) i))), some (.int (nI (bkN (otF (bKM τ) (τ 15) (mM τ)) i))), some (.int (nI i)), o4]) ∨ (pc = 100 ∧ ∃ (τ0 : Sg) (i : Nat) (m : Int32) (o4 : Option Value), n = nwM τ0 - i ∧ i ≤ nwM τ0 ∧ agM σ τ0 ∧ τ0 0 33 ≠ -1 ∧ fm [2, 3, 4] [8] τ0 τ ∧ mOK (τ 2) (τ 3) (τ 4) (τ 0 8) ∧ ¬ 120 < tn (τ0 0 8) + bkN (moF (bKM τ0) (mM τ0)) (nwM τ0) ∧ (∀ k, mM τ k = apM (bKM τ0) (τ0 15) (mM τ0) i k) ∧ tn (τ 0 8) = apZ (bKM τ0) (τ0 15) (mM τ0) (tn (τ0 0 8)) i ∧ ls = [some (.ref 0), some (.int m), some (.int (nI (bkN (otF (bKM τ0) (τ0 15) (mM τ0)) (nwM τ0)))), some (.int (nI i)), o4]))
set_option maxRecDepth 100000 in
set_option maxHeartbeats 4000000 in
theorem c_X10_apply : kp_Met layM 12 yX10_apply cX10_apply 5 (some .int) (pr_X10_apply) (po_X10_apply) := by
  refine kp_met (N := 92) (by decide) tk_X10_apply gk_X10 pk_X10 (mk_X10_apply) rfl (iv_X10_apply) ?_ ?_
  · rintro As σ ⟨rfl, hp⟩
    refine ⟨⟨rfl, Nat.le_of_ble_eq_true rfl⟩, v_X10_apply σ ?_⟩
    refine ⟨⟨rfl, hp⟩, ?_⟩
    rintro x2 τ1 ⟨hA, rfl⟩
    rw [ag_t]
    refine ⟨fun h => ⟨_, rfl, rfl, Or.inl ⟨rfl, 0, none, rfl, Nat.zero_le _, hA, h, rfl⟩⟩, fun h => ⟨hA.1, fm_mono hA.2.1 (by decide) (by decide), ?_⟩⟩
    rcases ag_case hA with ⟨q1, q2⟩ | ⟨q1, q2, q3, q4⟩
    · rw [q2]
      have hf := hA.2.1
      refine ⟨fun k => ?_, ?_, rfl⟩
      · unfold mM; rw [hf.1 2 (by decide) (by decide), hf.1 3 (by decide) (by decide), hf.1 4 (by decide) (by decide), hf.2 8 (by decide)]
      · rw [hf.2 8 (by decide)]
    · exact absurd h q1
  · rintro As σ ⟨rfl, hp⟩ n pc ls st τ hI
    obtain ⟨rfl, hAs, hI⟩ := hI
    clear hAs
    rcases hI with ⟨rfl, i, o4, rfl, hi, hA, h33, rfl⟩ | ⟨rfl, τ0, i, m, o4, rfl, hi, hA, h33, hf, hb, hr, hM, hZ, rfl⟩
    · obtain ⟨q2, q3, q4⟩ := ((ag_case hA).resolve_left (fun z => h33 z.1)).2
      obtain ⟨hL, hk, hty, hco, has⟩ := id hA.1
      obtain ⟨z, hz, hz1, -, -⟩ := id hL.2
      have ez : tn (τ 0 8) = z := by rw [hz, tn_nI (by omega)]
      obtain ⟨a1, a2, a3, a4, a5, a6⟩ := id has
      have en : nwM τ = tn (τ 0 10) := rfl
      have hlm := bkN_le (f := moF (bKM τ) (mM τ)) i
      have hlo := bkN_le (f := otF (bKM τ) (τ 15) (mM τ)) i
      refine v_X10_apply_15 _ _ _ o4 τ ?_
      rw [(nn_lt a1 (show i < 2 ^ 31 by omega)).1, nI_clamp (show i < 2 ^ 31 by omega), show nI i + nI 1 = nI (i + 1) from nI_add _ _, nI_add, nI_add, nI_add, nI_add, hz, nI_add, nI_ltI (by omega) (by omega)]
      refine ⟨fun g => ?_, fun g => ?_⟩
      · have ei : i = nwM τ := by omega
        exact ⟨fun h => ⟨nwM τ, by omega, rfl, rfl, Or.inr ⟨rfl, τ, 0, _, o4, rfl, Nat.zero_le _, hA, h33, fm_rf, hL.2, by rw [ez, ← ei]; exact h, fun _ => rfl, rfl, by rw [ei]⟩⟩, fun h => ⟨hA.1, fm_mono hA.2.1 (by decide) (by decide), ag_end hA h33 ⟨fun _ => ⟨fun _ => rfl, rfl, rfl⟩, fun z => absurd (by rw [ez, ← ei]; exact h) z⟩⟩⟩
      · obtain ⟨b1, b2⟩ := q4 i g
        obtain ⟨y1, y2, y3, y4⟩ := a5 i g
        obtain ⟨c1, c2, c3⟩ := a6 _ b2
        obtain ⟨n, hn, n1, n2, -, -⟩ := hL.1
        rw [hn, tn_nI (by omega)] at y4
        have hin : vp_in (nI i) 6 := (kp_in (by omega)).mpr (by omega)
        have ecl : (τ 20 i).toNatClampNeg = tn (τ 20 i) := rfl
        rw [ecl]
        refine ⟨hin, hin, by rw [b1]; exact (kp_in (tn_lt _)).mpr (by omega), ⟨_, _, rfl, hL.2, tn (τ 16 i), tn (τ 17 (tn (τ 20 i))), y3, by omega, c1, by omega⟩, ?_⟩
        rintro x2 τ1 ⟨rfl, rfl⟩
        have hJ : ∀ a b : Nat, (bkN (moF (bKM τ1) (mM τ1)) (i + 1) = bkN (moF (bKM τ1) (mM τ1)) i + a) → (bkN (otF (bKM τ1) (τ1 15) (mM τ1)) (i + 1) = bkN (otF (bKM τ1) (τ1 15) (mM τ1)) i + b) → ∃ n', n' < 100 + (nwM τ1 - i) ∧ iv_X10_apply [.ref 0] σ n' 15 [some (.ref 0), some (.int (nI (bkN (moF (bKM τ1) (mM τ1)) i + a))), some (.int (nI (bkN (otF (bKM τ1) (τ1 15) (mM τ1)) i + b))), some (.int (nI (i + 1))), some (.int (mM τ1 (bKM τ1 i)))] [] τ1 := fun a b ha hb => ⟨100 + (nwM τ1 - (i + 1)), by omega, rfl, rfl, Or.inl ⟨rfl, i + 1, _, rfl, by omega, hA, h33, by rw [ha, hb]⟩⟩
        have cmo : moF (bKM τ1) (mM τ1) i = decide (mM τ1 (bKM τ1 i) = -1) := rfl
        have cot : otF (bKM τ1) (τ1 15) (mM τ1) i = !decide (mM τ1 (bKM τ1 i) = τ1 15 i) := rfl
        refine ⟨fun h1 => ⟨hin, fun h2 => hJ 0 0 ?_ ?_, fun h2 => hJ 0 1 ?_ ?_⟩, fun h1 => ⟨hin, fun h2 => hJ 1 0 ?_ ?_, fun h2 => hJ 1 1 ?_ ?_⟩⟩
        · rw [bkN, cmo, decide_eq_false h1]; rfl
        · rw [bkN, cot, decide_eq_true h2]; rfl
        · rw [bkN, cmo, decide_eq_false h1]; rfl
        · rw [bkN, cot, decide_eq_false h2]; rfl
        · rw [bkN, cmo, decide_eq_true h1]; rfl
        · rw [bkN, cot, decide_eq_true h2]; rfl
        · rw [bkN, cmo, decide_eq_true h1]; rfl
        · rw [bkN, cot, decide_eq_false h2]; rfl
    · obtain ⟨q2, q3, q4⟩ := ((ag_case hA).resolve_left (fun z => h33 z.1)).2
      obtain ⟨hL, hk, hty, hco, has⟩ := id hA.1
      obtain ⟨a1, a2, a3, a4, a5, a6⟩ := id has
      have en : nwM τ0 = tn (τ0 0 10) := rfl
      have q10 : τ 0 10 = τ0 0 10 := hf.2 10 (by decide)
      have q15 : τ 15 = τ0 15 := hf.1 15 (by decide) (by decide)
      have q16 : τ 16 = τ0 16 := hf.1 16 (by decide) (by decide)
      have q17 : τ 17 = τ0 17 := hf.1 17 (by decide) (by decide)
      have q20 : τ 20 = τ0 20 := hf.1 20 (by decide) (by decide)
      refine v_X10_apply_100 _ _ _ o4 τ ?_
      rw [q10, (nn_lt a1 (show i < 2 ^ 31 by omega)).1, nI_clamp (show i < 2 ^ 31 by omega), show nI i + nI 1 = nI (i + 1) from nI_add _ _, q15, q16, q17, q20]
      refine ⟨fun g => ?_, fun g => ?_⟩
      · have ei : i = nwM τ0 := by omega
        subst ei
        have hfull : fm [2, 3, 4, 19, 20] [0, 8, 33] σ τ := fm_tr (fm_mono hA.2.1 (by decide) (by decide)) (fm_mono hf (by decide) (by decide))
        refine ⟨⟨⟨?_, hb⟩, (kOM_fm hk hf (by decide) (by decide)).1, tyM_fm hty hf (by decide) (by decide), cstM_fm hco hf (by decide), asM_fm has hf (by decide) (by decide)⟩, hfull, ag_end hA h33 ⟨fun z => absurd z hr, fun _ => ⟨hM, hZ, rfl⟩⟩⟩
        rw [hf.1 1 (by decide) (by decide), hf.2 2 (by decide)]; exact hL.1
      · obtain ⟨b1, b2⟩ := q4 i g
        obtain ⟨y1, y2, y3, y4⟩ := a5 i g
        obtain ⟨c1, c2, c3⟩ := a6 _ b2
        obtain ⟨n, hn, n1, n2, -, -⟩ := hL.1
        rw [hn, tn_nI (by omega)] at y4
        have hin : vp_in (nI i) 6 := (kp_in (by omega)).mpr (by omega)
        have ecl : (τ0 20 i).toNatClampNeg = tn (τ0 20 i) := rfl
        rw [ecl]
        have hw : ∀ j, j < nwM τ0 → τ0 15 j ≠ -1 := fun j hj h => by
          have := (a5 j hj).1
          rw [this] at h
          exact nI_m1 (tn_lt _) h
        refine ⟨hin, hin, by rw [b1]; exact (kp_in (tn_lt _)).mpr (by omega), hin, ⟨_, _, _, rfl, hb, ⟨tn (τ0 16 i), tn (τ0 17 (tn (τ0 20 i))), y3, by omega, c1, rowOK_iff.mpr (by omega)⟩, Or.inr ⟨tn (τ0 15 i), by omega, y1⟩, fun _ h => ?_⟩, ?_⟩
        · have h : mM τ (bKM τ0 i) = -1 := h
          rw [hM] at h
          rw [hZ]
          exact ap_room hw g hr h
        · rintro τ3 ⟨p1, p2, p3, p4⟩
          refine ⟨nwM τ0 - (i + 1), by omega, rfl, rfl, Or.inr ⟨rfl, τ0, i + 1, m, _, rfl, by omega, hA, h33, fm_tr hf p2, p1, hr, fun k => ?_, ?_, rfl⟩⟩
          · show mM τ3 k = if k = bKM τ0 i then τ0 15 i else apM (bKM τ0) (τ0 15) (mM τ0) i k
            rw [p3 k, ← hM k]
          · rw [p4, apZ, ← hZ, ← hM]
