/-! the search itself: KeyPlan$Assigning.giveFrom -/
def gfS (σ : Sg) (ii ss : Nat) : Prop := ii ≤ nwC σ ∧ ss ≤ 110000 * ii ∧ (∀ j, j < ii → nn (σ 28 j) ∧ trC σ j < noC σ) ∧ (σ 23 6 = -1 ∨ (nn (σ 23 6) ∧ ss + LbC σ ii < tn (σ 23 6) ∧ tn (σ 23 6) ≤ 660000))
def pr_X0_giveFrom (d : Nat) : SPre := fun As σ => ∃ i sum : Int32, As = [.ref 23, .int i, .int sum] ∧ (asOK σ ∧ srOK σ ∧ ∃ ii ss : Nat, i = nI ii ∧ sum = nI ss ∧ nwC σ - ii < d ∧ gfS σ ii ss)
abbrev gvC (σ : Sg) (ii ss : Nat) : BS := gv (nwC σ) (noC σ) (pC σ) (mtC σ) (ofC σ) (nwC σ - ii) ii ss (trC σ) (bsC σ)
/-- what a search leaves as it was -/
def gfK (σ τ : Sg) (ii : Nat) : Prop := fr [23, 27, 28] σ τ ∧ (∀ k, k ≠ 6 → τ 23 k = σ 23 k) ∧ (∀ j, j < ii → τ 28 j = σ 28 j) ∧ (τ 23 6 = -1 ∨ (nn (τ 23 6) ∧ tn (τ 23 6) ≤ 660000))
def po_X0_giveFrom : SPost := fun As σ _ τ => match As with
  | [.ref _, .int i, .int sum] => gfK σ τ (tn i) ∧ bsC τ = gvC σ (tn i) (tn sum)
  | _ => True
theorem kp_arr_row {i q : Nat} {f : Nat → List Nat → Prop} (hi : i < 6) (hq : ([30, 31, 32, 33, 34, 35] : List Nat)[i]? = some q) : q = 30 + i ∧ (kp_arr layC q 0 f ↔ f 8 []) := by
  rcases (show i = 0 ∨ i = 1 ∨ i = 2 ∨ i = 3 ∨ i = 4 ∨ i = 5 by omega) with rfl | rfl | rfl | rfl | rfl | rfl <;> (cases hq; exact ⟨rfl, Iff.rfl⟩)
theorem nn_lt {x : Int32} {a : Nat} (h : nn x) (ha : a < 2 ^ 31) : (nI a < x ↔ a < tn x) ∧ (x < nI a ↔ tn x < a) := by
  constructor
  · rw [show (nI a < x) = (nI a < nI (tn x)) by rw [← h], nI_ltI ha (tn_lt _)]
  · rw [show (x < nI a) = (nI (tn x) < nI a) by rw [← h], nI_ltI (tn_lt _) ha]
theorem nn_eq {x : Int32} {a : Nat} (h : nn x) (ha : a < 2 ^ 31) : x = nI a ↔ tn x = a := by
  rw [show (x = nI a) = (nI (tn x) = nI a) by rw [← h], nI_eq (tn_lt _) ha]
theorem nn_m1 {x : Int32} (h : nn x) : x ≠ -1 := by rw [h]; exact nI_m1 (tn_lt _)
theorem gfK_data {σ τ : Sg} {ii : Nat} (h : gfK σ τ ii) : nwC τ = nwC σ ∧ noC τ = noC σ ∧ pC τ = pC σ ∧ mtC τ = mtC σ ∧ ofC τ = ofC σ ∧ LbC τ = LbC σ := by
  obtain ⟨h1, h2, h3, h4⟩ := h
  refine ⟨?_, ?_, ?_, ?_, ?_, ?_⟩
  · unfold nwC; rw [h2 2 (by decide)]
  · unfold noC; rw [h2 4 (by decide)]
  · funext i s
    show tn (τ (30 + i) s) = tn (σ (30 + i) s)
    rw [h1 (30 + i) (by simp; omega)]
  · funext i j
    show decide (¬ τ 37 (i * 6 + j) = nI 0) = decide (¬ σ 37 (i * 6 + j) = nI 0)
    rw [h1 37 (by decide)]
  · funext s
    show tn (τ 26 s) = tn (σ 26 s)
    rw [h1 26 (by decide)]
  · funext s
    show tn (τ 36 s) = tn (σ 36 s)
    rw [h1 36 (by decide)]
theorem asOK_K {σ τ : Sg} {ii : Nat} (h : gfK σ τ ii) (ha : asOK σ) : asOK τ := by
  obtain ⟨h1, h2, h3, h4⟩ := h
  unfold asOK nwC noC at *
  rw [h2 2 (by decide), h2 4 (by decide), h1 24 (by decide), h1 25 (by decide), h1 26 (by decide), h1 2 (by decide)]
  exact ha
theorem srOK_K {σ τ : Sg} {ii : Nat} (h : gfK σ τ ii) (ha : srOK σ) : srOK τ := by
  obtain ⟨e1, e2, e3, e4, e5, e6⟩ := gfK_data h
  unfold srOK at *
  rw [e1, e2, e3, e6]
  refine ⟨fun i s hi hs => ?_, fun i hi => ?_, ha.2.2⟩
  · rw [h.1 (30 + i) (by simp; omega)]; exact ha.1 i s hi hs
  · rw [h.1 36 (by decide)]; exact ha.2.1 i hi
theorem bsC_congr {σ τ : Sg} (h1 : τ 23 6 = σ 23 6) (h2 : τ 23 2 = σ 23 2) (h3 : τ 27 = σ 27) : bsC τ = bsC σ := by
  unfold bsC nwC
  rw [h1, h2, h3]
def ms_X0_giveFrom (d : Nat) : List Me := [(85, 0, 0, 1, false, pr_X0_remember, po_X0_remember), (89, 0, 0, 2, true, pr_X0_isUntaken, po_X0_isUntaken), (64, 0, 0, 2, false, (pr_X0_giveFrom d), po_X0_giveFrom)]
theorem mk_X0_giveFrom (d : Nat) (hih : kp_Met layC d yX0_giveFrom cX0_giveFrom 6 none (pr_X0_giveFrom d) po_X0_giveFrom) : ∀ q ∈ ms_X0_giveFrom d, kp_okM layC RX0 (d + 1) q := List.forall_mem_cons.mpr ⟨Or.inl ⟨0, yX0_remember, cX0_remember, 3, none, c_X0_remember, by omega, by decide, rfl, lk_X0_85⟩, List.forall_mem_cons.mpr ⟨Or.inl ⟨0, yX0_isUntaken, cX0_isUntaken, 4, (some .boolean), c_X0_isUntaken, by omega, by decide, rfl, lk_X0_89⟩, List.forall_mem_cons.mpr ⟨Or.inl ⟨d, yX0_giveFrom, cX0_giveFrom, 6, none, hih, by omega, by decide, rfl, lk_X0_64⟩, fun _ h => absurd h List.not_mem_nil⟩⟩⟩
set_option maxRecDepth 100000 in
theorem v_X0_giveFrom (d : Nat) {J : Nat → Lcl → List Value → Sg → Prop} {Q : Int32 → Sg → Prop} (i sum : Int32) (σ : Sg) (h : (i < (σ 23 2) → J 16 [some (.ref 23), some (.int i), some (.int sum), some (.int (nI 0)), none, none] [] σ) ∧ (¬ i < (σ 23 2) → pr_X0_remember [.ref 23, .int sum] σ ∧ ∀ (τ1 : Sg), po_X0_remember [.ref 23, .int sum] σ (nI 0) τ1 → (Q (nI 0) τ1))) : kp_T layC gl_X0 pl_X0 (ms_X0_giveFrom d) tb_X0_giveFrom (kp_rk none) J Q 68 tb_X0_giveFrom (kp_en [.ref 23, .int i, .int sum] 6) [] σ := h
set_option maxRecDepth 100000 in
theorem v_X0_giveFrom_16 (d : Nat) {J : Nat → Lcl → List Value → Sg → Prop} {Q : Int32 → Sg → Prop} (i sum s : Int32) (o4 o5 : Option Value) (σ : Sg) (h : (¬ s < (σ 23 4) → Q (nI 0) σ) ∧ (s < (σ 23 4) → (vp_in i 6 ∧ 6 = List.length [30, 31, 32, 33, 34, 35]) ∧ ∀ q1 : Nat, ([30, 31, 32, 33, 34, 35] : List Nat)[(i).toNatClampNeg]? = some q1 → (kp_arr layC q1 0 fun n2 _ => vp_in s n2 ∧ (((σ 23 6) = (-1) → ((nI 1) = (nI 0) → J 16 [some (.ref 23), some (.int i), some (.int sum), some (.int (s + nI 1)), some (.int (sum + (σ q1 (s).toNatClampNeg))), some (.int (nI 1))] [] σ) ∧ (¬ (nI 1) = (nI 0) → pr_X0_isUntaken [.ref 23, .int i, .int s] σ ∧ ∀ (x4 : Int32) (τ3 : Sg), po_X0_isUntaken [.ref 23, .int i, .int s] σ x4 τ3 → ((x4 = (nI 0) → J 16 [some (.ref 23), some (.int i), some (.int sum), some (.int (s + nI 1)), some (.int (sum + (σ q1 (s).toNatClampNeg))), some (.int (nI 1))] [] τ3) ∧ (¬ x4 = (nI 0) → vp_in i 6 ∧ ((pr_X0_giveFrom d) [.ref 23, .int (i + (nI 1)), .int (sum + (σ q1 (s).toNatClampNeg))] (kp_up τ3 28 (i).toNatClampNeg s) ∧ ∀ (τ5 : Sg), po_X0_giveFrom [.ref 23, .int (i + (nI 1)), .int (sum + (σ q1 (s).toNatClampNeg))] (kp_up τ3 28 (i).toNatClampNeg s) (nI 0) τ5 → (J 16 [some (.ref 23), some (.int i), some (.int sum), some (.int (s + nI 1)), some (.int (sum + (σ q1 (s).toNatClampNeg))), some (.int (nI 1))] [] τ5)))))) ∧ (¬ (σ 23 6) = (-1) → vp_in (i + (nI 1)) 7 ∧ ((¬ ((sum + (σ q1 (s).toNatClampNeg)) + (σ 36 (i + (nI 1)).toNatClampNeg)) < (σ 23 6) → ((nI 0) = (nI 0) → J 16 [some (.ref 23), some (.int i), some (.int sum), some (.int (s + nI 1)), some (.int (sum + (σ q1 (s).toNatClampNeg))), some (.int (nI 0))] [] σ) ∧ (¬ (nI 0) = (nI 0) → pr_X0_isUntaken [.ref 23, .int i, .int s] σ ∧ ∀ (x7 : Int32) (τ6 : Sg), po_X0_isUntaken [.ref 23, .int i, .int s] σ x7 τ6 → ((x7 = (nI 0) → J 16 [some (.ref 23), some (.int i), some (.int sum), some (.int (s + nI 1)), some (.int (sum + (σ q1 (s).toNatClampNeg))), some (.int (nI 0))] [] τ6) ∧ (¬ x7 = (nI 0) → vp_in i 6 ∧ ((pr_X0_giveFrom d) [.ref 23, .int (i + (nI 1)), .int (sum + (σ q1 (s).toNatClampNeg))] (kp_up τ6 28 (i).toNatClampNeg s) ∧ ∀ (τ8 : Sg), po_X0_giveFrom [.ref 23, .int (i + (nI 1)), .int (sum + (σ q1 (s).toNatClampNeg))] (kp_up τ6 28 (i).toNatClampNeg s) (nI 0) τ8 → (J 16 [some (.ref 23), some (.int i), some (.int sum), some (.int (s + nI 1)), some (.int (sum + (σ q1 (s).toNatClampNeg))), some (.int (nI 0))] [] τ8)))))) ∧ (((sum + (σ q1 (s).toNatClampNeg)) + (σ 36 (i + (nI 1)).toNatClampNeg)) < (σ 23 6) → ((nI 1) = (nI 0) → J 16 [some (.ref 23), some (.int i), some (.int sum), some (.int (s + nI 1)), some (.int (sum + (σ q1 (s).toNatClampNeg))), some (.int (nI 1))] [] σ) ∧ (¬ (nI 1) = (nI 0) → pr_X0_isUntaken [.ref 23, .int i, .int s] σ ∧ ∀ (x10 : Int32) (τ9 : Sg), po_X0_isUntaken [.ref 23, .int i, .int s] σ x10 τ9 → ((x10 = (nI 0) → J 16 [some (.ref 23), some (.int i), some (.int sum), some (.int (s + nI 1)), some (.int (sum + (σ q1 (s).toNatClampNeg))), some (.int (nI 1))] [] τ9) ∧ (¬ x10 = (nI 0) → vp_in i 6 ∧ ((pr_X0_giveFrom d) [.ref 23, .int (i + (nI 1)), .int (sum + (σ q1 (s).toNatClampNeg))] (kp_up τ9 28 (i).toNatClampNeg s) ∧ ∀ (τ11 : Sg), po_X0_giveFrom [.ref 23, .int (i + (nI 1)), .int (sum + (σ q1 (s).toNatClampNeg))] (kp_up τ9 28 (i).toNatClampNeg s) (nI 0) τ11 → (J 16 [some (.ref 23), some (.int i), some (.int sum), some (.int (s + nI 1)), some (.int (sum + (σ q1 (s).toNatClampNeg))), some (.int (nI 1))] [] τ11)))))))))))) : kp_T1 layC gl_X0 pl_X0 (ms_X0_giveFrom d) tb_X0_giveFrom (kp_rk none) J Q 68 16 [some (.ref 23), some (.int i), some (.int sum), some (.int s), o4, o5] [] σ := h
abbrev iv_X0_giveFrom (d : Nat) : List Value → Sg → Nat → Nat → Lcl → List Value → Sg → Prop := fun As σ n pc ls st τ => pc = 16 ∧ st = [] ∧ ∃ (ii ss s : Nat) (o4 o5 : Option Value), As = [.ref 23, .int (nI ii), .int (nI ss)] ∧ ii < nwC σ ∧ ss ≤ 110000 * ii ∧ nwC σ - ii < d + 1 ∧ gfS σ ii ss ∧ s ≤ noC σ ∧ n = noC σ - s ∧ ls = [some (.ref 23), some (.int (nI ii)), some (.int (nI ss)), some (.int (nI s)), o4, o5] ∧ gfK σ τ ii ∧ gvC σ ii ss = gvL (gvS (nwC σ) (noC σ) (pC σ) (mtC σ) (ofC σ) (nwC σ - (ii + 1)) ii ss (trC σ)) (noC σ - s) s (bsC τ)
set_option maxRecDepth 100000 in
set_option maxHeartbeats 4000000 in
theorem c_X0_giveFrom (d : Nat) (hih : kp_Met layC d yX0_giveFrom cX0_giveFrom 6 none (pr_X0_giveFrom d) po_X0_giveFrom) : kp_Met layC (d + 1) yX0_giveFrom cX0_giveFrom 6 none (pr_X0_giveFrom (d + 1)) po_X0_giveFrom := by
  refine kp_met (N := 68) (by decide) tk_X0_giveFrom gk_X0 pk_X0 (mk_X0_giveFrom d hih) rfl (iv_X0_giveFrom d) ?_ ?_
  · rintro As σ ⟨i, sum, rfl, hp⟩
    refine ⟨⟨rfl, Nat.le_of_ble_eq_true rfl⟩, v_X0_giveFrom d i sum σ ?_⟩
    obtain ⟨ha, hs, ii, ss, rfl, rfl, hd, hg⟩ := hp
    obtain ⟨a1, a2, a3, a4, a5, a6⟩ := id ha
    obtain ⟨g1, g2, g3, g4⟩ := id hg
    have en : nwC σ = tn (σ 23 2) := rfl
    have eo : noC σ = tn (σ 23 4) := rfl
    have ti : tn (nI ii) = ii := tn_nI (by omega)
    have ts : tn (nI ss) = ss := tn_nI (by omega)
    rw [(nn_lt a1 (show ii < 2 ^ 31 by omega)).1]
    refine ⟨fun h => ⟨noC σ, rfl, rfl, ii, ss, 0, none, none, rfl, h, g2, hd, hg, by omega, rfl, rfl, ⟨fr_rf, fun _ _ => rfl, fun _ _ => rfl, g4.imp id (fun z => ⟨z.1, z.2.2⟩)⟩, ?_⟩, fun h => ⟨⟨_, rfl, a1, a2, a4, fun j hj => g3 j (by omega)⟩, ?_⟩⟩
    · unfold gvC
      rw [show nwC σ - ii = (nwC σ - (ii + 1)) + 1 by omega]
      rfl
    · rintro τ1 ⟨k1, k2, k3, k4⟩
      have hii : ii = nwC σ := by have : ii ≤ nwC σ := g1; omega
      refine ⟨⟨fr_mono k1 (by decide), k2, fun j _ => by rw [k1 28 (by decide)], Or.inr ?_⟩, ?_⟩
      · rw [k3, ts]
        exact ⟨nn_nI (by omega), by omega⟩
      · rw [ti, ts]
        have e1 : nwC τ1 = nwC σ := by unfold nwC; rw [k2 2 (by decide)]
        have ev : (List.range (nwC τ1)).map (fun i => tn (τ1 27 i)) = vcT (nwC σ) (ofC σ) (trC σ) := by
          rw [e1]
          exact List.map_congr_left (fun j hj => by rw [k4 j (List.mem_range.mp hj)])
        unfold gvC
        rw [show nwC σ - ii = 0 by omega]
        show bsC τ1 = lfT (nwC σ) (ofC σ) ss (trC σ) (bsC σ)
        unfold bsC
        rw [if_neg (by rw [k3]; exact nI_m1 (by omega)), ev, k3, ts]
        rcases g4 with z | ⟨z1, z2, z3⟩
        · rw [if_pos z]; rfl
        · rw [if_neg (nn_m1 z1)]
          show _ = if ss < tn (σ 23 6) then _ else _
          rw [if_pos (by omega)]
  · rintro As σ ⟨i, sum, rfl, hp⟩ n pc ls st τ hI
    obtain ⟨ha, hs, -⟩ := hp
    obtain ⟨rfl, rfl, ii, ss, s, o4, o5, hAs, hii, hss, hd, hg, hsn, rfl, rfl, hK, hgv⟩ := hI
    cases hAs
    obtain ⟨a1, a2, a3, a4, a5, a6⟩ := id ha
    obtain ⟨s1, s2, s3, s4⟩ := id hs
    obtain ⟨g1, g2, g3, g4⟩ := id hg
    obtain ⟨k1, k2, k3, k4⟩ := id hK
    obtain ⟨e1, e2, e3, e4, e5, e6⟩ := gfK_data hK
    have en : nwC σ = tn (σ 23 2) := rfl
    have eo : noC σ = tn (σ 23 4) := rfl
    have ti : tn (nI ii) = ii := tn_nI (by omega)
    have ts : tn (nI ss) = ss := tn_nI (by omega)
    have q2 : τ 23 2 = σ 23 2 := k2 2 (by decide)
    have q4 : τ 23 4 = σ 23 4 := k2 4 (by decide)
    have q36 : τ 36 = σ 36 := k1 36 (by decide)
    refine v_X0_giveFrom_16 d _ _ _ o4 o5 τ ?_
    rw [q4, (nn_lt a3 (show s < 2 ^ 31 by omega)).1, nI_clamp (show ii < 2 ^ 31 by omega), nI_clamp (show s < 2 ^ 31 by omega), show nI s + nI 1 = nI (s + 1) from nI_add _ _, show nI ii + nI 1 = nI (ii + 1) from nI_add _ _, nI_clamp (show ii + 1 < 2 ^ 31 by omega)]
    refine ⟨fun h => ⟨by rw [ti]; exact hK, ?_⟩, fun h => ⟨⟨(kp_in (by omega)).mpr (by omega), rfl⟩, ?_⟩⟩
    · rw [ti, ts, hgv, show noC σ - s = 0 by omega]; rfl
    · intro q1 hq
      obtain ⟨rfl, -⟩ := kp_arr_row (i := ii) (q := q1) (f := fun _ _ => True) (by omega) hq
      refine (kp_arr_row (i := ii) (by omega) hq).2.mpr ⟨(kp_in (by omega)).mpr (by omega), ?_⟩
      have hP1 := s1 ii s hii h
      have q30 : τ (30 + ii) = σ (30 + ii) := k1 (30 + ii) (by simp; omega)
      have hP := hP1.2
      have esum : nI ss + τ (30 + ii) s = nI (ss + pC σ ii s) := by rw [q30, ← nI_add, ← hP1.1]
      rw [esum, q36]
      have hL1 := s2 (ii + 1) (by omega)
      have eL : nI (ss + pC σ ii s) + σ 36 (ii + 1) = nI (ss + pC σ ii s + LbC σ (ii + 1)) := (congrArg (nI (ss + pC σ ii s) + ·) hL1.1).trans (nI_add _ _)
      rw [eL]
      have hL2 := hL1.2
      have hgo : ∀ (τ' : Sg) (o4 o5 : Option Value), gfK σ τ' ii → bsC τ' = gvS (nwC σ) (noC σ) (pC σ) (mtC σ) (ofC σ) (nwC σ - (ii + 1)) ii ss (trC σ) s (bsC τ) → ∃ n', n' < noC σ - s ∧ iv_X0_giveFrom d [.ref 23, .int (nI ii), .int (nI ss)] σ n' 16 [some (.ref 23), some (.int (nI ii)), some (.int (nI ss)), some (.int (nI (s + 1))), o4, o5] [] τ' := by
        intro τ' o4 o5 hK' hb'
        refine ⟨noC σ - (s + 1), by omega, rfl, rfl, ii, ss, s + 1, o4, o5, rfl, hii, hss, hd, hg, by omega, rfl, rfl, hK', ?_⟩
        rw [hgv, hb', gvL_step h]
      have hrec : ∀ (w : Int32), (τ 23 6 = -1 ∨ (nn (τ 23 6) ∧ ss + pC σ ii s + LbC σ (ii + 1) < tn (τ 23 6) ∧ tn (τ 23 6) ≤ 660000)) → (pr_X0_isUntaken [.ref 23, .int (nI ii), .int (nI s)] τ ∧ ∀ (x4 : Int32) (τ3 : Sg), po_X0_isUntaken [.ref 23, .int (nI ii), .int (nI s)] τ x4 τ3 →
          ((x4 = (nI 0) → ∃ n', n' < noC σ - s ∧ iv_X0_giveFrom d [.ref 23, .int (nI ii), .int (nI ss)] σ n' 16 [some (.ref 23), some (.int (nI ii)), some (.int (nI ss)), some (.int (nI (s + 1))), some (.int (nI (ss + pC σ ii s))), some (.int w)] [] τ3) ∧
           (¬ x4 = (nI 0) → vp_in (nI ii) 6 ∧ (pr_X0_giveFrom d [.ref 23, .int (nI (ii + 1)), .int (nI (ss + pC σ ii s))] (kp_up τ3 28 ii (nI s)) ∧ ∀ (τ5 : Sg), po_X0_giveFrom [.ref 23, .int (nI (ii + 1)), .int (nI (ss + pC σ ii s))] (kp_up τ3 28 ii (nI s)) (nI 0) τ5 → ∃ n', n' < noC σ - s ∧ iv_X0_giveFrom d [.ref 23, .int (nI ii), .int (nI ss)] σ n' 16 [some (.ref 23), some (.int (nI ii)), some (.int (nI ss)), some (.int (nI (s + 1))), some (.int (nI (ss + pC σ ii s))), some (.int w)] [] τ5)))) := by
        intro w hprom
        refine ⟨⟨_, _, rfl, ii, s, rfl, by omega, rfl, by omega, fun j hj => by rw [k3 j hj]; exact (g3 j hj).1⟩, ?_⟩
        rintro x4 τ3 ⟨rfl, rfl⟩
        have eok : okT (mtC τ3) (trC τ3) (tn (nI ii)) (tn (nI s)) = okT (mtC σ) (trC σ) ii s := by
          rw [ti, tn_nI (show s < 2 ^ 31 by omega)]
          exact okT_congr (fun j hj => ⟨by show tn (τ3 28 j) = tn (σ 28 j); rw [k3 j hj], by rw [e4]⟩)
        rw [eok, bI_0]
        refine ⟨fun h2 => hgo τ3 _ _ hK (by unfold gvS; rw [if_neg (by rw [h2]; decide)]), fun h2 => ⟨(kp_in (by omega)).mpr (by omega), ?_, ?_⟩⟩
        · have hK2 : gfK σ (kp_up τ3 28 ii (nI s)) ii := ⟨fr_up k1 (by decide), fun k hk => by rw [up_c (by decide)]; exact k2 k hk, fun j hj => by rw [up_n (by omega)]; exact k3 j hj, by rw [up_c (by decide)]; exact k4⟩
          obtain ⟨f1, f2, f3, f4, f5, f6⟩ := gfK_data hK2
          refine ⟨_, _, rfl, asOK_K hK2 ha, srOK_K hK2 hs, ii + 1, ss + pC σ ii s, rfl, rfl, by rw [f1]; omega, by rw [f1]; omega, by omega, fun j hj => ?_, ?_⟩
          · rw [f2]
            show nn (kp_up τ3 28 ii (nI s) 28 j) ∧ tn (kp_up τ3 28 ii (nI s) 28 j) < noC σ
            by_cases e : j = ii
            · subst e
              rw [up_s, tn_nI (by omega)]
              exact ⟨nn_nI (by omega), h⟩
            · rw [up_n e, k3 j (by omega)]
              exact g3 j (by omega)
          · rw [up_c (by decide), f6]; exact hprom
        · have hK2 : gfK σ (kp_up τ3 28 ii (nI s)) ii := ⟨fr_up k1 (by decide), fun k hk => by rw [up_c (by decide)]; exact k2 k hk, fun j hj => by rw [up_n (by omega)]; exact k3 j hj, by rw [up_c (by decide)]; exact k4⟩
          obtain ⟨f1, f2, f3, f4, f5, f6⟩ := gfK_data hK2
          rintro τ5 ⟨⟨p1, p2, p3, p4⟩, p5⟩
          rw [tn_nI (show ii + 1 < 2 ^ 31 by omega)] at p3 p5
          rw [tn_nI (show ss + pC σ ii s < 2 ^ 31 by omega)] at p5
          refine hgo τ5 _ _ ⟨fr_tr hK2.1 p1, fun k hk => (p2 k hk).trans (hK2.2.1 k hk), fun j hj => (p3 j (by omega)).trans (hK2.2.2.1 j hj), p4⟩ ?_
          rw [p5]
          unfold gvC gvS
          rw [if_pos (by simpa using h2), f1, f2, f3, f4, f5, bsC_congr (σ := τ3) (by rw [up_c (by decide)]) (by rw [up_c (by decide)]) (by rw [up_c (by decide)])]
          refine gv_congr (fun _ _ _ _ => rfl) (fun _ _ _ _ => rfl) (fun _ _ => rfl) _ (ii + 1) _ _ _ _ (by omega) (fun j hj => ?_)
          show tn (kp_up τ3 28 ii (nI s) 28 j) = updN (trC σ) ii s j ∧ tn (kp_up τ3 28 ii (nI s) 28 j) < noC σ
          unfold updN
          by_cases e : j = ii
          · subst e
            rw [up_s, tn_nI (by omega), if_pos rfl]
            exact ⟨rfl, h⟩
          · rw [up_n e, k3 j (by omega), if_neg e]
            exact ⟨rfl, (g3 j (by omega)).2⟩
      refine ⟨fun h1 => ⟨fun z => absurd z (by decide), fun _ => hrec _ (Or.inl h1)⟩, fun h1 => ⟨(kp_in (by omega)).mpr (by omega), ?_⟩⟩
      obtain ⟨m1, m2⟩ := k4.resolve_left h1
      rw [(nn_lt m1 (show ss + pC σ ii s + LbC σ (ii + 1) < 2 ^ 31 by omega)).1]
      refine ⟨fun h2 => ⟨fun _ => hgo τ _ _ hK ?_, fun z => absurd rfl z⟩, fun h2 => ⟨fun z => absurd z (by decide), fun _ => hrec _ (Or.inr ⟨m1, h2, m2⟩)⟩⟩
      unfold gvS
      by_cases hk : okT (mtC σ) (trC σ) ii s = true
      · rw [if_pos hk]
        have eb : bsC τ = some (tn (τ 23 6), (List.range (nwC τ)).map fun i => tn (τ 27 i)) := by unfold bsC; rw [if_neg h1]
        rw [eb]
        exact (gv_A (Lb := LbC σ) s4 s3 _ (ii + 1) _ _ _ _ (by omega) (by omega)).symm
      · rw [if_neg hk]
theorem cc_giveFrom : ∀ d, kp_Met layC d yX0_giveFrom cX0_giveFrom 6 none (pr_X0_giveFrom d) po_X0_giveFrom
  | 0 => by
    intro l D cI cZ cR ad sz As σ h
    obtain ⟨i, sum, -, -, -, ii, ss, -, -, h, -⟩ := h
    exact absurd h (Nat.not_lt_zero _)
  | d + 1 => c_X0_giveFrom d (cc_giveFrom d)
