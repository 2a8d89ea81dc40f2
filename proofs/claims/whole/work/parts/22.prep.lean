/-! the data of the search: KeyPlan$Assigning.prepare, solve -/
abbrev cstC (σ : Sg) : Prop := cstOK (σ 19) (σ 20) (σ 21) (σ 22)
abbrev PT (σ : Sg) : Nat → Nat → Nat := fun i s => prc (σ 19) (σ 20) (σ 21) (σ 22) (tn (σ 24 i)) (tn (σ 26 s))
abbrev MT (σ : Sg) : Nat → Nat → Bool := fun i j => meets (σ 3) (tn (σ 25 i)) (tn (σ 25 j))
theorem prc_le {st us ha we : Nat → Int32} (h : cstOK st us ha we) {c s : Nat} (hc : c < 40) (h1 : 1 ≤ s) (h2 : s ≤ 240) : prc st us ha we c s ≤ 110000 := by
  obtain ⟨⟨-, u⟩, -, -, w⟩ := h.2 c hc
  obtain ⟨-, t⟩ := h.1 s h1 h2
  have : tn (us c) * tn (st s) ≤ 1000 * 100 := Nat.mul_le_mul u t
  unfold prc
  split <;> omega
def ppP (σ τ : Sg) (a : Nat) : Prop := ∀ i, a ≤ i → i < nwC σ → ∀ s, s < noC σ → τ (30 + i) s = nI (PT σ i s)
def ppL (σ τ : Sg) (a : Nat) : Prop := τ 36 (nwC σ) = nI 0 ∧ (∀ i, a ≤ i → i ≤ nwC σ → nn (τ 36 i) ∧ tn (τ 36 i) ≤ 110000 * (nwC σ - i)) ∧ ∀ i, a ≤ i → i < nwC σ → ∀ s, s < noC σ → tn (τ 36 i) ≤ PT σ i s + tn (τ 36 (i + 1))
def ppM (σ τ : Sg) (a : Nat) : Prop := ∀ i, a ≤ i → i < nwC σ → ∀ j, j < i → τ 37 (i * 6 + j) = bI (MT σ i j)
abbrev ppF : List Nat := [30, 31, 32, 33, 34, 35, 36, 37]
theorem im1 (x : Int32) : x + (-1) = x - nI 1 := (Int32.sub_eq_add_neg x 1).symm
theorem pp_mem {i : Nat} (h : i < 6) : 30 + i ∈ ppF := by
  rcases (show i = 0 ∨ i = 1 ∨ i = 2 ∨ i = 3 ∨ i = 4 ∨ i = 5 by omega) with rfl | rfl | rfl | rfl | rfl | rfl <;> decide
def pr_X0_prepare : SPre := fun As σ => As = [.ref 23, .ref 18, .ref 2] ∧ (asOK σ ∧ cstC σ ∧ ctxOK (σ 3) (σ 2 1))
def po_X0_prepare : SPost := fun As σ r τ => match As with
  | [.ref _, .ref _, .ref _] => (fr ppF σ τ ∧ ppP σ τ 0 ∧ ppL σ τ 0 ∧ ppM σ τ 0)
  | _ => True
def ms_X0_prepare : List Me := [(68, 0, 3, 2, true, pr_X3_price, po_X3_price), (74, 1, 0, 2, true, pr_J9_min_7cf53, po_J9_min_7cf53), (79, 0, 2, 2, true, pr_X2_meet, po_X2_meet)]
theorem mk_X0_prepare : ∀ q ∈ ms_X0_prepare, kp_okM layC RX0 4 q := List.forall_mem_cons.mpr ⟨Or.inl ⟨1, yX3_price, cX3_price, 4, (some .int), c_X3_price, by omega, by decide, rfl, lk_X0_68⟩, List.forall_mem_cons.mpr ⟨kp_okX_min (by omega) lk_X0_74, List.forall_mem_cons.mpr ⟨Or.inl ⟨3, yX2_meet, cX2_meet, 3, (some .boolean), c_X2_meet, by omega, by decide, rfl, lk_X0_79⟩, fun _ h => absurd h List.not_mem_nil⟩⟩⟩
set_option maxRecDepth 100000 in
theorem v_X0_prepare {J : Nat → Lcl → List Value → Sg → Prop} {Q : Int32 → Sg → Prop}  (σ : Sg) (h : vp_in (σ 23 2) 7 ∧ (J 17 [some (.ref 23), some (.ref 18), some (.ref 2), some (.int (((kp_up σ 36 (σ 23 2).toNatClampNeg (nI 0)) 23 2) - (nI 1))), none, none] [] (kp_up σ 36 (σ 23 2).toNatClampNeg (nI 0)))) : kp_T layC gl_X0 pl_X0 (ms_X0_prepare) tb_X0_prepare (kp_rk none) J Q 102 tb_X0_prepare (kp_en [.ref 23, .ref 18, .ref 2] 6) [] σ := h
set_option maxRecDepth 100000 in
theorem v_X0_prepare_17 {J : Nat → Lcl → List Value → Sg → Prop} {Q : Int32 → Sg → Prop} (i : Int32) (o4 o5 : Option Value) (σ : Sg) (h : (i < (nI 0) → Q (nI 0) σ) ∧ (¬ i < (nI 0) → J 27 [some (.ref 23), some (.ref 18), some (.ref 2), some (.int i), some (.int (nI 0)), some (.int (nI 0))] [] σ)) : kp_T1 layC gl_X0 pl_X0 (ms_X0_prepare) tb_X0_prepare (kp_rk none) J Q 102 17 [some (.ref 23), some (.ref 18), some (.ref 2), some (.int i), o4, o5] [] σ := h
set_option maxRecDepth 100000 in
theorem v_X0_prepare_27 {J : Nat → Lcl → List Value → Sg → Prop} {Q : Int32 → Sg → Prop} (i least s : Int32) (σ : Sg) (h : (¬ s < (σ 23 4) → vp_in (i + (nI 1)) 7 ∧ (vp_in i 7 ∧ (J 121 [some (.ref 23), some (.ref 18), some (.ref 2), some (.int i), some (.int least), some (.int (nI 0))] [] (kp_up σ 36 (i).toNatClampNeg ((σ 36 (i + (nI 1)).toNatClampNeg) + least))))) ∧ (s < (σ 23 4) → (vp_in i 6 ∧ 6 = List.length [30, 31, 32, 33, 34, 35]) ∧ ∀ q1 : Nat, ([30, 31, 32, 33, 34, 35] : List Nat)[(i).toNatClampNeg]? = some q1 → (vp_in i 6 ∧ (vp_in s 8 ∧ (pr_X3_price [.ref 18, .int (σ 24 (i).toNatClampNeg), .int (σ 26 (s).toNatClampNeg)] σ ∧ ∀ (x3 : Int32) (τ2 : Sg), po_X3_price [.ref 18, .int (σ 24 (i).toNatClampNeg), .int (σ 26 (s).toNatClampNeg)] σ x3 τ2 → (kp_arr layC q1 0 fun n4 _ => vp_in s n4 ∧ ((¬ s = (nI 0) → (vp_in i 6 ∧ 6 = List.length [30, 31, 32, 33, 34, 35]) ∧ ∀ q5 : Nat, ([30, 31, 32, 33, 34, 35] : List Nat)[(i).toNatClampNeg]? = some q5 → (kp_arr layC q5 0 fun n6 _ => vp_in s n6 ∧ (pr_J9_min_7cf53 [.int least, .int ((kp_up τ2 q1 (s).toNatClampNeg x3) q5 (s).toNatClampNeg)] (kp_up τ2 q1 (s).toNatClampNeg x3) ∧ ∀ (x8 : Int32) (τ7 : Sg), po_J9_min_7cf53 [.int least, .int ((kp_up τ2 q1 (s).toNatClampNeg x3) q5 (s).toNatClampNeg)] (kp_up τ2 q1 (s).toNatClampNeg x3) x8 τ7 → (J 27 [some (.ref 23), some (.ref 18), some (.ref 2), some (.int i), some (.int x8), some (.int (s + nI 1))] [] τ7)))) ∧ (s = (nI 0) → (vp_in i 6 ∧ 6 = List.length [30, 31, 32, 33, 34, 35]) ∧ ∀ q9 : Nat, ([30, 31, 32, 33, 34, 35] : List Nat)[(i).toNatClampNeg]? = some q9 → (kp_arr layC q9 0 fun n10 _ => vp_in s n10 ∧ (J 27 [some (.ref 23), some (.ref 18), some (.ref 2), some (.int i), some (.int ((kp_up τ2 q1 (s).toNatClampNeg x3) q9 (s).toNatClampNeg)), some (.int (s + nI 1))] [] (kp_up τ2 q1 (s).toNatClampNeg x3))))))))))) : kp_T1 layC gl_X0 pl_X0 (ms_X0_prepare) tb_X0_prepare (kp_rk none) J Q 102 27 [some (.ref 23), some (.ref 18), some (.ref 2), some (.int i), some (.int least), some (.int s)] [] σ := h
set_option maxRecDepth 100000 in
theorem v_X0_prepare_121 {J : Nat → Lcl → List Value → Sg → Prop} {Q : Int32 → Sg → Prop} (i least j : Int32) (σ : Sg) (h : (¬ j < i → J 17 [some (.ref 23), some (.ref 18), some (.ref 2), some (.int (i + (-1))), some (.int least), some (.int j)] [] σ) ∧ (j < i → vp_in i 6 ∧ (vp_in j 6 ∧ (pr_X2_meet [.ref 2, .int (σ 25 (i).toNatClampNeg), .int (σ 25 (j).toNatClampNeg)] σ ∧ ∀ (x2 : Int32) (τ1 : Sg), po_X2_meet [.ref 2, .int (σ 25 (i).toNatClampNeg), .int (σ 25 (j).toNatClampNeg)] σ x2 τ1 → (vp_in ((i * (nI 6)) + j) 36 ∧ ((x2 = nI 0 ∨ x2 = nI 1) ∧ (J 121 [some (.ref 23), some (.ref 18), some (.ref 2), some (.int i), some (.int least), some (.int (j + nI 1))] [] (kp_up τ1 37 ((i * (nI 6)) + j).toNatClampNeg x2)))))))) : kp_T1 layC gl_X0 pl_X0 (ms_X0_prepare) tb_X0_prepare (kp_rk none) J Q 102 121 [some (.ref 23), some (.ref 18), some (.ref 2), some (.int i), some (.int least), some (.int j)] [] σ := h
abbrev iv_X0_prepare : List Value → Sg → Nat → Nat → Lcl → List Value → Sg → Prop := fun As σ n pc ls st τ => st = [] ∧ As = [.ref 23, .ref 18, .ref 2] ∧ fr ppF σ τ ∧ ((pc = 17 ∧ ∃ (k : Nat) (o4 o5 : Option Value), k ≤ nwC σ ∧ n = 1000 * k + 999 ∧ ls = [some (.ref 23), some (.ref 18), some (.ref 2), some (.int (nI k - nI 1)), o4, o5] ∧ ppP σ τ k ∧ ppL σ τ k ∧ ppM σ τ k) ∨ (pc = 27 ∧ ∃ (i lv s : Nat), i < nwC σ ∧ s ≤ noC σ ∧ n = 1000 * (i + 1) + 500 + (noC σ - s) ∧ ls = [some (.ref 23), some (.ref 18), some (.ref 2), some (.int (nI i)), some (.int (nI lv)), some (.int (nI s))] ∧ ppP σ τ (i + 1) ∧ ppL σ τ (i + 1) ∧ ppM σ τ (i + 1) ∧ (∀ s', s' < s → τ (30 + i) s' = nI (PT σ i s')) ∧ lv ≤ 110000 ∧ (∀ s', s' < s → lv ≤ PT σ i s')) ∨ (pc = 121 ∧ ∃ (i lv j : Nat), i < nwC σ ∧ j ≤ i ∧ n = 1000 * (i + 1) + (i - j) ∧ ls = [some (.ref 23), some (.ref 18), some (.ref 2), some (.int (nI i)), some (.int (nI lv)), some (.int (nI j))] ∧ ppP σ τ i ∧ ppL σ τ i ∧ ppM σ τ (i + 1) ∧ ∀ j', j' < j → τ 37 (i * 6 + j') = bI (MT σ i j')))
set_option maxRecDepth 100000 in
set_option maxHeartbeats 4000000 in
theorem c_X0_prepare : kp_Met layC 4 yX0_prepare cX0_prepare 6 none (pr_X0_prepare) (po_X0_prepare) := by
  refine kp_met (N := 102) (by decide) tk_X0_prepare gk_X0 pk_X0 (mk_X0_prepare) rfl (iv_X0_prepare) ?_ ?_
  · rintro As σ ⟨rfl, hp⟩
    refine ⟨⟨rfl, Nat.le_of_ble_eq_true rfl⟩, v_X0_prepare σ ?_⟩
    obtain ⟨ha, hc, hx⟩ := hp
    obtain ⟨a1, a2, a3, a4, a5, a6⟩ := id ha
    have en : nwC σ = tn (σ 23 2) := rfl
    have e1 : (σ 23 2).toNatClampNeg = nwC σ := rfl
    have e2 : kp_up σ 36 (nwC σ) (nI 0) 23 2 = nI (nwC σ) := by rw [up_c (by decide)]; exact a1
    rw [e1, e2]
    refine ⟨?_, 1000 * nwC σ + 999, rfl, rfl, fr_up fr_rf (by decide), Or.inl ⟨rfl, nwC σ, none, none, by omega, rfl, rfl, fun i h1 h2 => by omega, ⟨up_s, fun i h1 h2 => ?_, fun i h1 h2 => by omega⟩, fun i h1 h2 => by omega⟩⟩
    · rw [a1]; exact (kp_in (tn_lt _)).mpr (by omega)
    · have : i = nwC σ := by omega
      rw [this, up_s]
      exact ⟨nn_nI (by omega), by rw [tn_nI (by omega)]; omega⟩
  · rintro As σ ⟨rfl, hp⟩ n pc ls st τ hI
    obtain ⟨ha, hc, hx⟩ := hp
    obtain ⟨a1, a2, a3, a4, a5, a6⟩ := id ha
    have en : nwC σ = tn (σ 23 2) := rfl
    have eo : noC σ = tn (σ 23 4) := rfl
    obtain ⟨rfl, hAs, hfr, hI⟩ := hI
    clear hAs
    have q2 : τ 2 = σ 2 := hfr 2 (by decide)
    have q3 : τ 3 = σ 3 := hfr 3 (by decide)
    have q19 : τ 19 = σ 19 := hfr 19 (by decide)
    have q20 : τ 20 = σ 20 := hfr 20 (by decide)
    have q21 : τ 21 = σ 21 := hfr 21 (by decide)
    have q22 : τ 22 = σ 22 := hfr 22 (by decide)
    have q23 : τ 23 = σ 23 := hfr 23 (by decide)
    have q24 : τ 24 = σ 24 := hfr 24 (by decide)
    have q25 : τ 25 = σ 25 := hfr 25 (by decide)
    have q26 : τ 26 = σ 26 := hfr 26 (by decide)
    rcases hI with ⟨rfl, k, o4, o5, hk, rfl, rfl, hP, hL, hM⟩ | ⟨rfl, i, lv, s, hi, hs, rfl, rfl, hP, hL, hM, hrow, hlv, hmin⟩ | ⟨rfl, i, lv, j, hi, hj, rfl, rfl, hP, hL, hM, hrow⟩
    · refine v_X0_prepare_17 _ o4 o5 τ ?_
      by_cases k0 : k = 0
      · subst k0
        refine ⟨fun _ => ⟨hfr, hP, hL, hM⟩, fun z => absurd (show (nI 0 - nI 1 : Int32) < nI 0 by decide) z⟩
      · rw [pk_sub (show 1 ≤ k by omega), nI_ltI (by omega) (by omega)]
        refine ⟨fun z => by omega, fun _ => ⟨1000 * (k - 1 + 1) + 500 + (noC σ - 0), by omega, rfl, rfl, hfr, Or.inr (Or.inl ⟨rfl, k - 1, 0, 0, by omega, by omega, rfl, rfl, ?_, ?_, ?_, fun s' h => by omega, by omega, fun s' h => by omega⟩)⟩⟩
        · rw [show k - 1 + 1 = k by omega]; exact hP
        · rw [show k - 1 + 1 = k by omega]; exact hL
        · rw [show k - 1 + 1 = k by omega]; exact hM
    · refine v_X0_prepare_27 _ _ _ τ ?_
      rw [q23, q24, q26, (nn_lt a3 (show s < 2 ^ 31 by omega)).1, nI_clamp (show i < 2 ^ 31 by omega), nI_clamp (show s < 2 ^ 31 by omega), show nI i + nI 1 = nI (i + 1) from nI_add _ _, nI_clamp (show i + 1 < 2 ^ 31 by omega), show nI s + nI 1 = nI (s + 1) from nI_add _ _]
      obtain ⟨l1, l2, l3⟩ := id hL
      refine ⟨fun g => ⟨(kp_in (by omega)).mpr (by omega), (kp_in (by omega)).mpr (by omega), 1000 * (i + 1) + (i - 0), by omega, rfl, rfl, fr_up hfr (by decide), Or.inr (Or.inr ⟨rfl, i, lv, 0, hi, by omega, rfl, rfl, ?_, ?_, ?_, fun j' h => by omega⟩)⟩, fun g => ⟨⟨(kp_in (by omega)).mpr (by omega), rfl⟩, ?_⟩⟩
      · intro i' h1 h2 s' h3
        rw [up_c (by omega)]
        by_cases e : i' = i
        · subst e; exact hrow s' (by omega)
        · exact hP i' (by omega) h2 s' h3
      · obtain ⟨m1, m2⟩ := l2 (i + 1) (by omega) (by omega)
        have ev : τ 36 (i + 1) + nI lv = nI (tn (τ 36 (i + 1)) + lv) := by rw [← nI_add, ← m1]
        rw [ev]
        refine ⟨by rw [up_n (by omega)]; exact l1, fun i' h1 h2 => ?_, fun i' h1 h2 s' h3 => ?_⟩
        · by_cases e : i' = i
          · subst e
            rw [up_s, tn_nI (by omega)]
            exact ⟨nn_nI (by omega), by omega⟩
          · rw [up_n e]; exact l2 i' (by omega) h2
        · by_cases e : i' = i
          · subst e
            rw [up_s, up_n (by omega), tn_nI (by omega)]
            have := hmin s' (by omega)
            omega
          · rw [up_n e, up_n (by omega)]; exact l3 i' (by omega) h2 s' h3
      · intro i' h1 h2 j' h3
        rw [up_c (by omega)]; exact hM i' h1 h2 j' h3
      · intro q1 hq
        obtain ⟨rfl, -⟩ := kp_arr_row (i := i) (q := q1) (f := fun _ _ => True) (by omega) hq
        obtain ⟨w1, w2, -, -⟩ := a5 i hi
        obtain ⟨o1, o2, o3⟩ := a6 s g
        refine ⟨(kp_in (by omega)).mpr (by omega), (kp_in (by omega)).mpr (by omega), ⟨_, _, rfl, by rw [q19, q20, q21, q22]; exact hc, tn (σ 24 i), tn (σ 26 s), w1, w2, o1, o2, o3⟩, ?_⟩
        rintro x3 τ2 ⟨rfl, rfl⟩
        rw [q19, q20, q21, q22]
        have hpl := prc_le hc w2 o2 o3
        have hgo : ∀ lv' : Nat, lv' ≤ 110000 → (∀ s', s' < s + 1 → lv' ≤ PT σ i s') → ∃ n', n' < 1000 * (i + 1) + 500 + (noC σ - s) ∧ iv_X0_prepare [.ref 23, .ref 18, .ref 2] σ n' 27 [some (.ref 23), some (.ref 18), some (.ref 2), some (.int (nI i)), some (.int (nI lv')), some (.int (nI (s + 1)))] [] (kp_up τ2 (30 + i) s (nI (PT σ i s))) := by
          intro lv' h1 h2
          refine ⟨1000 * (i + 1) + 500 + (noC σ - (s + 1)), by omega, rfl, rfl, fr_up hfr (pp_mem (by omega)), Or.inr (Or.inl ⟨rfl, i, lv', s + 1, hi, by omega, rfl, rfl, ?_, ?_, ?_, ?_, h1, h2⟩)⟩
          · intro i' b1 b2 s' b3
            rw [up_c (by omega)]; exact hP i' b1 b2 s' b3
          · unfold ppL
            rw [up_c (by omega)]; exact hL
          · intro i' b1 b2 j' b3
            rw [up_c (by omega)]; exact hM i' b1 b2 j' b3
          · intro s' b1
            by_cases e : s' = s
            · subst e; rw [up_s]
            · rw [up_n e]; exact hrow s' (by omega)
        refine (kp_arr_row (i := i) (by omega) hq).2.mpr ⟨(kp_in (by omega)).mpr (by omega), ?_⟩
        rw [nI_eq (by omega) (by omega)]
        refine ⟨fun s0 => ⟨⟨(kp_in (by omega)).mpr (by omega), rfl⟩, fun q5 hq5 => ?_⟩, fun s0 => ⟨⟨(kp_in (by omega)).mpr (by omega), rfl⟩, fun q9 hq9 => ?_⟩⟩
        · obtain ⟨rfl, -⟩ := kp_arr_row (i := i) (q := q5) (f := fun _ _ => True) (by omega) hq5
          refine (kp_arr_row (i := i) (by omega) hq5).2.mpr ⟨(kp_in (by omega)).mpr (by omega), ⟨_, _, rfl⟩, ?_⟩
          rw [up_s]
          rintro x8 τ7 ⟨rfl, rfl⟩
          have hlt := nI_ltI (a := PT σ i s) (b := lv) (by have : PT σ i s ≤ 110000 := hpl; omega) (by omega)
          by_cases hb : PT σ i s < lv
          · rw [if_pos (hlt.mpr hb)]
            refine hgo (PT σ i s) hpl (fun s' h => ?_)
            by_cases e : s' = s
            · subst e; exact Nat.le_refl _
            · have := hmin s' (by omega); omega
          · rw [if_neg (fun z => hb (hlt.mp z))]
            refine hgo _ hlv (fun s' h => ?_)
            by_cases e : s' = s
            · subst e; omega
            · exact hmin s' (by omega)
        · obtain ⟨rfl, -⟩ := kp_arr_row (i := i) (q := q9) (f := fun _ _ => True) (by omega) hq9
          refine (kp_arr_row (i := i) (by omega) hq9).2.mpr ⟨(kp_in (by omega)).mpr (by omega), ?_⟩
          rw [up_s]
          refine hgo (PT σ i s) hpl (fun s' h => ?_)
          have : s' = s := by omega
          subst this; exact Nat.le_refl _
    · refine v_X0_prepare_121 _ _ _ τ ?_
      rw [q25, nI_ltI (by omega) (by omega), nI_clamp (show i < 2 ^ 31 by omega), nI_clamp (show j < 2 ^ 31 by omega), show nI j + nI 1 = nI (j + 1) from nI_add _ _, pk_mul, nI_add, nI_clamp (show i * 6 + j < 2 ^ 31 by omega)]
      refine ⟨fun g => ⟨1000 * i + 999, by omega, rfl, rfl, hfr, Or.inl ⟨rfl, i, some (.int (nI lv)), some (.int (nI j)), by omega, rfl, by rw [im1], hP, hL, fun i' h1 h2 j' h3 => ?_⟩⟩, fun g => ⟨(kp_in (by omega)).mpr (by omega), (kp_in (by omega)).mpr (by omega), ?_⟩⟩
      · by_cases e : i' = i
        · subst e; exact hrow j' (by omega)
        · exact hM i' (by omega) h2 j' h3
      · obtain ⟨-, -, w3, w4⟩ := a5 i hi
        obtain ⟨-, -, v3, v4⟩ := a5 j (by omega)
        refine ⟨⟨_, _, rfl, by rw [q2, q3]; exact hx, tn (σ 25 i), tn (σ 25 j), w3, v3, by rw [q2]; exact w4, by rw [q2]; exact v4⟩, ?_⟩
        rintro x2 τ1 ⟨rfl, rfl⟩
        rw [q3]
        refine ⟨(kp_in (by omega)).mpr (by omega), bI_01 _, 1000 * (i + 1) + (i - (j + 1)), by omega, rfl, rfl, fr_up hfr (by decide), Or.inr (Or.inr ⟨rfl, i, lv, j + 1, hi, by omega, rfl, rfl, ?_, ?_, ?_, ?_⟩)⟩
        · intro i' b1 b2 s' b3
          rw [up_c (by omega)]; exact hP i' b1 b2 s' b3
        · unfold ppL
          rw [up_c (by decide)]; exact hL
        · intro i' b1 b2 j' b3
          rw [up_n (by omega)]; exact hM i' b1 b2 j' b3
        · intro j' b1
          by_cases e : j' = j
          · subst e; rw [up_s]
          · rw [up_n (by omega)]; exact hrow j' (by omega)
