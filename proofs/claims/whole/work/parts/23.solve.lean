/-! the cheapest assignment: KeyPlan$Assigning.solve, brokenHabits, bestKey -/
abbrev RS (σ : Sg) : BS := gv (nwC σ) (noC σ) (PT σ) (MT σ) (ofC σ) (nwC σ) 0 0 (fun _ => 0) none
def bsR (nw no : Nat) (of : Nat → Nat) (b : BS) : Prop := ∀ v l, b = some (v, l) → l.length = nw ∧ ∀ x ∈ l, ∃ s, s < no ∧ x = of s
theorem vcT_R {nw no : Nat} {of tr : Nat → Nat} (ht : ∀ j, j < nw → tr j < no) : (vcT nw of tr).length = nw ∧ ∀ x ∈ vcT nw of tr, ∃ s, s < no ∧ x = of s := by
  unfold vcT
  refine ⟨by simp, fun x hx => ?_⟩
  obtain ⟨j, hj, rfl⟩ := List.mem_map.mp hx
  exact ⟨tr j, ht j (List.mem_range.mp hj), rfl⟩
theorem gvL_R {stp : Nat → BS → BS} {nw no : Nat} {of : Nat → Nat} : ∀ (k s : Nat) (b : BS), s + k ≤ no → bsR nw no of b → (∀ t, t < no → ∀ x, bsR nw no of x → bsR nw no of (stp t x)) → bsR nw no of (gvL stp k s b)
  | 0, _, _, _, h, _ => h
  | k + 1, s, b, hs, h, e => gvL_R k (s + 1) _ (by omega) (e s (by omega) b h) e
theorem gv_R {nw no : Nat} {P : Nat → Nat → Nat} {mt : Nat → Nat → Bool} {of : Nat → Nat} : ∀ (f i sum : Nat) (tr : Nat → Nat) (b : BS), i + f = nw → (∀ j, j < i → tr j < no) → bsR nw no of b → bsR nw no of (gv nw no P mt of f i sum tr b)
  | 0, i, sum, tr, b, h, ht, hb => by
    intro v l e
    have hv := vcT_R (nw := nw) (no := no) (of := of) (tr := tr) (fun j hj => ht j (by omega))
    cases b with
    | none =>
      cases e
      exact hv
    | some q =>
      have e : (if sum < q.1 then some (sum, vcT nw of tr) else some q) = some (v, l) := e
      by_cases hq : sum < q.1
      · rw [if_pos hq] at e; cases e; exact hv
      · rw [if_neg hq] at e; exact hb v l e
  | f + 1, i, sum, tr, b, h, ht, hb => by
    rw [gv_s]
    refine gvL_R (no := no) no 0 b (by omega) hb (fun s hs x hx => ?_)
    unfold gvS
    split
    · refine gv_R f (i + 1) _ _ x (by omega) (fun j hj => ?_) hx
      unfold updN
      split
      · exact hs
      · exact ht j (by omega)
    · exact hx
theorem RS_R (σ : Sg) : bsR (nwC σ) (noC σ) (ofC σ) (RS σ) := gv_R _ 0 0 _ _ (by omega) (fun j hj => by omega) (fun v l e => by cases e)
theorem tn_pos {x : Int32} (h : 1 ≤ tn x) : nn x := by
  unfold nn
  refine (nI_tn ?_).symm
  intro hx
  unfold tn Int32.toNatClampNeg at h
  rw [lt_I, nI_toInt (by omega)] at hx
  omega
/-- the assignment that is held is the cheapest one -/
def slv (σ : Sg) : Prop := (σ 23 6 = -1 ∨ nn (σ 23 6)) ∧ bsC σ = RS σ
theorem slv_strokes {σ : Sg} (ha : asOK σ) (h : slv σ) (h6 : σ 23 6 ≠ -1) : ∀ i, i < nwC σ → nn (σ 27 i) ∧ 1 ≤ tn (σ 27 i) ∧ tn (σ 27 i) ≤ 240 := by
  intro i hi
  have hr := RS_R σ
  rw [← h.2] at hr
  unfold bsC at hr
  rw [if_neg h6] at hr
  obtain ⟨-, h2⟩ := hr _ _ rfl
  obtain ⟨s, hs, e⟩ := h2 (tn (σ 27 i)) (List.mem_map.mpr ⟨i, List.mem_range.mpr hi, rfl⟩)
  obtain ⟨-, o2, o3⟩ := ha.2.2.2.2.2 s hs
  have e : tn (σ 27 i) = tn (σ 26 s) := e
  exact ⟨tn_pos (by omega), by omega, by omega⟩
abbrev svF : List Nat := [23, 27, 28, 30, 31, 32, 33, 34, 35, 36, 37]
def pr_X0_solve : SPre := fun As σ => As = [.ref 23, .ref 18, .ref 2] ∧ (asOK σ ∧ cstC σ ∧ ctxOK (σ 3) (σ 2 1) ∧ (σ 23 5 = nI 0 ∨ slv σ))
def po_X0_solve : SPost := fun As σ r τ => match As with
  | [.ref _, .ref _, .ref _] => (fr svF σ τ ∧ (∀ k, k ≠ 5 → k ≠ 6 → τ 23 k = σ 23 k) ∧ (τ 23 5 = nI 1 ∨ τ 23 5 = σ 23 5) ∧ ¬ τ 23 5 = nI 0 ∧ asOK τ ∧ RS τ = RS σ ∧ slv τ)
  | _ => True
def ms_X0_solve : List Me := [(60, 0, 0, 2, false, pr_X0_prepare, po_X0_prepare), (64, 0, 0, 2, false, (pr_X0_giveFrom 7), po_X0_giveFrom)]
theorem mk_X0_solve : ∀ q ∈ ms_X0_solve, kp_okM layC RX0 10 q := List.forall_mem_cons.mpr ⟨Or.inl ⟨4, yX0_prepare, cX0_prepare, 6, none, c_X0_prepare, by omega, by decide, rfl, lk_X0_60⟩, List.forall_mem_cons.mpr ⟨Or.inl ⟨7, yX0_giveFrom, cX0_giveFrom, 6, none, (cc_giveFrom 7), by omega, by decide, rfl, lk_X0_64⟩, fun _ h => absurd h List.not_mem_nil⟩⟩
set_option maxRecDepth 100000 in
theorem v_X0_solve {J : Nat → Lcl → List Value → Sg → Prop} {Q : Int32 → Sg → Prop}  (σ : Sg) (h : ((σ 23 5) = (nI 0) → pr_X0_prepare [.ref 23, .ref 18, .ref 2] σ ∧ ∀ (τ1 : Sg), po_X0_prepare [.ref 23, .ref 18, .ref 2] σ (nI 0) τ1 → ((pr_X0_giveFrom 7) [.ref 23, .int (nI 0), .int (nI 0)] (kp_up τ1 23 6 (-1)) ∧ ∀ (τ2 : Sg), po_X0_giveFrom [.ref 23, .int (nI 0), .int (nI 0)] (kp_up τ1 23 6 (-1)) (nI 0) τ2 → (((nI 1) = nI 0 ∨ (nI 1) = nI 1) ∧ (Q (nI 0) (kp_up τ2 23 5 (nI 1)))))) ∧ (¬ (σ 23 5) = (nI 0) → Q (nI 0) σ)) : kp_T layC gl_X0 pl_X0 (ms_X0_solve) tb_X0_solve (kp_rk none) J Q 30 tb_X0_solve (kp_en [.ref 23, .ref 18, .ref 2] 3) [] σ := h
set_option maxRecDepth 100000 in
set_option maxHeartbeats 4000000 in
theorem c_X0_solve : kp_Met layC 10 yX0_solve cX0_solve 3 none (pr_X0_solve) (po_X0_solve) := by
  refine kp_met (N := 30) (by decide) tk_X0_solve gk_X0 pk_X0 (mk_X0_solve) rfl (fun _ _ _ _ _ _ _ => False) ?_ (fun _ _ _ _ _ _ _ _ h => h.elim)
  rintro As σ ⟨rfl, hp⟩
  refine ⟨⟨rfl, Nat.le_of_ble_eq_true rfl⟩, v_X0_solve σ ?_⟩
  obtain ⟨ha, hc, hx, hsl⟩ := hp
  obtain ⟨a1, a2, a3, a4, a5, a6⟩ := id ha
  have en : nwC σ = tn (σ 23 2) := rfl
  refine ⟨fun g => ⟨⟨rfl, ha, hc, hx⟩, ?_⟩, fun g => ⟨fr_rf, fun _ _ _ => rfl, Or.inr rfl, g, ha, rfl, hsl.resolve_left g⟩⟩
  rintro τ1 ⟨f1, hP, hL, hM⟩
  obtain ⟨l1, l2, l3⟩ := id hL
  have q2 : τ1 2 = σ 2 := f1 2 (by decide)
  have q23 : τ1 23 = σ 23 := f1 23 (by decide)
  have q24 : τ1 24 = σ 24 := f1 24 (by decide)
  have q25 : τ1 25 = σ 25 := f1 25 (by decide)
  have q26 : τ1 26 = σ 26 := f1 26 (by decide)
  have r23 : ∀ k, k ≠ 6 → kp_up τ1 23 6 (-1) 23 k = σ 23 k := fun k hk => by rw [up_n hk, q23]
  have rc : ∀ c, c ≠ 23 → kp_up τ1 23 6 (-1) c = τ1 c := fun c hc => up_c hc
  have enw : nwC (kp_up τ1 23 6 (-1)) = nwC σ := by unfold nwC; rw [r23 2 (by decide)]
  have eno : noC (kp_up τ1 23 6 (-1)) = noC σ := by unfold noC; rw [r23 4 (by decide)]
  have eP : ∀ i s, i < nwC σ → s < noC σ → pC (kp_up τ1 23 6 (-1)) i s = PT σ i s := fun i s hi hs => by
    show tn (kp_up τ1 23 6 (-1) (30 + i) s) = _
    rw [rc _ (by omega), hP i (by omega) hi s hs]
    have := prc_le hc (a5 i hi).2.1 (a6 s hs).2.1 (a6 s hs).2.2
    exact tn_nI (by have : PT σ i s ≤ 110000 := this; omega)
  have eL : LbC (kp_up τ1 23 6 (-1)) = fun i => tn (τ1 36 i) := by
    funext i
    show tn (kp_up τ1 23 6 (-1) 36 i) = _
    rw [rc 36 (by decide)]
  have ha2 : asOK (kp_up τ1 23 6 (-1)) := by
    unfold asOK
    rw [enw, eno, r23 2 (by decide), r23 4 (by decide), rc 24 (by decide), rc 25 (by decide), rc 26 (by decide), rc 2 (by decide), q2, q24, q25, q26]
    exact ha
  have hs2 : srOK (kp_up τ1 23 6 (-1)) := by
    unfold srOK
    rw [enw, eno, eL]
    refine ⟨fun i s hi hs => ?_, fun i hi => ?_, ?_, fun i s hi hs => ?_⟩
    · have := prc_le hc (a5 i hi).2.1 (a6 s hs).2.1 (a6 s hs).2.2
      rw [eP i s hi hs, rc _ (by omega), hP i (by omega) hi s hs]
      exact ⟨nn_nI (by have : PT σ i s ≤ 110000 := this; omega), this⟩
    · rw [rc 36 (by decide)]
      obtain ⟨b1, b2⟩ := l2 i (by omega) hi
      exact ⟨b1, by show tn (τ1 36 i) ≤ 660000; omega⟩
    · show tn (τ1 36 (nwC σ)) = 0
      rw [l1]; rfl
    · rw [eP i s hi hs]; exact l3 i (by omega) hi s hs
  refine ⟨⟨_, _, rfl, ha2, hs2, 0, 0, rfl, rfl, by omega, by omega, by omega, fun j hj => by omega, Or.inl up_s⟩, ?_⟩
  rintro τ2 ⟨hK, hb⟩
  rw [tn_nI (by omega)] at hK hb
  obtain ⟨k1, k2, k3, k4⟩ := id hK
  obtain ⟨e1, e2, e3, e4, e5, e6⟩ := gfK_data hK
  have hfr : fr svF σ (kp_up τ2 23 5 (nI 1)) := fr_up (fr_tr (fr_up (fr_mono f1 (by decide)) (by decide)) (fr_mono k1 (by decide))) (by decide)
  have h23 : ∀ k, k ≠ 5 → k ≠ 6 → kp_up τ2 23 5 (nI 1) 23 k = σ 23 k := fun k h5 h6 => by rw [up_n h5, k2 k h6, r23 k h6]
  have hnw : nwC (kp_up τ2 23 5 (nI 1)) = nwC σ := by unfold nwC; rw [h23 2 (by decide) (by decide)]
  have hno : noC (kp_up τ2 23 5 (nI 1)) = noC σ := by unfold noC; rw [h23 4 (by decide) (by decide)]
  have ha3 : asOK (kp_up τ2 23 5 (nI 1)) := by
    unfold asOK
    rw [hnw, hno, h23 2 (by decide) (by decide), h23 4 (by decide) (by decide), hfr 24 (by decide), hfr 25 (by decide), hfr 26 (by decide), hfr 2 (by decide)]
    exact ha
  have hRS : RS (kp_up τ2 23 5 (nI 1)) = RS σ := by
    unfold RS PT MT ofC
    rw [hnw, hno, hfr 24 (by decide), hfr 25 (by decide), hfr 26 (by decide), hfr 19 (by decide), hfr 20 (by decide), hfr 21 (by decide), hfr 22 (by decide), hfr 3 (by decide)]
  refine ⟨Or.inr rfl, hfr, h23, Or.inl up_s, by rw [up_s]; decide, ha3, hRS, ?_, ?_⟩
  · rw [up_n (by decide)]
    exact k4.imp id (fun z => z.1)
  · rw [hRS]
    have hbc : bsC (kp_up τ2 23 5 (nI 1)) = bsC τ2 := bsC_congr (by rw [up_n (by decide)]) (by rw [up_n (by decide)]) (by rw [up_c (by decide)])
    rw [hbc, hb]
    unfold gvC
    have hbn : bsC (kp_up τ1 23 6 (-1)) = none := by unfold bsC; rw [if_pos up_s]
    rw [hbn, enw, eno, Nat.sub_zero]
    refine gv_congr (fun i s hi hs => eP i s hi hs) (fun i j hi hj => ?_) (fun s hs => ?_) _ 0 _ _ _ _ (by omega) (fun j hj => by omega)
    · show decide (¬ kp_up τ1 23 6 (-1) 37 (i * 6 + j) = nI 0) = _
      rw [rc 37 (by decide), hM i (by omega) hi j hj]
      have := bI_0 (b := MT σ i j)
      cases hmt : MT σ i j with
      | false => exact decide_eq_false (fun z => z (bI_0.mpr rfl))
      | true => exact decide_eq_true (fun z => by have := bI_0.mp z; cases this)
    · show tn (kp_up τ1 23 6 (-1) 26 s) = tn (σ 26 s)
      rw [rc 26 (by decide), q26]
def bkN (f : Nat → Bool) : Nat → Nat
  | 0 => 0
  | n + 1 => bkN f n + (if f n = true then 1 else 0)
theorem bkN_le {f : Nat → Bool} : ∀ n, bkN f n ≤ n
  | 0 => Nat.le_refl _
  | n + 1 => by
    have := bkN_le (f := f) n
    rw [bkN]; split <;> omega
theorem bkN_congr {f g : Nat → Bool} : ∀ n, (∀ i, i < n → f i = g i) → bkN f n = bkN g n
  | 0, _ => rfl
  | n + 1, h => by rw [bkN, bkN, bkN_congr n (fun i hi => h i (by omega)), h n (by omega)]
abbrev bkC (σ : Sg) : Nat → Bool := fun i => brk (σ 21) (tn (σ 24 i)) (tn (σ 27 i))
def pr_X0_brokenHabits : SPre := fun As σ => As = [.ref 23, .ref 18] ∧ (asOK σ ∧ cstC σ ∧ (∀ i, i < nwC σ → nn (σ 27 i)))
def po_X0_brokenHabits : SPost := fun As σ r τ => match As with
  | [.ref _, .ref _] => (τ = σ ∧ r = nI (bkN (bkC σ) (nwC σ)))
  | _ => True
def ms_X0_brokenHabits : List Me := [(92, 0, 3, 2, true, pr_X3_breaksHabit, po_X3_breaksHabit)]
theorem mk_X0_brokenHabits : ∀ q ∈ ms_X0_brokenHabits, kp_okM layC RX0 1 q := List.forall_mem_cons.mpr ⟨Or.inl ⟨0, yX3_breaksHabit, cX3_breaksHabit, 3, (some .boolean), c_X3_breaksHabit, by omega, by decide, rfl, lk_X0_92⟩, fun _ h => absurd h List.not_mem_nil⟩
set_option maxRecDepth 100000 in
theorem v_X0_brokenHabits {J : Nat → Lcl → List Value → Sg → Prop} {Q : Int32 → Sg → Prop}  (σ : Sg) (h : J 4 [some (.ref 23), some (.ref 18), some (.int (nI 0)), some (.int (nI 0))] [] σ) : kp_T layC gl_X0 pl_X0 (ms_X0_brokenHabits) tb_X0_brokenHabits (kp_rk (some .int)) J Q 34 tb_X0_brokenHabits (kp_en [.ref 23, .ref 18] 4) [] σ := h
set_option maxRecDepth 100000 in
theorem v_X0_brokenHabits_4 {J : Nat → Lcl → List Value → Sg → Prop} {Q : Int32 → Sg → Prop} (b i : Int32) (σ : Sg) (h : (¬ i < (σ 23 2) → Q b σ) ∧ (i < (σ 23 2) → vp_in i 6 ∧ (vp_in i 6 ∧ (pr_X3_breaksHabit [.ref 18, .int (σ 24 (i).toNatClampNeg), .int (σ 27 (i).toNatClampNeg)] σ ∧ ∀ (x2 : Int32) (τ1 : Sg), po_X3_breaksHabit [.ref 18, .int (σ 24 (i).toNatClampNeg), .int (σ 27 (i).toNatClampNeg)] σ x2 τ1 → ((x2 = (nI 0) → J 4 [some (.ref 23), some (.ref 18), some (.int (b + (nI 0))), some (.int (i + nI 1))] [] τ1) ∧ (¬ x2 = (nI 0) → J 4 [some (.ref 23), some (.ref 18), some (.int (b + (nI 1))), some (.int (i + nI 1))] [] τ1)))))) : kp_T1 layC gl_X0 pl_X0 (ms_X0_brokenHabits) tb_X0_brokenHabits (kp_rk (some .int)) J Q 34 4 [some (.ref 23), some (.ref 18), some (.int b), some (.int i)] [] σ := h
abbrev iv_X0_brokenHabits : List Value → Sg → Nat → Nat → Lcl → List Value → Sg → Prop := fun As σ n pc ls st τ => pc = 4 ∧ st = [] ∧ τ = σ ∧ As = [.ref 23, .ref 18] ∧ ∃ i : Nat, i ≤ nwC σ ∧ n = nwC σ - i ∧ ls = [some (.ref 23), some (.ref 18), some (.int (nI (bkN (bkC σ) i))), some (.int (nI i))]
set_option maxRecDepth 100000 in
set_option maxHeartbeats 4000000 in
theorem c_X0_brokenHabits : kp_Met layC 1 yX0_brokenHabits cX0_brokenHabits 4 (some .int) (pr_X0_brokenHabits) (po_X0_brokenHabits) := by
  refine kp_met (N := 34) (by decide) tk_X0_brokenHabits gk_X0 pk_X0 (mk_X0_brokenHabits) rfl (iv_X0_brokenHabits) ?_ ?_
  · rintro As σ ⟨rfl, hp⟩
    refine ⟨⟨rfl, Nat.le_of_ble_eq_true rfl⟩, v_X0_brokenHabits σ ?_⟩
    exact ⟨nwC σ, rfl, rfl, rfl, rfl, 0, by omega, by omega, rfl⟩
  · rintro As σ ⟨rfl, hp⟩ n pc ls st τ hI
    obtain ⟨ha, hc, hn⟩ := hp
    obtain ⟨a1, a2, a3, a4, a5, a6⟩ := id ha
    obtain ⟨rfl, rfl, rfl, hAs, i, hi, rfl, rfl⟩ := hI
    clear hAs
    have en : nwC τ = tn (τ 23 2) := rfl
    have hle := bkN_le (f := bkC τ) i
    refine v_X0_brokenHabits_4 _ _ τ ?_
    rw [(nn_lt a1 (show i < 2 ^ 31 by omega)).1, nI_clamp (show i < 2 ^ 31 by omega), show nI i + nI 1 = nI (i + 1) from nI_add _ _]
    refine ⟨fun g => ⟨rfl, by rw [show nwC τ = i by omega]⟩, fun g => ⟨(kp_in (by omega)).mpr (by omega), (kp_in (by omega)).mpr (by omega), ⟨_, _, rfl, fun c h => (hc.2 c h).2.1.1, tn (τ 24 i), tn (τ 27 i), (a5 i g).1, (a5 i g).2.1, hn i g, tn_lt _⟩, ?_⟩⟩
    rintro x2 τ1 ⟨rfl, rfl⟩
    rw [bI_0]
    refine ⟨fun h => ⟨nwC τ1 - (i + 1), by omega, rfl, rfl, rfl, rfl, i + 1, by omega, rfl, ?_⟩, fun h => ⟨nwC τ1 - (i + 1), by omega, rfl, rfl, rfl, rfl, i + 1, by omega, rfl, ?_⟩⟩
    · rw [bkN, if_neg (by rw [show bkC τ1 i = false from h]; decide), nI_add]
    · rw [bkN, if_pos (show bkC τ1 i = true by simpa using h), nI_add]
def pr_X0_bestKey : SPre := fun As σ => ∃ i : Int32, As = [.ref 23, .int i] ∧ (∃ k : Nat, i = nI k ∧ k < 6 ∧ nn (σ 25 k) ∧ tn (σ 25 k) < 12 ∧ nn (σ 27 k) ∧ tn (σ 27 k) < 16777216)
def po_X0_bestKey : SPost := fun As σ r τ => match As with
  | [.ref _, .int i] => (τ = σ ∧ r = nI (tn (σ 25 (tn i)) * 16777216 + tn (σ 27 (tn i))))
  | _ => True
def ms_X0_bestKey : List Me := [(95, 1, 1, 2, true, pr_X1_key, po_X1_key)]
theorem mk_X0_bestKey : ∀ q ∈ ms_X0_bestKey, kp_okM layC RX0 1 q := List.forall_mem_cons.mpr ⟨Or.inl ⟨0, yX1_key, cX1_key, 2, (some .int), c_X1_key, by omega, by decide, rfl, lk_X0_95⟩, fun _ h => absurd h List.not_mem_nil⟩
set_option maxRecDepth 100000 in
theorem v_X0_bestKey {J : Nat → Lcl → List Value → Sg → Prop} {Q : Int32 → Sg → Prop} (i : Int32) (σ : Sg) (h : vp_in i 6 ∧ (vp_in i 6 ∧ (pr_X1_key [.int (σ 25 (i).toNatClampNeg), .int (σ 27 (i).toNatClampNeg)] σ ∧ ∀ (x2 : Int32) (τ1 : Sg), po_X1_key [.int (σ 25 (i).toNatClampNeg), .int (σ 27 (i).toNatClampNeg)] σ x2 τ1 → (Q x2 τ1)))) : kp_T layC gl_X0 pl_X0 (ms_X0_bestKey) tb_X0_bestKey (kp_rk (some .int)) J Q 30 tb_X0_bestKey (kp_en [.ref 23, .int i] 2) [] σ := h
set_option maxRecDepth 100000 in
set_option maxHeartbeats 4000000 in
theorem c_X0_bestKey : kp_Met layC 1 yX0_bestKey cX0_bestKey 2 (some .int) (pr_X0_bestKey) (po_X0_bestKey) := by
  refine kp_met (N := 30) (by decide) tk_X0_bestKey gk_X0 pk_X0 (mk_X0_bestKey) rfl (fun _ _ _ _ _ _ _ => False) ?_ (fun _ _ _ _ _ _ _ _ h => h.elim)
  rintro As σ ⟨i, rfl, hp⟩
  refine ⟨⟨rfl, Nat.le_of_ble_eq_true rfl⟩, v_X0_bestKey i σ ?_⟩
  obtain ⟨k, rfl, hk, h1, h2, h3, h4⟩ := hp
  rw [nI_clamp (show k < 2 ^ 31 by omega)]
  refine ⟨(kp_in (by omega)).mpr hk, (kp_in (by omega)).mpr hk, ⟨_, _, rfl, tn (σ 25 k), tn (σ 27 k), h1, h2, h3, h4⟩, ?_⟩
  rintro x2 τ1 ⟨rfl, rfl⟩
  exact ⟨rfl, by rw [tn_nI (show k < 2 ^ 31 by omega)]⟩
