/-! the model's typing: a stroke -/
def pr_X10_type : SPre := fun As σ => ∃ s : Int32, ∃ t : Int32, As = [.ref 0, .int s, .int t] ∧ (InvM σ ∧ szT (tsM σ) ≤ 700000)
def po_X10_type : SPost := fun As σ r τ => match As with
  | [.ref _, .int s, .int t] => (InvM τ ∧ (isSt s = true ∧ inR t (σ 0 5) (nI 1000000) = true → fm [8, 9, 10] [0, 5, 6, 7, 21] σ τ ∧ τ 0 5 = t ∧ tsM τ = prT (σ 1) (mM σ) (tn (σ 0 3)) (tn (σ 0 4)) (tn (σ 0 5)) (tn s) (tn t) (tsM σ) ∧ r = nI (rlen (tsM τ).1)) ∧ (¬ (isSt s = true ∧ inR t (σ 0 5) (nI 1000000) = true) → fm [] [0] σ τ ∧ r = -1))
  | _ => True
def ms_X10_type : List Me := [(84, 1, 9, 3, true, pr_X10_isIn, po_X10_isIn), (159, 0, 9, 1, false, pr_X10_settles, po_X10_settles), (163, 0, 9, 1, true, pr_X10_leads, po_X10_leads), (153, 0, 9, 1, false, pr_X10_one, po_X10_one), (141, 0, 9, 1, true, pr_X10_ahead, po_X10_ahead), (108, 0, 9, 2, true, pr_X10_meaning, po_X10_meaning)]
theorem mk_X10_type : ∀ q ∈ ms_X10_type, kp_okM layM RX10 5 q := List.forall_mem_cons.mpr ⟨Or.inl ⟨0, yX10_isIn, cX10_isIn, 3, (some .boolean), c_X10_isIn, by omega, by decide, rfl, lk_X10_84⟩, List.forall_mem_cons.mpr ⟨Or.inl ⟨4, yX10_settles, cX10_settles, 2, none, c_X10_settles, by omega, by decide, rfl, lk_X10_159⟩, List.forall_mem_cons.mpr ⟨Or.inl ⟨3, yX10_leads, cX10_leads, 4, (some .boolean), c_X10_leads, by omega, by decide, rfl, lk_X10_163⟩, List.forall_mem_cons.mpr ⟨Or.inl ⟨3, yX10_one, cX10_one, 4, none, c_X10_one, by omega, by decide, rfl, lk_X10_153⟩, List.forall_mem_cons.mpr ⟨Or.inl ⟨0, yX10_ahead, cX10_ahead, 4, (some .int), c_X10_ahead, by omega, by decide, rfl, lk_X10_141⟩, List.forall_mem_cons.mpr ⟨Or.inl ⟨2, yX10_meaning, cX10_meaning, 5, (some .int), c_X10_meaning, by omega, by decide, rfl, lk_X10_108⟩, fun _ h => absurd h List.not_mem_nil⟩⟩⟩⟩⟩⟩
set_option maxRecDepth 100000 in
theorem v_X10_type {J : Nat → Lcl → List Value → Sg → Prop} {Q : Int32 → Sg → Prop} (s t : Int32) (σ : Sg) (h : pr_X10_isIn [.int s, .int (nI 1), .int (nI 240)] (kp_up σ 0 0 (nI 0)) ∧ ∀ (x2 : Int32) (τ1 : Sg), po_X10_isIn [.int s, .int (nI 1), .int (nI 240)] (kp_up σ 0 0 (nI 0)) x2 τ1 → ((x2 = (nI 0) → Q (-1) τ1) ∧ (¬ x2 = (nI 0) → pr_X10_isIn [.int t, .int (τ1 0 5), .int (nI 1000000)] τ1 ∧ ∀ (x4 : Int32) (τ3 : Sg), po_X10_isIn [.int t, .int (τ1 0 5), .int (nI 1000000)] τ1 x4 τ3 → ((¬ x4 = (nI 0) → (¬ (τ3 0 4) < (t - (τ3 0 5)) → vp_in ((kp_up τ3 0 5 t) 0 21) 8 ∧ (J 82 [some (.ref 0), some (.int s), some (.int t)] [] (kp_up (kp_up (kp_up τ3 0 5 t) 8 ((kp_up τ3 0 5 t) 0 21).toNatClampNeg s) 0 21 (((kp_up (kp_up τ3 0 5 t) 8 ((kp_up τ3 0 5 t) 0 21).toNatClampNeg s) 0 21) + (nI 1))))) ∧ ((τ3 0 4) < (t - (τ3 0 5)) → pr_X10_settles [.ref 0, .int ((τ3 0 5) + (τ3 0 4))] τ3 ∧ ∀ (τ5 : Sg), po_X10_settles [.ref 0, .int ((τ3 0 5) + (τ3 0 4))] τ3 (nI 0) τ5 → (vp_in ((kp_up τ5 0 5 t) 0 21) 8 ∧ (J 82 [some (.ref 0), some (.int s), some (.int t)] [] (kp_up (kp_up (kp_up τ5 0 5 t) 8 ((kp_up τ5 0 5 t) 0 21).toNatClampNeg s) 0 21 (((kp_up (kp_up τ5 0 5 t) 8 ((kp_up τ5 0 5 t) 0 21).toNatClampNeg s) 0 21) + (nI 1))))))) ∧ (x4 = (nI 0) → Q (-1) τ3))))) : kp_T layM gl_X10 pl_X10 (ms_X10_type) tb_X10_type (kp_rk (some .int)) J Q 84 tb_X10_type (kp_en [.ref 0, .int s, .int t] 3) [] σ := h
set_option maxRecDepth 100000 in
theorem v_X10_type_82 {J : Nat → Lcl → List Value → Sg → Prop} {Q : Int32 → Sg → Prop} (s t : Int32) (σ : Sg) (h : (¬ (nI 0) < (σ 0 21) → (¬ (nI 0) < (σ 0 21) → Q (σ 0 21) σ) ∧ ((nI 0) < (σ 0 21) → pr_X10_ahead [.ref 0, .int (σ 0 21)] σ ∧ ∀ (x2 : Int32) (τ1 : Sg), po_X10_ahead [.ref 0, .int (σ 0 21)] σ x2 τ1 → (pr_X10_meaning [.ref 0, .int (σ 0 3), .int x2] τ1 ∧ ∀ (x4 : Int32) (τ3 : Sg), po_X10_meaning [.ref 0, .int (σ 0 3), .int x2] τ1 x4 τ3 → ((x4 = (-1) → Q (τ3 0 21) τ3) ∧ (¬ x4 = (-1) → pr_X10_leads [.ref 0, .int (nI 1)] τ3 ∧ ∀ (x6 : Int32) (τ5 : Sg), po_X10_leads [.ref 0, .int (nI 1)] τ3 x6 τ5 → ((¬ x6 = (nI 0) → Q (τ5 0 21) τ5) ∧ (x6 = (nI 0) → pr_X10_one [.ref 0, .int t] τ5 ∧ ∀ (τ7 : Sg), po_X10_one [.ref 0, .int t] τ5 (nI 0) τ7 → (Q (τ7 0 21) τ7)))))))) ∧ ((nI 0) < (σ 0 21) → pr_X10_leads [.ref 0, .int (nI 0)] σ ∧ ∀ (x9 : Int32) (τ8 : Sg), po_X10_leads [.ref 0, .int (nI 0)] σ x9 τ8 → ((¬ x9 = (nI 0) → (¬ (nI 0) < (τ8 0 21) → Q (τ8 0 21) τ8) ∧ ((nI 0) < (τ8 0 21) → pr_X10_ahead [.ref 0, .int (τ8 0 21)] τ8 ∧ ∀ (x11 : Int32) (τ10 : Sg), po_X10_ahead [.ref 0, .int (τ8 0 21)] τ8 x11 τ10 → (pr_X10_meaning [.ref 0, .int (τ8 0 3), .int x11] τ10 ∧ ∀ (x13 : Int32) (τ12 : Sg), po_X10_meaning [.ref 0, .int (τ8 0 3), .int x11] τ10 x13 τ12 → ((x13 = (-1) → Q (τ12 0 21) τ12) ∧ (¬ x13 = (-1) → pr_X10_leads [.ref 0, .int (nI 1)] τ12 ∧ ∀ (x15 : Int32) (τ14 : Sg), po_X10_leads [.ref 0, .int (nI 1)] τ12 x15 τ14 → ((¬ x15 = (nI 0) → Q (τ14 0 21) τ14) ∧ (x15 = (nI 0) → pr_X10_one [.ref 0, .int t] τ14 ∧ ∀ (τ16 : Sg), po_X10_one [.ref 0, .int t] τ14 (nI 0) τ16 → (Q (τ16 0 21) τ16)))))))) ∧ (x9 = (nI 0) → pr_X10_one [.ref 0, .int t] τ8 ∧ ∀ (τ17 : Sg), po_X10_one [.ref 0, .int t] τ8 (nI 0) τ17 → (J 82 [some (.ref 0), some (.int s), some (.int t)] [] τ17))))) : kp_T1 layM gl_X10 pl_X10 (ms_X10_type) tb_X10_type (kp_rk (some .int)) J Q 84 82 [some (.ref 0), some (.int s), some (.int t)] [] σ := h
abbrev iv_X10_type : List Value → Sg → Nat → Nat → Lcl → List Value → Sg → Prop := fun As σ n pc ls st τ => pc = 82 ∧ st = [] ∧ ∃ s t : Int32, As = [.ref 0, .int s, .int t] ∧ ls = [some (.ref 0), some (.int s), some (.int t)] ∧ n = tn (τ 0 21) ∧ isSt s = true ∧ inR t (σ 0 5) (nI 1000000) = true ∧ fm [8, 9, 10] [0, 5, 6, 7, 21] σ τ ∧ τ 0 5 = t ∧ tyM 3 τ ∧ szT (tsM τ) ≤ 800000 ∧ prT (σ 1) (mM σ) (tn (σ 0 3)) (tn (σ 0 4)) (tn (σ 0 5)) (tn s) (tn t) (tsM σ) = fiT (σ 1) (mM σ) (tn (σ 0 3)) t (drT (σ 1) (mM σ) (tn (σ 0 3)) t (tn (τ 0 21)) (tsM τ))
set_option maxRecDepth 100000 in
set_option maxHeartbeats 4000000 in
theorem c_X10_type : kp_Met layM 5 yX10_type cX10_type 3 (some .int) (pr_X10_type) (po_X10_type) := by
  refine kp_met (N := 84) (by decide) tk_X10_type gk_X10 pk_X10 (mk_X10_type) rfl (iv_X10_type) ?_ ?_
  · rintro As σ ⟨s, t, rfl, hp⟩
    refine ⟨⟨rfl, Nat.le_of_ble_eq_true rfl⟩, v_X10_type s t σ ?_⟩
    obtain ⟨hp, hsz⟩ := hp
    obtain ⟨hL, hk, hty, hco, has⟩ := id hp
    have h0 := InvM_0 hp
    obtain ⟨hL0, em⟩ := LM_fm hL fm_0 (by decide) (by decide)
    have e1 : kp_up σ 0 0 (nI 0) 1 = σ 1 := up_c (by decide)
    have e3 : kp_up σ 0 0 (nI 0) 0 3 = σ 0 3 := up_n (by decide)
    have e4 : kp_up σ 0 0 (nI 0) 0 4 = σ 0 4 := up_n (by decide)
    have e5 : kp_up σ 0 0 (nI 0) 0 5 = σ 0 5 := up_n (by decide)
    have et : tsM (kp_up σ 0 0 (nI 0)) = tsM σ := by unfold tsM wM; simp (disch := decide) only [up_c, kp_up_eq, pk_us, pk_un]
    refine ⟨⟨_, _, _, rfl, trivial⟩, ?_⟩
    rintro x2 τ1 ⟨rfl, rfl⟩
    rw [bI_0, ← isSt_inR, e5]
    refine ⟨fun h1 => ⟨h0, fun z => (by have q := z.1; rw [h1] at q; cases q), fun _ => ⟨fm_0, rfl⟩⟩, fun h1 => ⟨⟨_, _, _, rfl, trivial⟩, ?_⟩⟩
    have h1 : isSt s = true := by simpa using h1
    rintro x4 τ3 ⟨rfl, rfl⟩
    rw [bI_0, e4, e5]
    refine ⟨fun h2 => ?_, fun h2 => ⟨h0, fun z => (by have q := z.2; rw [h2] at q; cases q), fun _ => ⟨fm_0, rfl⟩⟩⟩
    have h2 : inR t (σ 0 5) (nI 1000000) = true := by simpa using h2
    obtain ⟨t1, t2, t3, t4, t5, t6, t7, t8, t9, t10, t11⟩ := id hty
    obtain ⟨u1, u2, u3⟩ := inR_nat (by omega) (by omega) (show inR s (nI 1) (nI 240) = true from h1)
    obtain ⟨v1, v2, v3⟩ := inR_nat (a := tn (σ 0 5)) (b := 1000000) (tn_lt _) (by omega) (by rw [← t10]; exact h2)
    have hlt : σ 0 4 < t - σ 0 5 ↔ tn (σ 0 4) < tn t - tn (σ 0 5) := by
      rw [show t - σ 0 5 = nI (tn t - tn (σ 0 5)) by rw [show t - σ 0 5 = nI (tn t) - nI (tn (σ 0 5)) by rw [← v1, ← t10], pk_sub v2], (nn_lt t8 (by omega)).2]
    have eadd : σ 0 5 + σ 0 4 = nI (tn (σ 0 5) + tn (σ 0 4)) := by rw [show σ 0 5 + σ 0 4 = nI (tn (σ 0 5)) + nI (tn (σ 0 4)) by rw [← t10, ← t8], nI_add]
    have key : ∀ υ : Sg, fm [8, 9, 10] [0, 6, 7, 21] σ υ → tyM 2 υ → szT (tsM υ) ≤ szT (tsM σ) → tsM υ = (if tn (σ 0 4) < tn t - tn (σ 0 5) then stT (σ 1) (mM σ) (tn (σ 0 3)) (nI (tn (σ 0 5) + tn (σ 0 4))) 3 (tsM σ) else tsM σ) →
        vp_in ((kp_up υ 0 5 t) 0 21) 8 ∧ ∃ n, iv_X10_type [.ref 0, .int s, .int t] σ n 82 [some (.ref 0), some (.int s), some (.int t)] [] (kp_up (kp_up (kp_up υ 0 5 t) 8 ((kp_up υ 0 5 t) 0 21).toNatClampNeg s) 0 21 (((kp_up (kp_up υ 0 5 t) 8 ((kp_up υ 0 5 t) 0 21).toNatClampNeg s) 0 21) + (nI 1))) := by
      intro υ hf hty' hsz' hts
      obtain ⟨w1, w2, w3, w4, w5, w6, w7, w8, w9, w10, w11⟩ := id hty'
      have ea : kp_up υ 0 5 t 0 21 = υ 0 21 := up_n (by decide)
      have ecl : (υ 0 21).toNatClampNeg = tn (υ 0 21) := rfl
      have eb : kp_up (kp_up υ 0 5 t) 8 (tn (υ 0 21)) s 0 21 = υ 0 21 := by simp (disch := decide) only [up_c, kp_up_eq, pk_us, pk_un]
      rw [ea, ecl, eb, show υ 0 21 + nI 1 = nI (tn (υ 0 21) + 1) by rw [show υ 0 21 + nI 1 = nI (tn (υ 0 21)) + nI 1 by rw [← w1], nI_add]]
      refine ⟨by rw [w1]; exact (kp_in (tn_lt _)).mpr (by omega), _, rfl, rfl, s, t, rfl, rfl, rfl, h1, h2, fm_up0 (fm_up (fm_up0 (fm_mono hf (by decide) (by decide)) (by decide)) (by decide) (by decide)) (by decide), ?_, ?_, ?_, ?_⟩
      · simp (disch := decide) only [up_c, kp_up_eq, pk_us, pk_un]
      · unfold tyM
        simp (disch := decide) only [up_c, kp_up_eq, pk_us, pk_un]
        rw [tn_nI (show tn (υ 0 21) + 1 < 2 ^ 31 by omega)]
        refine ⟨nn_nI (by omega), by omega, fun k hk => ?_, w4, w5, w6, w7, w8, w9, v1, v3⟩
        by_cases e : k = tn (υ 0 21)
        · rw [e, pk_us]; exact ⟨u1, u2, u3⟩
        · rw [pk_un e]; exact w3 k (by omega)
      all_goals
        have ew : wM (kp_up (kp_up (kp_up υ 0 5 t) 8 (tn (υ 0 21)) s) 0 21 (nI (tn (υ 0 21) + 1))) = wM υ + tn s * 256 ^ rlen (wM υ) := by
          unfold wM
          simp (disch := decide) only [up_c, kp_up_eq, pk_us, pk_un]
          rw [tn_nI (show tn (υ 0 21) + 1 < 2 ^ 31 by omega)]
          exact pkw_add w2 w3
        have ets : tsM (kp_up (kp_up (kp_up υ 0 5 t) 8 (tn (υ 0 21)) s) 0 21 (nI (tn (υ 0 21) + 1))) = ((tsM υ).1 + tn s * 256 ^ rlen (tsM υ).1, (tsM υ).2) := by
          unfold tsM
          rw [ew]
          simp (disch := decide) only [up_c, kp_up_eq, pk_us, pk_un]
        obtain ⟨p1, p2, p3⟩ := tyM_w (by omega) hty'
        obtain ⟨l1, l2⟩ := ln_add p1 (by omega) u2 u3
      · rw [ets]
        have : szT ((tsM υ).1 + tn s * 256 ^ rlen (tsM υ).1, (tsM υ).2) = szT (tsM υ) + 1 := by
          unfold szT
          dsimp only
          have l2 : rlen ((tsM υ).1 + tn s * 256 ^ rlen (tsM υ).1) = rlen (tsM υ).1 + 1 := l2
          omega
        omega
      · rw [ets, up_s, tn_nI (show tn (υ 0 21) + 1 < 2 ^ 31 by omega)]
        unfold prT
        rw [← v1]
        dsimp only
        rw [← hts]
        rw [drT_fuel 3 (tn (υ 0 21) + 1) ((tsM υ).1 + tn s * 256 ^ rlen (tsM υ).1, (tsM υ).2) (Or.inr l1) (rlen_le _) (by show rlen (wM υ + tn s * 256 ^ rlen (wM υ)) ≤ _; omega)]
    rw [hlt]
    have hszr := stT_ok (o := σ 1) (M := mM σ) (c := tn (σ 0 3)) (tick := nI (tn (σ 0 5) + tn (σ 0 4))) 3 (tsM σ) (tyM_w (by omega) hty).1
    refine ⟨fun h3 => key _ (fm_mono fm_0 (by decide) (by decide)) h0.2.2.1 (by rw [et]; exact Nat.le_refl _) (by rw [et, if_neg h3]), fun h3 => ⟨⟨_, rfl, hL0, tyM_le h0.2.2.1 (by omega), by rw [et]; omega⟩, ?_⟩⟩
    rintro τ5 ⟨k1, k2, k3⟩
    rw [em, e1, e3, et, eadd] at k3
    exact key τ5 (fm_tr (fm_mono fm_0 (by decide) (by decide)) (fm_mono k1 (by decide) (by decide))) (tyM_le k2 (by omega)) (by rw [k3]; exact hszr.2.1) (by rw [k3, if_pos h3])
  · rintro As σ ⟨s, t, rfl, hp⟩ n pc ls st τ hI
    obtain ⟨hp, hsz0⟩ := hp
    obtain ⟨hL, hk, hty0, hco, has⟩ := id hp
    obtain ⟨rfl, rfl, s', t', hAs, rfl, rfl, h1, h2, hf, h5, hty, hsz, hpr⟩ := hI
    cases hAs
    obtain ⟨u1, u2, u3⟩ := inR_nat (by omega) (by omega) (show inR s (nI 1) (nI 240) = true from h1)
    obtain ⟨hLt, em, e1, e3⟩ := tyM_F hL hf
    obtain ⟨w1, w2, w3⟩ := tyM_w (by omega) hty
    obtain ⟨t1, t2, t3, t4, t5, t6, t7, t8, t9, t10, t11⟩ := id hty
    have hpo := prT_ok (o := σ 1) (M := mM σ) (c := tn (σ 0 3)) (pat := tn (σ 0 4)) (last := tn (σ 0 5)) (s := tn s) (tick := tn t) (t := tsM σ) (tyM_w (by omega) hty0).1 (by have := (tyM_w (by omega) hty0).2.1; have := hty0.2.1; show rlen (wM σ) ≤ 2; omega) u2 u3
    -- what is answered at the end
    have hQ : ∀ υ : Sg, fm [8, 9, 10] [0, 5, 6, 7, 21] σ υ → υ 0 5 = t → tyM 3 υ → tsM υ = prT (σ 1) (mM σ) (tn (σ 0 3)) (tn (σ 0 4)) (tn (σ 0 5)) (tn s) (tn t) (tsM σ) → po_X10_type [.ref 0, .int s, .int t] σ (υ 0 21) υ := by
      intro υ q1 q2 q3 q4
      obtain ⟨p1, p2, p3⟩ := tyM_w (by omega) q3
      have hr := hpo.2.2
      rw [← q4] at hr
      have hr : rlen (wM υ) ≤ 2 := hr
      refine ⟨InvM_ty hp (fm_mono q1 (by decide) (by decide)) ⟨q3.1, by omega, q3.2.2⟩, fun _ => ⟨q1, q2, q4, ?_⟩, fun z => absurd ⟨h1, h2⟩ z⟩
      show υ 0 21 = nI (rlen (wM υ))
      rw [p2]; exact q3.1
    have hlt : nI 0 < τ 0 21 ↔ 0 < tn (τ 0 21) := (nn_lt t1 (show 0 < 2 ^ 31 by omega)).1
    -- behind the loop: a full row goes
    have hend : 1 ≤ tn (τ 0 21) → prT (σ 1) (mM σ) (tn (σ 0 3)) (tn (σ 0 4)) (tn (σ 0 5)) (tn s) (tn t) (tsM σ) = fiT (σ 1) (mM σ) (tn (σ 0 3)) t (tsM τ) → (pr_X10_ahead [.ref 0, .int (τ 0 21)] τ ∧ ∀ (x11 : Int32) (τ10 : Sg), po_X10_ahead [.ref 0, .int (τ 0 21)] τ x11 τ10 → (pr_X10_meaning [.ref 0, .int (τ 0 3), .int x11] τ10 ∧ ∀ (x13 : Int32) (τ12 : Sg), po_X10_meaning [.ref 0, .int (τ 0 3), .int x11] τ10 x13 τ12 → ((x13 = (-1) → po_X10_type [.ref 0, .int s, .int t] σ (τ12 0 21) τ12) ∧ (¬ x13 = (-1) → pr_X10_leads [.ref 0, .int (nI 1)] τ12 ∧ ∀ (x15 : Int32) (τ14 : Sg), po_X10_leads [.ref 0, .int (nI 1)] τ12 x15 τ14 → ((¬ x15 = (nI 0) → po_X10_type [.ref 0, .int s, .int t] σ (τ14 0 21) τ14) ∧ (x15 = (nI 0) → pr_X10_one [.ref 0, .int t] τ14 ∧ ∀ (τ16 : Sg), po_X10_one [.ref 0, .int t] τ14 (nI 0) τ16 → po_X10_type [.ref 0, .int s, .int t] σ (τ16 0 21) τ16)))))) := by
      intro hge hpe
      have hrow := w3 hge
      have hwl := rowOK_lt hrow
      have hne : (tsM τ).1 ≠ 0 := fun z => by
        have := (lnOK_0 w1).mpr z
        rw [w2] at this; omega
      refine ⟨⟨_, rfl, hty, _, t1, Nat.le_refl _⟩, ?_⟩
      rintro x11 τ10 ⟨rfl, rfl⟩
      refine ⟨⟨_, _, rfl, hLt, tn (τ10 0 3), wM τ10, t6, t7, rfl, hwl⟩, ?_⟩
      rintro x13 τ12 ⟨rfl, rfl⟩
      have ew : tn (nI (pkw (τ12 8) (tn (τ12 0 21)))) = wM τ12 := tn_nI (by show wM τ12 < 2 ^ 31; omega)
      rw [ew, em, e1, e3]
      have eldp : ldP (nI 1) (τ12 1) (mM τ12) (tn (τ12 0 3)) (wM τ12) = opensP (σ 1) (mM σ) (tn (σ 0 3)) (wM τ12) := by
        unfold ldP
        rw [if_neg (by decide), em, e1, e3]
      refine ⟨fun h => hQ τ12 hf h5 hty ?_, fun h => ⟨⟨_, rfl, hLt, hty, hge⟩, ?_⟩⟩
      · rw [hpe]; unfold fiT; rw [if_neg (fun z => z.2.1 h)]
      · rintro x15 τ14 ⟨rfl, rfl⟩
        rw [bI_0, eldp]
        refine ⟨fun h6 => hQ τ14 hf h5 hty ?_, fun h6 => ⟨⟨_, rfl, hLt, hty, by omega, hge⟩, ?_⟩⟩
        · rw [hpe]; unfold fiT; rw [if_neg (fun z => h6 z.2.2)]
        · rintro τ16 ⟨k1, k2, k3⟩
          rw [em, e1, e3] at k3
          refine hQ τ16 (fm_tr hf (fm_mono k1 (by decide) (by decide))) (by rw [k1.2 5 (by decide)]; exact h5) k2 ?_
          rw [hpe, k3]; unfold fiT; rw [if_pos ⟨hne, h, h6⟩]
    refine v_X10_type_82 _ _ τ ?_
    rw [hlt]
    refine ⟨fun g => ⟨fun _ => hQ τ hf h5 hty ?_, fun h => absurd h g⟩, fun g => ⟨⟨_, rfl, hLt, hty, g⟩, ?_⟩⟩
    · have hz : tn (τ 0 21) = 0 := by omega
      rw [hpr, hz]
      show tsM τ = fiT _ _ _ _ (tsM τ)
      have hw0 : (tsM τ).1 = 0 := (lnOK_0 w1).mp (by rw [w2]; exact hz)
      unfold fiT
      rw [if_neg (fun z => z.1 hw0)]
    have hne : (tsM τ).1 ≠ 0 := fun z => by
      have := (lnOK_0 w1).mpr z
      rw [w2] at this; omega
    obtain ⟨f, hfu⟩ : ∃ f, tn (τ 0 21) = f + 1 := ⟨tn (τ 0 21) - 1, by omega⟩
    rintro x9 τ8 ⟨rfl, rfl⟩
    have eldp : ldP (nI 0) (τ8 1) (mM τ8) (tn (τ8 0 3)) (wM τ8) = liveP (σ 1) (mM σ) (tn (σ 0 3)) (tsM τ8).1 := by
      unfold ldP
      rw [if_pos rfl, em, e1, e3]; rfl
    rw [bI_0, eldp, hlt]
    refine ⟨fun h6 => ⟨fun h => absurd g h, fun _ => hend g ?_⟩, fun h6 => ⟨⟨_, rfl, hLt, hty, by omega, g⟩, ?_⟩⟩
    · rw [hpr, hfu, drT, if_pos (Or.inr (by simpa using h6))]
    · rintro τ17 ⟨k1, k2, k3⟩
      rw [em, e1, e3] at k3
      obtain ⟨o1, o2, o3⟩ := onT_ok (o := σ 1) (M := mM σ) (c := tn (σ 0 3)) (tick := t) (t := tsM τ8) w1 hne
      rw [← k3] at o1 o2 o3
      obtain ⟨p1, p2, p3⟩ := tyM_w (by omega) k2
      have o2 : rlen (wM τ17) < rlen (wM τ8) := o2
      refine ⟨tn (τ17 0 21), by omega, rfl, rfl, s, t, rfl, rfl, rfl, h1, h2, fm_tr hf (fm_mono k1 (by decide) (by decide)), by rw [k1.2 5 (by decide)]; exact h5, k2, by omega, ?_⟩
      rw [hpr, hfu, drT, if_neg (by rintro (z | z); exact hne z; rw [h6] at z; cases z), ← k3]
      rw [drT_fuel f (tn (τ17 0 21)) (tsM τ17) p1 (by show rlen (wM τ17) ≤ f; omega) (Nat.le_of_eq p2)]
