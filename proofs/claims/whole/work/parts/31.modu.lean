/-! the model's typing: strokes, settling -/
theorem row_inM {σ : Sg} {z r c : Nat} (hz : σ 0 8 = nI z) (h1 : z ≤ 120) (hm : mOK (σ 2) (σ 3) (σ 4) (σ 0 8)) (hr : r < 16777216) (h : mean (σ 1) (mM σ) r 12 c ≠ -1) : ∃ i, i < z ∧ tn (σ 3 i) = r := by
  obtain ⟨c', h2, -⟩ := mean_in _ _ h
  have h2 : lk (eK (σ 2) (σ 3)) (σ 4) (tn (σ 0 8)) (c' * 16777216 + r) ≠ -1 := h2
  rw [hz, tn_nI (by omega)] at h2
  obtain ⟨i, hi, e⟩ := lk_some h2
  refine ⟨i, hi, ?_⟩
  obtain ⟨z', hz', hz2, h3, -⟩ := hm
  have : z = z' := (nI_eq (by omega) (by omega)).mp (hz.symm.trans hz')
  subst this
  have := rowOK_lt (h3 i hi).2.2.2.1
  have e : tn (σ 2 i) * 16777216 + tn (σ 3 i) = c' * 16777216 + r := e
  omega
theorem longer_iff {r w : Nat} (hr : rowOK r = true) (hw : rowOK w = true) : (rlen w < rlen r ∧ r % 256 ^ rlen w = w) ↔ (r ≠ w ∧ r % 256 ^ rlen w = w) := by
  constructor
  · rintro ⟨h1, h2⟩
    exact ⟨fun e => by rw [e] at h1; omega, h2⟩
  · rintro ⟨h1, h2⟩
    refine ⟨?_, h2⟩
    rcases rlen_ok hr with ⟨a, b⟩ | ⟨a, b⟩ | ⟨a, b⟩ <;> rcases rlen_ok hw with ⟨a', b'⟩ | ⟨a', b'⟩ | ⟨a', b'⟩ <;> rw [a'] at h2 ⊢ <;> rw [a] <;> omega
/-- what leads on: a row that begins so and means something, or one that is so -/
def ldP (lg : Int32) (o M : Nat → Int32) (c w : Nat) : Prop := if lg = nI 0 then liveP o M c w else opensP o M c w
def pr_X10_leads : SPre := fun As σ => ∃ lg : Int32, As = [.ref 0, .int lg] ∧ (LM σ ∧ tyM 3 σ ∧ 1 ≤ tn (σ 0 21))
def po_X10_leads : SPost := fun As σ r τ => match As with
  | [.ref _, .int lg] => (τ = σ ∧ r = bI (dc (ldP lg (σ 1) (mM σ) (tn (σ 0 3)) (wM σ))))
  | _ => True
def ms_X10_leads : List Me := [(141, 0, 9, 1, true, pr_X10_ahead, po_X10_ahead), (122, 1, 9, 2, true, pr_X10_begins, po_X10_begins), (108, 0, 9, 2, true, pr_X10_meaning, po_X10_meaning)]
theorem mk_X10_leads : ∀ q ∈ ms_X10_leads, kp_okM layM RX10 3 q := List.forall_mem_cons.mpr ⟨Or.inl ⟨0, yX10_ahead, cX10_ahead, 4, (some .int), c_X10_ahead, by omega, by decide, rfl, lk_X10_141⟩, List.forall_mem_cons.mpr ⟨Or.inl ⟨2, yX10_begins, cX10_begins, 2, (some .boolean), c_X10_begins, by omega, by decide, rfl, lk_X10_122⟩, List.forall_mem_cons.mpr ⟨Or.inl ⟨2, yX10_meaning, cX10_meaning, 5, (some .int), c_X10_meaning, by omega, by decide, rfl, lk_X10_108⟩, fun _ h => absurd h List.not_mem_nil⟩⟩⟩
set_option maxRecDepth 100000 in
theorem v_X10_leads {J : Nat → Lcl → List Value → Sg → Prop} {Q : Int32 → Sg → Prop} (lg : Int32) (σ : Sg) (h : (¬ (nI 3) < (σ 0 21) → pr_X10_ahead [.ref 0, .int (σ 0 21)] σ ∧ ∀ (x2 : Int32) (τ1 : Sg), po_X10_ahead [.ref 0, .int (σ 0 21)] σ x2 τ1 → (J 21 [some (.ref 0), some (.int lg), some (.int x2), some (.int (nI 0))] [] τ1)) ∧ ((nI 3) < (σ 0 21) → ((nI 0) = nI 0 ∨ (nI 0) = nI 1) ∧ Q (nI 0) σ)) : kp_T layM gl_X10 pl_X10 (ms_X10_leads) tb_X10_leads (kp_rk (some .boolean)) J Q 53 tb_X10_leads (kp_en [.ref 0, .int lg] 4) [] σ := h
set_option maxRecDepth 100000 in
theorem v_X10_leads_21 {J : Nat → Lcl → List Value → Sg → Prop} {Q : Int32 → Sg → Prop} (lg row k : Int32) (σ : Sg) (h : (¬ k < (σ 0 8) → ((nI 0) = nI 0 ∨ (nI 0) = nI 1) ∧ Q (nI 0) σ) ∧ (k < (σ 0 8) → vp_in k 120 ∧ (pr_X10_begins [.int row, .int (σ 3 (k).toNatClampNeg)] σ ∧ ∀ (x2 : Int32) (τ1 : Sg), po_X10_begins [.int row, .int (σ 3 (k).toNatClampNeg)] σ x2 τ1 → ((¬ x2 = (nI 0) → vp_in k 120 ∧ (pr_X10_meaning [.ref 0, .int (τ1 0 3), .int (τ1 3 (k).toNatClampNeg)] τ1 ∧ ∀ (x4 : Int32) (τ3 : Sg), po_X10_meaning [.ref 0, .int (τ1 0 3), .int (τ1 3 (k).toNatClampNeg)] τ1 x4 τ3 → ((x4 = (-1) → J 21 [some (.ref 0), some (.int lg), some (.int row), some (.int (k + nI 1))] [] τ3) ∧ (¬ x4 = (-1) → ((nI 1) = nI 0 ∨ (nI 1) = nI 1) ∧ Q (nI 1) τ3)))) ∧ (x2 = (nI 0) → (¬ lg = (nI 0) → J 21 [some (.ref 0), some (.int lg), some (.int row), some (.int (k + nI 1))] [] τ1) ∧ (lg = (nI 0) → vp_in k 120 ∧ ((¬ row = (τ1 3 (k).toNatClampNeg) → J 21 [some (.ref 0), some (.int lg), some (.int row), some (.int (k + nI 1))] [] τ1) ∧ (row = (τ1 3 (k).toNatClampNeg) → vp_in k 120 ∧ (pr_X10_meaning [.ref 0, .int (τ1 0 3), .int (τ1 3 (k).toNatClampNeg)] τ1 ∧ ∀ (x6 : Int32) (τ5 : Sg), po_X10_meaning [.ref 0, .int (τ1 0 3), .int (τ1 3 (k).toNatClampNeg)] τ1 x6 τ5 → ((x6 = (-1) → J 21 [some (.ref 0), some (.int lg), some (.int row), some (.int (k + nI 1))] [] τ5) ∧ (¬ x6 = (-1) → ((nI 1) = nI 0 ∨ (nI 1) = nI 1) ∧ Q (nI 1) τ5))))))))))) : kp_T1 layM gl_X10 pl_X10 (ms_X10_leads) tb_X10_leads (kp_rk (some .boolean)) J Q 53 21 [some (.ref 0), some (.int lg), some (.int row), some (.int k)] [] σ := h
abbrev iv_X10_leads : List Value → Sg → Nat → Nat → Lcl → List Value → Sg → Prop := fun As σ n pc ls st τ => pc = 21 ∧ st = [] ∧ τ = σ ∧ ∃ (lg : Int32) (k : Nat), As = [.ref 0, .int lg] ∧ ls = [some (.ref 0), some (.int lg), some (.int (nI (wM σ))), some (.int (nI k))] ∧ k ≤ tn (σ 0 8) ∧ n = tn (σ 0 8) - k ∧ ∀ j, j < k → ¬ (((tn (σ 3 j) ≠ wM σ ∧ tn (σ 3 j) % 256 ^ rlen (wM σ) = wM σ) ∨ (lg = nI 0 ∧ tn (σ 3 j) = wM σ)) ∧ mean (σ 1) (mM σ) (tn (σ 3 j)) 12 (tn (σ 0 3)) ≠ -1)
set_option maxRecDepth 100000 in
set_option maxHeartbeats 4000000 in
theorem c_X10_leads : kp_Met layM 3 yX10_leads cX10_leads 4 (some .boolean) (pr_X10_leads) (po_X10_leads) := by
  refine kp_met (N := 53) (by decide) tk_X10_leads gk_X10 pk_X10 (mk_X10_leads) rfl (iv_X10_leads) ?_ ?_
  · rintro As σ ⟨lg, rfl, hp⟩
    refine ⟨⟨rfl, Nat.le_of_ble_eq_true rfl⟩, v_X10_leads lg σ ?_⟩
    obtain ⟨hL, hty, hge⟩ := hp
    have h3 := hty.2.1
    have hnl : ¬ nI 3 < σ 0 21 := by rw [(nn_lt hty.1 (by omega)).1]; omega
    refine ⟨fun _ => ⟨⟨_, rfl, hty, _, hty.1, Nat.le_refl _⟩, ?_⟩, fun h => absurd h hnl⟩
    rintro x2 τ1 ⟨rfl, rfl⟩
    exact ⟨_, rfl, rfl, rfl, lg, 0, rfl, rfl, Nat.zero_le _, rfl, fun j hj => by omega⟩
  · rintro As σ ⟨lg, rfl, hp⟩ n pc ls st τ hI
    obtain ⟨hL, hty, hge⟩ := hp
    obtain ⟨rfl, rfl, rfl, lg', k, hAs, rfl, hk, rfl, hj⟩ := hI
    cases hAs
    obtain ⟨z, hz, hz1, h2, h3⟩ := id hL.2
    have ez : tn (τ 0 8) = z := by rw [hz, tn_nI (by omega)]
    obtain ⟨w1, w2, w3⟩ := tyM_w (by omega) hty
    have w3 := w3 hge
    have hwl := rowOK_lt w3
    obtain ⟨t1, t2, t3, t4, t5, t6, t7, t8, t9, t10, t11⟩ := id hty
    refine v_X10_leads_21 _ _ _ τ ?_
    rw [hz, nI_ltI (by omega) (by omega), nI_clamp (show k < 2 ^ 31 by omega), nI_add]
    rw [ez] at hk
    refine ⟨fun g => ⟨Or.inl rfl, rfl, ?_⟩, fun g => ?_⟩
    · have : dc (ldP lg (τ 1) (mM τ) (tn (τ 0 3)) (wM τ)) = false := by
        refine dc_f (fun q => ?_)
        have hop : opensP (τ 1) (mM τ) (tn (τ 0 3)) (wM τ) → False := by
          rintro ⟨r, r1, r2, r3, r4⟩
          obtain ⟨i, hi, rfl⟩ := row_inM hz hz1 hL.2 r1 r4
          exact hj i (by omega) ⟨Or.inl ⟨r2, r3⟩, r4⟩
        unfold ldP at q
        by_cases e : lg = nI 0
        · rw [if_pos e] at q
          rcases q with q | q
          · obtain ⟨i, hi, ei⟩ := row_inM hz hz1 hL.2 hwl q
            exact hj i (by omega) ⟨Or.inr ⟨e, ei⟩, by rw [ei]; exact q⟩
          · exact hop q
        · rw [if_neg e] at q; exact hop q
      rw [this]; rfl
    · obtain ⟨g1, g2, g3, g4, -⟩ := h2 k g
      have hrl := rowOK_lt g4
      have hin : vp_in (nI k) 120 := (kp_in (by omega)).mpr (by omega)
      refine ⟨hin, ⟨_, _, rfl, wM τ, tn (τ 3 k), rfl, by omega, g3, tn_lt _⟩, ?_⟩
      rintro x2 τ1 ⟨rfl, rfl⟩
      rw [bI_0, tn_nI (show wM τ1 < 2 ^ 31 by omega), mlen_row w3, mlen_row g4]
      have hbg := longer_iff g4 w3
      have eq3 : nI (wM τ1) = τ1 3 k ↔ tn (τ1 3 k) = wM τ1 := by
        rw [show (nI (wM τ1) = τ1 3 k) = (nI (wM τ1) = nI (tn (τ1 3 k))) by rw [← g3], nI_eq (by omega) (tn_lt _)]; exact eq_comm
      have hgo : ¬ (((tn (τ1 3 k) ≠ wM τ1 ∧ tn (τ1 3 k) % 256 ^ rlen (wM τ1) = wM τ1) ∨ (lg = nI 0 ∧ tn (τ1 3 k) = wM τ1)) ∧ mean (τ1 1) (mM τ1) (tn (τ1 3 k)) 12 (tn (τ1 0 3)) ≠ -1) → ∃ n', n' < tn (nI z) - k ∧ iv_X10_leads [.ref 0, .int lg] τ1 n' 21 [some (.ref 0), some (.int lg), some (.int (nI (wM τ1))), some (.int (nI (k + 1)))] [] τ1 := fun h => ⟨tn (τ1 0 8) - (k + 1), by rw [ez, tn_nI (by omega)]; omega, rfl, rfl, rfl, lg, k + 1, rfl, rfl, by omega, rfl, fun j hj' => by
        by_cases e : j = k
        · rw [e]; exact h
        · exact hj j (by omega)⟩
      have hyes : (((tn (τ1 3 k) ≠ wM τ1 ∧ tn (τ1 3 k) % 256 ^ rlen (wM τ1) = wM τ1) ∨ (lg = nI 0 ∧ tn (τ1 3 k) = wM τ1)) ∧ mean (τ1 1) (mM τ1) (tn (τ1 3 k)) 12 (tn (τ1 0 3)) ≠ -1) → (nI 1 = nI 0 ∨ nI 1 = nI 1) ∧ po_X10_leads [.ref 0, .int lg] τ1 (nI 1) τ1 := fun h => by
        refine ⟨Or.inr rfl, rfl, ?_⟩
        have : dc (ldP lg (τ1 1) (mM τ1) (tn (τ1 0 3)) (wM τ1)) = true := by
          refine dc_t ?_
          unfold ldP
          rcases h with ⟨⟨q1, q2⟩ | ⟨q1, q2⟩, q3⟩
          · have hop : opensP (τ1 1) (mM τ1) (tn (τ1 0 3)) (wM τ1) := ⟨_, hrl, q1, q2, q3⟩
            by_cases e : lg = nI 0
            · rw [if_pos e]; exact Or.inr hop
            · rw [if_neg e]; exact hop
          · rw [if_pos q1]; exact Or.inl (by rw [← q2]; exact q3)
        rw [this]; rfl
      have hmean : pr_X10_meaning [.ref 0, .int (τ1 0 3), .int (τ1 3 k)] τ1 := ⟨_, _, rfl, hL, tn (τ1 0 3), tn (τ1 3 k), t6, t7, g3, hrl⟩
      refine ⟨fun q1 => ⟨hin, hmean, ?_⟩, fun q1 => ⟨fun q2 => hgo ?_, fun q2 => ⟨hin, fun q3 => hgo ?_, fun q3 => ⟨hin, hmean, ?_⟩⟩⟩⟩
      · have q1 : decide (rlen (wM τ1) < rlen (tn (τ1 3 k)) ∧ tn (τ1 3 k) % 256 ^ rlen (wM τ1) = wM τ1) = true := by simpa using q1
        have q1 := hbg.mp (of_decide_eq_true q1)
        rintro x4 τ3 ⟨rfl, rfl⟩
        exact ⟨fun h => hgo (fun z => z.2 h), fun h => hyes ⟨Or.inl q1, h⟩⟩
      · rintro ⟨q | q, -⟩
        · exact of_decide_eq_false q1 (hbg.mpr q)
        · exact q2 q.1
      · rintro ⟨q | q, -⟩
        · exact of_decide_eq_false q1 (hbg.mpr q)
        · exact q3 (eq3.mpr q.2)
      · rintro x4 τ3 ⟨rfl, rfl⟩
        exact ⟨fun h => hgo (fun z => z.2 h), fun h => hyes ⟨Or.inr ⟨q2, eq3.mp q3⟩, h⟩⟩
theorem stT_fuel {o M : Nat → Int32} {c : Nat} {tick : Int32} : ∀ (f g : Nat) (t : TS), lnOK t.1 → rlen t.1 ≤ f → rlen t.1 ≤ g → stT o M c tick f t = stT o M c tick g t
  | 0, 0, _, _, _, _ => rfl
  | 0, g + 1, t, h, h1, _ => by
    have : t.1 = 0 := (lnOK_0 h).mp (by omega)
    rw [stT, stT, if_pos this]
  | f + 1, 0, t, h, _, h1 => by
    have : t.1 = 0 := (lnOK_0 h).mp (by omega)
    rw [stT, stT, if_pos this]
  | f + 1, g + 1, t, h, h1, h2 => by
    rw [stT, stT]
    by_cases e : t.1 = 0
    · rw [if_pos e, if_pos e]
    · rw [if_neg e, if_neg e]
      obtain ⟨a, b, -⟩ := onT_ok (o := o) (M := M) (c := c) (tick := tick) h e
      exact stT_fuel f g _ a (by omega) (by omega)
theorem drT_fuel {o M : Nat → Int32} {c : Nat} {tick : Int32} : ∀ (f g : Nat) (t : TS), lnOK t.1 → rlen t.1 ≤ f → rlen t.1 ≤ g → drT o M c tick f t = drT o M c tick g t
  | 0, 0, _, _, _, _ => rfl
  | 0, g + 1, t, h, h1, _ => by
    have : t.1 = 0 := (lnOK_0 h).mp (by omega)
    rw [drT, drT, if_pos (Or.inl this)]
  | f + 1, 0, t, h, _, h1 => by
    have : t.1 = 0 := (lnOK_0 h).mp (by omega)
    rw [drT, drT, if_pos (Or.inl this)]
  | f + 1, g + 1, t, h, h1, h2 => by
    rw [drT, drT]
    by_cases e : t.1 = 0 ∨ dc (liveP o M c t.1) = true
    · rw [if_pos e, if_pos e]
    · rw [if_neg e, if_neg e]
      obtain ⟨a, b, -⟩ := onT_ok (o := o) (M := M) (c := c) (tick := tick) h (fun z => e (Or.inl z))
      exact drT_fuel f g _ a (by omega) (by omega)
theorem tyM_F {σ τ : Sg} (h : LM σ) (hf : fm [8, 9, 10] [0, 5, 6, 7, 21] σ τ) : LM τ ∧ mM τ = mM σ ∧ τ 1 = σ 1 ∧ τ 0 3 = σ 0 3 := by
  obtain ⟨a, b⟩ := LM_fm h hf (by decide) (by decide)
  exact ⟨a, b, hf.1 1 (by decide) (by decide), hf.2 3 (by decide)⟩
def pr_X10_settles : SPre := fun As σ => ∃ t : Int32, As = [.ref 0, .int t] ∧ (LM σ ∧ tyM 3 σ ∧ szT (tsM σ) ≤ 900000)
def po_X10_settles : SPost := fun As σ r τ => match As with
  | [.ref _, .int t] => (fm [8, 9, 10] [6, 7, 21] σ τ ∧ tyM 0 τ ∧ tsM τ = stT (σ 1) (mM σ) (tn (σ 0 3)) t 3 (tsM σ))
  | _ => True
def ms_X10_settles : List Me := [(153, 0, 9, 1, false, pr_X10_one, po_X10_one)]
theorem mk_X10_settles : ∀ q ∈ ms_X10_settles, kp_okM layM RX10 4 q := List.forall_mem_cons.mpr ⟨Or.inl ⟨3, yX10_one, cX10_one, 4, none, c_X10_one, by omega, by decide, rfl, lk_X10_153⟩, fun _ h => absurd h List.not_mem_nil⟩
set_option maxRecDepth 100000 in
theorem v_X10_settles {J : Nat → Lcl → List Value → Sg → Prop} {Q : Int32 → Sg → Prop} (t : Int32) (σ : Sg) (h : J 0 [some (.ref 0), some (.int t)] [] σ) : kp_T layM gl_X10 pl_X10 (ms_X10_settles) tb_X10_settles (kp_rk none) J Q 30 tb_X10_settles (kp_en [.ref 0, .int t] 2) [] σ := h
set_option maxRecDepth 100000 in
theorem v_X10_settles_0 {J : Nat → Lcl → List Value → Sg → Prop} {Q : Int32 → Sg → Prop} (t : Int32) (σ : Sg) (h : (¬ (nI 0) < (σ 0 21) → Q (nI 0) σ) ∧ ((nI 0) < (σ 0 21) → pr_X10_one [.ref 0, .int t] σ ∧ ∀ (τ1 : Sg), po_X10_one [.ref 0, .int t] σ (nI 0) τ1 → (J 0 [some (.ref 0), some (.int t)] [] τ1))) : kp_T1 layM gl_X10 pl_X10 (ms_X10_settles) tb_X10_settles (kp_rk none) J Q 30 0 [some (.ref 0), some (.int t)] [] σ := h
abbrev iv_X10_settles : List Value → Sg → Nat → Nat → Lcl → List Value → Sg → Prop := fun As σ n pc ls st τ => pc = 0 ∧ st = [] ∧ ∃ t : Int32, As = [.ref 0, .int t] ∧ ls = [some (.ref 0), some (.int t)] ∧ n = tn (τ 0 21) ∧ fm [8, 9, 10] [6, 7, 21] σ τ ∧ tyM 3 τ ∧ szT (tsM τ) ≤ 900000 ∧ stT (σ 1) (mM σ) (tn (σ 0 3)) t 3 (tsM σ) = stT (σ 1) (mM σ) (tn (σ 0 3)) t (tn (τ 0 21)) (tsM τ)
set_option maxRecDepth 100000 in
set_option maxHeartbeats 4000000 in
theorem c_X10_settles : kp_Met layM 4 yX10_settles cX10_settles 2 none (pr_X10_settles) (po_X10_settles) := by
  refine kp_met (N := 30) (by decide) tk_X10_settles gk_X10 pk_X10 (mk_X10_settles) rfl (iv_X10_settles) ?_ ?_
  · rintro As σ ⟨t, rfl, hp⟩
    refine ⟨⟨rfl, Nat.le_of_ble_eq_true rfl⟩, v_X10_settles t σ ?_⟩
    obtain ⟨hL, hty, hsz⟩ := hp
    obtain ⟨w1, w2, w3⟩ := tyM_w (by omega) hty
    exact ⟨_, rfl, rfl, t, rfl, rfl, rfl, fm_rf, hty, hsz, stT_fuel 3 _ (tsM σ) w1 (rlen_le _) (Nat.le_of_eq w2)⟩
  · rintro As σ ⟨t, rfl, hp⟩ n pc ls st τ hI
    obtain ⟨hL, -, -⟩ := hp
    obtain ⟨rfl, rfl, t', hAs, rfl, rfl, hf, hty, hsz, hst⟩ := hI
    cases hAs
    obtain ⟨hLt, em, e1, e3⟩ := tyM_F hL (fm_mono hf (by decide) (by decide))
    obtain ⟨w1, w2, w3⟩ := tyM_w (by omega) hty
    refine v_X10_settles_0 _ τ ?_
    rw [(nn_lt hty.1 (show 0 < 2 ^ 31 by omega)).1]
    refine ⟨fun g => ?_, fun g => ⟨⟨_, rfl, hLt, hty, hsz, g⟩, ?_⟩⟩
    · have h0 : tn (τ 0 21) = 0 := by omega
      refine ⟨hf, ⟨hty.1, by omega, hty.2.2⟩, ?_⟩
      rw [hst, h0]; rfl
    · rintro τ1 ⟨k1, k2, k3⟩
      rw [em, e1, e3] at k3
      obtain ⟨v1, v2, v3⟩ := tyM_w (by omega) k2
      have hne : (tsM τ).1 ≠ 0 := fun z => by
        have := (lnOK_0 w1).mpr z
        rw [w2] at this; omega
      obtain ⟨o1, o2, o3⟩ := onT_ok (o := σ 1) (M := mM σ) (c := tn (σ 0 3)) (tick := t) (t := tsM τ) w1 hne
      rw [← k3] at o1 o2 o3
      have o2 : rlen (wM τ1) < rlen (wM τ) := o2
      refine ⟨tn (τ1 0 21), by omega, rfl, rfl, t, rfl, rfl, rfl, fm_tr hf k1, k2, by omega, ?_⟩
      obtain ⟨f, hfu⟩ : ∃ f, tn (τ 0 21) = f + 1 := ⟨tn (τ 0 21) - 1, by omega⟩
      rw [hst, hfu, stT, if_neg hne, ← k3]
      exact stT_fuel f _ (tsM τ1) v1 (by show rlen (wM τ1) ≤ f; omega) (Nat.le_of_eq v2)
theorem InvM_ty {σ τ : Sg} (h : InvM σ) (hf : fm [8, 9, 10] [0, 3, 5, 6, 7, 21] σ τ) (h1 : tyM 2 τ) : InvM τ := by
  obtain ⟨a1, a2, a3, a4, a5⟩ := h
  exact ⟨(LM_fm a1 hf (by decide) (by decide)).1, (kOM_fm a2 hf (by decide) (by decide)).1, h1, cstM_fm a4 hf (by decide), asM_fm a5 hf (by decide) (by decide)⟩
theorem tyM_le {b c : Nat} {σ : Sg} (h : tyM b σ) (hb : b ≤ c) : tyM c σ := ⟨h.1, by have := h.2.1; omega, h.2.2⟩
def pr_X10_go : SPre := fun As σ => ∃ c : Int32, As = [.ref 0, .int c] ∧ (InvM σ ∧ szT (tsM σ) ≤ 700000)
def po_X10_go : SPost := fun As σ r τ => match As with
  | [.ref _, .int c] => (InvM τ ∧ (isCx (σ 0 2) c = true → fm [8, 9, 10] [0, 3, 6, 7, 21] σ τ ∧ τ 0 3 = c ∧ tsM τ = stT (σ 1) (mM σ) (tn (σ 0 3)) (σ 0 5) 3 (tsM σ) ∧ r = nI 1) ∧ (¬ isCx (σ 0 2) c = true → fm [] [0] σ τ ∧ r = nI 0))
  | _ => True
def ms_X10_go : List Me := [(88, 0, 9, 1, true, pr_X10_isContext, po_X10_isContext), (159, 0, 9, 1, false, pr_X10_settles, po_X10_settles)]
theorem mk_X10_go : ∀ q ∈ ms_X10_go, kp_okM layM RX10 5 q := List.forall_mem_cons.mpr ⟨Or.inl ⟨0, yX10_isContext, cX10_isContext, 2, (some .boolean), c_X10_isContext, by omega, by decide, rfl, lk_X10_88⟩, List.forall_mem_cons.mpr ⟨Or.inl ⟨4, yX10_settles, cX10_settles, 2, none, c_X10_settles, by omega, by decide, rfl, lk_X10_159⟩, fun _ h => absurd h List.not_mem_nil⟩⟩
set_option maxRecDepth 100000 in
theorem v_X10_go {J : Nat → Lcl → List Value → Sg → Prop} {Q : Int32 → Sg → Prop} (c : Int32) (σ : Sg) (h : pr_X10_isContext [.ref 0, .int c] (kp_up σ 0 0 (nI 0)) ∧ ∀ (x2 : Int32) (τ1 : Sg), po_X10_isContext [.ref 0, .int c] (kp_up σ 0 0 (nI 0)) x2 τ1 → ((¬ x2 = (nI 0) → pr_X10_settles [.ref 0, .int (τ1 0 5)] τ1 ∧ ∀ (τ3 : Sg), po_X10_settles [.ref 0, .int (τ1 0 5)] τ1 (nI 0) τ3 → (((nI 1) = nI 0 ∨ (nI 1) = nI 1) ∧ Q (nI 1) (kp_up τ3 0 3 c))) ∧ (x2 = (nI 0) → ((nI 0) = nI 0 ∨ (nI 0) = nI 1) ∧ Q (nI 0) τ1))) : kp_T layM gl_X10 pl_X10 (ms_X10_go) tb_X10_go (kp_rk (some .boolean)) J Q 30 tb_X10_go (kp_en [.ref 0, .int c] 2) [] σ := h
set_option maxRecDepth 100000 in
set_option maxHeartbeats 4000000 in
theorem c_X10_go : kp_Met layM 5 yX10_go cX10_go 2 (some .boolean) (pr_X10_go) (po_X10_go) := by
  refine kp_met (N := 30) (by decide) tk_X10_go gk_X10 pk_X10 (mk_X10_go) rfl (fun _ _ _ _ _ _ _ => False) ?_ (fun _ _ _ _ _ _ _ _ h => h.elim)
  rintro As σ ⟨c, rfl, hp⟩
  refine ⟨⟨rfl, Nat.le_of_ble_eq_true rfl⟩, v_X10_go c σ ?_⟩
  obtain ⟨hp, hsz⟩ := hp
  obtain ⟨hL, hk, hty, hco, has⟩ := id hp
  have h0 := InvM_0 hp
  obtain ⟨hL0, em⟩ := LM_fm hL fm_0 (by decide) (by decide)
  have e2 : kp_up σ 0 0 (nI 0) 0 2 = σ 0 2 := up_n (by decide)
  have e3 : kp_up σ 0 0 (nI 0) 0 3 = σ 0 3 := up_n (by decide)
  have e5 : kp_up σ 0 0 (nI 0) 0 5 = σ 0 5 := up_n (by decide)
  have e1 : kp_up σ 0 0 (nI 0) 1 = σ 1 := up_c (by decide)
  have et : tsM (kp_up σ 0 0 (nI 0)) = tsM σ := by unfold tsM wM; simp (disch := decide) only [up_c, kp_up_eq, pk_us, pk_un]
  refine ⟨⟨_, rfl, trivial⟩, ?_⟩
  rintro x2 τ1 ⟨rfl, rfl⟩
  rw [e2, bI_0, e5]
  refine ⟨fun h1 => ?_, fun h1 => ⟨Or.inl rfl, h0, fun z => (by rw [h1] at z; cases z), fun _ => ⟨fm_0, rfl⟩⟩⟩
  have h1 : isCx (σ 0 2) c = true := by simpa using h1
  refine ⟨⟨_, rfl, hL0, tyM_le h0.2.2.1 (by omega), by rw [et]; omega⟩, ?_⟩
  rintro τ3 ⟨k1, k2, k3⟩
  rw [em, e1, e3, et] at k3
  have hf : fm [8, 9, 10] [0, 3, 6, 7, 21] σ (kp_up τ3 0 3 c) := fm_up0 (fm_tr (fm_mono fm_0 (by decide) (by decide)) (fm_mono k1 (by decide) (by decide))) (by decide)
  have et3 : tsM (kp_up τ3 0 3 c) = tsM τ3 := by unfold tsM wM; simp (disch := decide) only [up_c, kp_up_eq, pk_us, pk_un]
  obtain ⟨n, hn, n1, n2, -, -⟩ := hL.1
  have hcc : nn c ∧ tn c < tn (σ 0 2) := by
    rw [hn] at h1 ⊢
    obtain ⟨a, ha, rfl⟩ := (isCx_iff (by omega)).mp h1
    rw [tn_nI (show n < 2 ^ 31 by omega)]
    exact ⟨nn_nI (by omega), by rw [tn_nI (by omega)]; exact ha⟩
  refine ⟨Or.inr rfl, InvM_ty hp (fm_mono hf (by decide) (by decide)) ?_, fun _ => ⟨hf, up_s, et3.trans k3, rfl⟩, fun z => absurd h1 z⟩
  obtain ⟨t1, t2, t3, t4, t5, t6, t7, t8⟩ := tyM_le k2 (show 0 ≤ 2 by omega)
  unfold tyM
  simp (disch := decide) only [up_c, kp_up_eq, pk_us, pk_un]
  refine ⟨t1, t2, t3, t4, t5, hcc.1, ?_, t8⟩
  rw [k1.2 2 (by decide), e2]; exact hcc.2
def pr_X10_settle : SPre := fun As σ => ∃ t : Int32, As = [.ref 0, .int t] ∧ (InvM σ ∧ szT (tsM σ) ≤ 700000)
def po_X10_settle : SPost := fun As σ r τ => match As with
  | [.ref _, .int t] => (InvM τ ∧ (inR t (σ 0 5) (nI 1000000) = true → fm [8, 9, 10] [0, 6, 7, 21] σ τ ∧ tsM τ = stT (σ 1) (mM σ) (tn (σ 0 3)) t 3 (tsM σ) ∧ r = τ 0 6 - σ 0 6) ∧ (¬ inR t (σ 0 5) (nI 1000000) = true → fm [] [0] σ τ ∧ r = -1))
  | _ => True
def ms_X10_settle : List Me := [(84, 1, 9, 3, true, pr_X10_isIn, po_X10_isIn), (159, 0, 9, 1, false, pr_X10_settles, po_X10_settles)]
theorem mk_X10_settle : ∀ q ∈ ms_X10_settle, kp_okM layM RX10 5 q := List.forall_mem_cons.mpr ⟨Or.inl ⟨0, yX10_isIn, cX10_isIn, 3, (some .boolean), c_X10_isIn, by omega, by decide, rfl, lk_X10_84⟩, List.forall_mem_cons.mpr ⟨Or.inl ⟨4, yX10_settles, cX10_settles, 2, none, c_X10_settles, by omega, by decide, rfl, lk_X10_159⟩, fun _ h => absurd h List.not_mem_nil⟩⟩
set_option maxRecDepth 100000 in
theorem v_X10_settle {J : Nat → Lcl → List Value → Sg → Prop} {Q : Int32 → Sg → Prop} (t : Int32) (σ : Sg) (h : pr_X10_isIn [.int t, .int ((kp_up σ 0 0 (nI 0)) 0 5), .int (nI 1000000)] (kp_up σ 0 0 (nI 0)) ∧ ∀ (x2 : Int32) (τ1 : Sg), po_X10_isIn [.int t, .int ((kp_up σ 0 0 (nI 0)) 0 5), .int (nI 1000000)] (kp_up σ 0 0 (nI 0)) x2 τ1 → ((¬ x2 = (nI 0) → pr_X10_settles [.ref 0, .int t] τ1 ∧ ∀ (τ3 : Sg), po_X10_settles [.ref 0, .int t] τ1 (nI 0) τ3 → (Q ((τ3 0 6) - (τ1 0 6)) τ3)) ∧ (x2 = (nI 0) → Q (-1) τ1))) : kp_T layM gl_X10 pl_X10 (ms_X10_settle) tb_X10_settle (kp_rk (some .int)) J Q 30 tb_X10_settle (kp_en [.ref 0, .int t] 3) [] σ := h
set_option maxRecDepth 100000 in
set_option maxHeartbeats 4000000 in
theorem c_X10_settle : kp_Met layM 5 yX10_settle cX10_settle 3 (some .int) (pr_X10_settle) (po_X10_settle) := by
  refine kp_met (N := 30) (by decide) tk_X10_settle gk_X10 pk_X10 (mk_X10_settle) rfl (fun _ _ _ _ _ _ _ => False) ?_ (fun _ _ _ _ _ _ _ _ h => h.elim)
  rintro As σ ⟨t, rfl, hp⟩
  refine ⟨⟨rfl, Nat.le_of_ble_eq_true rfl⟩, v_X10_settle t σ ?_⟩
  obtain ⟨hp, hsz⟩ := hp
  obtain ⟨hL, hk, hty, hco, has⟩ := id hp
  have h0 := InvM_0 hp
  obtain ⟨hL0, em⟩ := LM_fm hL fm_0 (by decide) (by decide)
  have e3 : kp_up σ 0 0 (nI 0) 0 3 = σ 0 3 := up_n (by decide)
  have e5 : kp_up σ 0 0 (nI 0) 0 5 = σ 0 5 := up_n (by decide)
  have e6 : kp_up σ 0 0 (nI 0) 0 6 = σ 0 6 := up_n (by decide)
  have e1 : kp_up σ 0 0 (nI 0) 1 = σ 1 := up_c (by decide)
  have et : tsM (kp_up σ 0 0 (nI 0)) = tsM σ := by unfold tsM wM; simp (disch := decide) only [up_c, kp_up_eq, pk_us, pk_un]
  rw [e5]
  refine ⟨⟨_, _, _, rfl, trivial⟩, ?_⟩
  rintro x2 τ1 ⟨rfl, rfl⟩
  rw [bI_0, e6]
  refine ⟨fun h1 => ?_, fun h1 => ⟨h0, fun z => (by rw [h1] at z; cases z), fun _ => ⟨fm_0, rfl⟩⟩⟩
  have h1 : inR t (σ 0 5) (nI 1000000) = true := by simpa using h1
  refine ⟨⟨_, rfl, hL0, tyM_le h0.2.2.1 (by omega), by rw [et]; omega⟩, ?_⟩
  rintro τ3 ⟨k1, k2, k3⟩
  rw [em, e1, e3, et] at k3
  have hf : fm [8, 9, 10] [0, 6, 7, 21] σ τ3 := fm_tr (fm_mono fm_0 (by decide) (by decide)) (fm_mono k1 (by decide) (by decide))
  exact ⟨InvM_ty hp (fm_mono hf (by decide) (by decide)) (tyM_le k2 (by omega)), fun _ => ⟨hf, k3, rfl⟩, fun z => absurd h1 z⟩
