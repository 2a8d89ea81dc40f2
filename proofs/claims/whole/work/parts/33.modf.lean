/-! the model's fights -/
def frI (σ τ : Sg) (c k : Nat) (g : Nat → Int32) (f : Nat) : Prop := fm [18] [30] σ τ ∧ τ 0 30 = nI f ∧ f ≤ k ∧ srtA g f ∧ ∀ v, (∃ j, j < f ∧ tn (g j) = v) ↔ (∃ j, j < k ∧ tn (σ 3 j) = v ∧ mean (σ 1) (mM σ) v 12 c ≠ -1)
def pr_X10_findRows : SPre := fun As σ => ∃ ctx : Int32, As = [.ref 0, .int ctx] ∧ (LM σ ∧ ∃ c : Nat, ctx = nI c ∧ c < tn (σ 0 2))
def po_X10_findRows : SPost := fun As σ r τ => match As with
  | [.ref _, .int ctx] => (fm [18] [30] σ τ ∧ ∃ f : Nat, τ 0 30 = nI f ∧ f ≤ 120 ∧ isRows (τ 18) f (σ 1) (mM σ) (tn ctx))
  | _ => True
def ms_X10_findRows : List Me := [(108, 0, 9, 2, true, pr_X10_meaning, po_X10_meaning)]
theorem mk_X10_findRows : ∀ q ∈ ms_X10_findRows, kp_okM layM RX10 3 q := List.forall_mem_cons.mpr ⟨Or.inl ⟨2, yX10_meaning, cX10_meaning, 5, (some .int), c_X10_meaning, by omega, by decide, rfl, lk_X10_108⟩, fun _ h => absurd h List.not_mem_nil⟩
set_option maxRecDepth 100000 in
theorem v_X10_findRows {J : Nat → Lcl → List Value → Sg → Prop} {Q : Int32 → Sg → Prop} (ctx : Int32) (σ : Sg) (h : J 7 [some (.ref 0), some (.int ctx), some (.int (nI 0)), none, none] [] (kp_up σ 0 30 (nI 0))) : kp_T layM gl_X10 pl_X10 (ms_X10_findRows) tb_X10_findRows (kp_rk none) J Q 90 tb_X10_findRows (kp_en [.ref 0, .int ctx] 5) [] σ := h
set_option maxRecDepth 100000 in
theorem v_X10_findRows_7 {J : Nat → Lcl → List Value → Sg → Prop} {Q : Int32 → Sg → Prop} (ctx k : Int32) (o3 o4 : Option Value) (σ : Sg) (h : (¬ k < (σ 0 8) → Q (nI 0) σ) ∧ (k < (σ 0 8) → vp_in k 120 ∧ (pr_X10_meaning [.ref 0, .int ctx, .int (σ 3 (k).toNatClampNeg)] σ ∧ ∀ (x2 : Int32) (τ1 : Sg), po_X10_meaning [.ref 0, .int ctx, .int (σ 3 (k).toNatClampNeg)] σ x2 τ1 → ((¬ x2 = (-1) → J 35 [some (.ref 0), some (.int ctx), some (.int k), some (.int (nI 0)), o4] [] τ1) ∧ (x2 = (-1) → J 7 [some (.ref 0), some (.int ctx), some (.int (k + nI 1)), o3, o4] [] τ1))))) : kp_T1 layM gl_X10 pl_X10 (ms_X10_findRows) tb_X10_findRows (kp_rk none) J Q 90 7 [some (.ref 0), some (.int ctx), some (.int k), o3, o4] [] σ := h
set_option maxRecDepth 100000 in
theorem v_X10_findRows_35 {J : Nat → Lcl → List Value → Sg → Prop} {Q : Int32 → Sg → Prop} (ctx k at1 : Int32) (o4 : Option Value) (σ : Sg) (h : (¬ at1 < (σ 0 30) → (¬ at1 < (σ 0 30) → J 96 [some (.ref 0), some (.int ctx), some (.int k), some (.int at1), some (.int (σ 0 30))] [] σ) ∧ (at1 < (σ 0 30) → vp_in at1 120 ∧ (vp_in k 120 ∧ ((¬ (σ 18 (at1).toNatClampNeg) = (σ 3 (k).toNatClampNeg) → J 96 [some (.ref 0), some (.int ctx), some (.int k), some (.int at1), some (.int (σ 0 30))] [] σ) ∧ ((σ 18 (at1).toNatClampNeg) = (σ 3 (k).toNatClampNeg) → J 7 [some (.ref 0), some (.int ctx), some (.int (k + nI 1)), some (.int at1), o4] [] σ))))) ∧ (at1 < (σ 0 30) → vp_in at1 120 ∧ (vp_in k 120 ∧ ((¬ (σ 18 (at1).toNatClampNeg) < (σ 3 (k).toNatClampNeg) → (¬ at1 < (σ 0 30) → J 96 [some (.ref 0), some (.int ctx), some (.int k), some (.int at1), some (.int (σ 0 30))] [] σ) ∧ (at1 < (σ 0 30) → vp_in at1 120 ∧ (vp_in k 120 ∧ ((¬ (σ 18 (at1).toNatClampNeg) = (σ 3 (k).toNatClampNeg) → J 96 [some (.ref 0), some (.int ctx), some (.int k), some (.int at1), some (.int (σ 0 30))] [] σ) ∧ ((σ 18 (at1).toNatClampNeg) = (σ 3 (k).toNatClampNeg) → J 7 [some (.ref 0), some (.int ctx), some (.int (k + nI 1)), some (.int at1), o4] [] σ))))) ∧ ((σ 18 (at1).toNatClampNeg) < (σ 3 (k).toNatClampNeg) → J 35 [some (.ref 0), some (.int ctx), some (.int k), some (.int (at1 + nI 1)), o4] [] σ))))) : kp_T1 layM gl_X10 pl_X10 (ms_X10_findRows) tb_X10_findRows (kp_rk none) J Q 90 35 [some (.ref 0), some (.int ctx), some (.int k), some (.int at1), o4] [] σ := h
set_option maxRecDepth 100000 in
theorem v_X10_findRows_96 {J : Nat → Lcl → List Value → Sg → Prop} {Q : Int32 → Sg → Prop} (ctx k at1 i : Int32) (σ : Sg) (h : (¬ at1 < i → vp_in k 120 ∧ (vp_in at1 120 ∧ (J 7 [some (.ref 0), some (.int ctx), some (.int (k + nI 1)), some (.int at1), some (.int i)] [] (kp_up (kp_up σ 18 (at1).toNatClampNeg (σ 3 (k).toNatClampNeg)) 0 30 (((kp_up σ 18 (at1).toNatClampNeg (σ 3 (k).toNatClampNeg)) 0 30) + (nI 1)))))) ∧ (at1 < i → vp_in (i - (nI 1)) 120 ∧ (vp_in i 120 ∧ (J 96 [some (.ref 0), some (.int ctx), some (.int k), some (.int at1), some (.int (i + (-1)))] [] (kp_up σ 18 (i).toNatClampNeg (σ 18 (i - (nI 1)).toNatClampNeg)))))) : kp_T1 layM gl_X10 pl_X10 (ms_X10_findRows) tb_X10_findRows (kp_rk none) J Q 90 96 [some (.ref 0), some (.int ctx), some (.int k), some (.int at1), some (.int i)] [] σ := h
abbrev iv_X10_findRows : List Value → Sg → Nat → Nat → Lcl → List Value → Sg → Prop := fun As σ n pc ls st τ => st = [] ∧ ∃ (c z k f : Nat) (g : Nat → Int32), As = [.ref 0, .int (nI c)] ∧ c < tn (σ 0 2) ∧ σ 0 8 = nI z ∧ z ≤ 120 ∧ k ≤ z ∧ frI σ τ c k g f ∧ ((pc = 7 ∧ n = 1000 * (z - k) + 999 ∧ τ 18 = g ∧ ∃ o3 o4 : Option Value, ls = [some (.ref 0), some (.int (nI c)), some (.int (nI k)), o3, o4]) ∨ (k < z ∧ mean (σ 1) (mM σ) (tn (σ 3 k)) 12 c ≠ -1 ∧ ∃ p : Nat, p ≤ f ∧ (∀ i, i < p → tn (g i) < tn (σ 3 k)) ∧ ((pc = 35 ∧ n = 1000 * (z - k) + 500 + (f - p) ∧ τ 18 = g ∧ ∃ o4 : Option Value, ls = [some (.ref 0), some (.int (nI c)), some (.int (nI k)), some (.int (nI p)), o4]) ∨ (pc = 96 ∧ (∀ i, p ≤ i → i < f → tn (σ 3 k) < tn (g i)) ∧ ∃ i : Nat, p ≤ i ∧ i ≤ f ∧ n = 1000 * (z - k) + i ∧ τ 18 = shU g i f ∧ ls = [some (.ref 0), some (.int (nI c)), some (.int (nI k)), some (.int (nI p)), some (.int (nI i))]))))
set_option maxRecDepth 100000 in
set_option maxHeartbeats 4000000 in
theorem c_X10_findRows : kp_Met layM 3 yX10_findRows cX10_findRows 5 none (pr_X10_findRows) (po_X10_findRows) := by
  refine kp_met (N := 90) (by decide) tk_X10_findRows gk_X10 pk_X10 (mk_X10_findRows) rfl (iv_X10_findRows) ?_ ?_
  · rintro As σ ⟨ctx, rfl, hp⟩
    refine ⟨⟨rfl, Nat.le_of_ble_eq_true rfl⟩, v_X10_findRows ctx σ ?_⟩
    obtain ⟨hL, c, rfl, hc⟩ := hp
    obtain ⟨z, hz, hz1, -, -⟩ := id hL.2
    refine ⟨1000 * (z - 0) + 999, rfl, c, z, 0, 0, _, rfl, hc, hz, hz1, Nat.zero_le _, ⟨fm_up0 fm_rf (by decide), up_s, Nat.le_refl _, ⟨fun i hi => by omega, fun i j _ hj => by omega⟩, fun v => ⟨fun ⟨j, hj, _⟩ => by omega, fun ⟨j, hj, _⟩ => by omega⟩⟩, Or.inl ⟨rfl, rfl, rfl, none, none, rfl⟩⟩
  · rintro As σ ⟨ctx, rfl, hp⟩ n pc ls st τ hI
    obtain ⟨hL, -⟩ := hp
    obtain ⟨rfl, c, z, k, f, g, hAs, hcn, hz, hz1, hk, hfr, hI⟩ := hI
    cases hAs
    obtain ⟨hfm, h30, hfk, hsr, hmem⟩ := id hfr
    obtain ⟨z', hz', hz2, h2, h3⟩ := id hL.2
    have : z' = z := (nI_eq (by omega) (by omega)).mp (hz'.symm.trans hz)
    subst this
    have := tn_lt (σ 0 2)
    have ec : tn (nI c) = c := tn_nI (by omega)
    have q8 : τ 0 8 = σ 0 8 := hfm.2 8 (by decide)
    have q3 : τ 3 = σ 3 := hfm.1 3 (by decide) (by decide)
    obtain ⟨hLt, em⟩ := LM_fm hL hfm (by decide) (by decide)
    have e1 : τ 1 = σ 1 := hfm.1 1 (by decide) (by decide)
    have e02 : τ 0 2 = σ 0 2 := hfm.2 2 (by decide)
    rcases hI with ⟨rfl, rfl, e18, o3, o4, rfl⟩ | ⟨hkz, hmn, p, hpf, hlo, hI⟩
    · refine v_X10_findRows_7 _ _ o3 o4 τ ?_
      rw [q8, hz, nI_ltI (by omega) (by omega), q3, nI_clamp (show k < 2 ^ 31 by omega), nI_add]
      refine ⟨fun g1 => ⟨hfm, f, h30, by omega, by rw [e18]; exact hsr, fun v => ?_⟩, fun g1 => ?_⟩
      · rw [e18, ec, hmem v]
        constructor
        · rintro ⟨j, hj, e, hm⟩
          exact ⟨by rw [← e]; exact rowOK_lt (h2 j (by omega)).2.2.2.1, hm⟩
        · rintro ⟨hv, hm⟩
          obtain ⟨j, hj, e⟩ := row_inM hz hz1 hL.2 hv hm
          exact ⟨j, by omega, e, hm⟩
      · obtain ⟨a1, a2, a3, a4, -⟩ := h2 k g1
        refine ⟨(kp_in (by omega)).mpr (by omega), ⟨_, _, rfl, hLt, c, tn (σ 3 k), rfl, by rw [e02]; exact hcn, a3, rowOK_lt a4⟩, ?_⟩
        rintro x2 τ1 ⟨rfl, rfl⟩
        rw [ec, em, e1]
        refine ⟨fun g2 => ⟨1000 * (z' - k) + 500 + (f - 0), by omega, rfl, c, z', k, f, g, rfl, hcn, hz, hz1, hk, hfr, Or.inr ⟨g1, g2, 0, Nat.zero_le _, fun i hi => by omega, Or.inl ⟨rfl, rfl, e18, _, rfl⟩⟩⟩, fun g2 => ⟨1000 * (z' - (k + 1)) + 999, by omega, rfl, c, z', k + 1, f, g, rfl, hcn, hz, hz1, by omega, ⟨hfm, h30, by omega, hsr, fun v => ?_⟩, Or.inl ⟨rfl, rfl, e18, _, _, rfl⟩⟩⟩
        rw [hmem v]
        constructor
        · rintro ⟨j, hj, e, hm⟩
          exact ⟨j, by omega, e, hm⟩
        · rintro ⟨j, hj, e, hm⟩
          by_cases ej : j = k
          · subst ej; rw [← e] at hm; exact absurd g2 hm
          · exact ⟨j, by omega, e, hm⟩
    · obtain ⟨a1, a2, a3, a4, -⟩ := h2 k hkz
      have hr31 : tn (σ 3 k) < 2 ^ 31 := tn_lt _
      have hink : vp_in (nI k) 120 := (kp_in (by omega)).mpr (by omega)
      rcases hI with ⟨rfl, rfl, e18, o4, rfl⟩ | ⟨rfl, hhi, i, hpi, hif, rfl, e18, rfl⟩
      · have ep : (nI p).toNatClampNeg = p := nI_clamp (by omega)
        refine v_X10_findRows_35 _ _ _ o4 τ ?_
        rw [h30, nI_ltI (by omega) (by omega), q3, nI_clamp (show k < 2 ^ 31 by omega), ep, e18, show nI k + nI 1 = nI (k + 1) from nI_add _ _, show nI p + nI 1 = nI (p + 1) from nI_add _ _]
        have hins : (∀ i, p ≤ i → i < f → tn (σ 3 k) < tn (g i)) → ∃ n', n' < 1000 * (z' - k) + 500 + (f - p) ∧ iv_X10_findRows [.ref 0, .int (nI c)] σ n' 96 [some (.ref 0), some (.int (nI c)), some (.int (nI k)), some (.int (nI p)), some (.int (nI f))] [] τ := fun h => ⟨1000 * (z' - k) + f, by omega, rfl, c, z', k, f, g, rfl, hcn, hz, hz1, hk, hfr, Or.inr ⟨hkz, hmn, p, hpf, hlo, Or.inr ⟨rfl, h, f, hpf, Nat.le_refl _, rfl, by rw [e18, shU_0], rfl⟩⟩⟩
        have hdup : p < f → g p = σ 3 k → ∀ o3 o4, ∃ n', n' < 1000 * (z' - k) + 500 + (f - p) ∧ iv_X10_findRows [.ref 0, .int (nI c)] σ n' 7 [some (.ref 0), some (.int (nI c)), some (.int (nI (k + 1))), o3, o4] [] τ := fun h1 h2 o3 o4 => ⟨1000 * (z' - (k + 1)) + 999, by omega, rfl, c, z', k + 1, f, g, rfl, hcn, hz, hz1, by omega, ⟨hfm, h30, by omega, hsr, fun v => by
          rw [hmem v]
          constructor
          · rintro ⟨j, hj, e, hm⟩
            exact ⟨j, by omega, e, hm⟩
          · rintro ⟨j, hj, e, hm⟩
            by_cases ej : j = k
            · subst ej
              obtain ⟨j', hj', e', hm'⟩ := (hmem (tn (g p))).mp ⟨p, h1, rfl⟩
              exact ⟨j', hj', by rw [e', h2, e], hm⟩
            · exact ⟨j, by omega, e, hm⟩⟩, Or.inl ⟨rfl, rfl, e18, o3, o4, rfl⟩⟩
        have hin : p < f → vp_in (nI p) 120 := fun h => (kp_in (by omega)).mpr (by omega)
        refine ⟨fun q1 => ⟨fun _ => hins (fun i h1 h2 => by omega), fun h => absurd h q1⟩, fun q1 => ⟨hin q1, hink, ?_⟩⟩
        have eg := hsr.1 p q1
        have hlt : g p < σ 3 k ↔ tn (g p) < tn (σ 3 k) := by rw [show (g p < σ 3 k) = (nI (tn (g p)) < nI (tn (σ 3 k))) by rw [← eg, ← a3], nI_ltI (tn_lt _) (tn_lt _)]
        have heq : g p = σ 3 k ↔ tn (g p) = tn (σ 3 k) := by rw [show (g p = σ 3 k) = (nI (tn (g p)) = nI (tn (σ 3 k))) by rw [← eg, ← a3], nI_eq (tn_lt _) (tn_lt _)]
        refine ⟨fun q2 => ⟨fun h => absurd q1 h, fun _ => ⟨hin q1, hink, fun q3 => hins (fun i h1 h2 => ?_), fun q3 => hdup q1 q3 _ _⟩⟩, fun q2 => ⟨1000 * (z' - k) + 500 + (f - (p + 1)), by omega, rfl, c, z', k, f, g, rfl, hcn, hz, hz1, hk, hfr, Or.inr ⟨hkz, hmn, p + 1, by omega, fun i hi => ?_, Or.inl ⟨rfl, rfl, e18, _, rfl⟩⟩⟩⟩
        · rw [hlt] at q2
          rw [heq] at q3
          by_cases e : i = p
          · rw [e]; omega
          · have := hsr.2 p i (by omega) h2; omega
        · by_cases e : i = p
          · rw [e]; exact hlt.mp q2
          · exact hlo i (by omega)
      · have ep : (nI p).toNatClampNeg = p := nI_clamp (by omega)
        have ei : (nI i).toNatClampNeg = i := nI_clamp (by omega)
        refine v_X10_findRows_96 _ _ _ _ τ ?_
        rw [nI_ltI (by omega) (by omega), q3, nI_clamp (show k < 2 ^ 31 by omega), ep, ei, show nI k + nI 1 = nI (k + 1) from nI_add _ _]
        refine ⟨fun q1 => ⟨hink, (kp_in (by omega)).mpr (by omega), ?_⟩, fun q1 => ?_⟩
        · have : i = p := by omega
          subst this
          have e30 : kp_up τ 18 i (σ 3 k) 0 30 = nI f := by rw [up_c (by decide)]; exact h30
          obtain ⟨g1, g2⟩ := srtA_ins hsr hif hr31 hlo hhi
          rw [e30, nI_add]
          refine ⟨1000 * (z' - (k + 1)) + 999, by omega, rfl, c, z', k + 1, f + 1, upd (shU g i f) i (nI (tn (σ 3 k))), rfl, hcn, hz, hz1, by omega, ⟨fm_up0 (fm_up hfm (by decide) (by decide)) (by decide), up_s, by omega, g1, fun v => ?_⟩, Or.inl ⟨rfl, rfl, ?_, _, _, rfl⟩⟩
          · rw [g2 v, hmem v]
            constructor
            · rintro (⟨j, hj, e, hm⟩ | e)
              · exact ⟨j, by omega, e, hm⟩
              · exact ⟨k, by omega, e.symm, by rw [e]; exact hmn⟩
            · rintro ⟨j, hj, e, hm⟩
              by_cases ej : j = k
              · subst ej; exact Or.inr e.symm
              · exact Or.inl ⟨j, by omega, e, hm⟩
          · simp (disch := decide) only [up_c, kp_up_eq, pk_us, pk_un]
            rw [e18, ← a3]
        · rw [pk_sub (show 1 ≤ i by omega), nI_clamp (show i - 1 < 2 ^ 31 by omega)]
          refine ⟨(kp_in (by omega)).mpr (by omega), (kp_in (by omega)).mpr (by omega), 1000 * (z' - k) + (i - 1), by omega, rfl, c, z', k, f, g, rfl, hcn, hz, hz1, hk, ⟨fm_up hfm (by decide) (by decide), by rw [up_c (by decide)]; exact h30, hfk, hsr, hmem⟩, Or.inr ⟨hkz, hmn, p, hpf, hlo, Or.inr ⟨rfl, hhi, i - 1, by omega, by omega, rfl, ?_, ?_⟩⟩⟩
          · rw [kp_up_eq, e18]; exact shU_s (by omega) hif
          · rw [show nI i + (-1) = nI (i - 1) by obtain ⟨q, rfl⟩ : ∃ q, i = q + 1 := ⟨i - 1, by omega⟩; exact pk_m1 q]
theorem fIn_pre {G : Nat → Nat} {a m : Nat} : ∀ d, ∃ r, fIn G a (m + d) = fIn G a m ++ r
  | 0 => ⟨[], by rw [List.append_nil]; rfl⟩
  | d + 1 => by
    obtain ⟨r, h⟩ := fIn_pre (G := G) (a := a) (m := m) d
    exact ⟨r ++ _, by rw [← Nat.add_assoc, fIn, h, List.append_assoc]⟩
theorem fOut_pre {G : Nat → Nat} {f a : Nat} : ∀ d, ∃ r, fOut G f (a + d) = fOut G f a ++ r
  | 0 => ⟨[], by rw [List.append_nil]; rfl⟩
  | d + 1 => by
    obtain ⟨r, h⟩ := fOut_pre (G := G) (f := f) (a := a) d
    exact ⟨r ++ _, by rw [← Nat.add_assoc, fOut, h, List.append_assoc]⟩
theorem FL_pre {G : Nat → Nat} {f a b : Nat} (ha : a < f) (hb : b ≤ f) : ∃ r, FL G f = fOut G f a ++ fIn G a b ++ r := by
  obtain ⟨r1, h1⟩ := fOut_pre (G := G) (f := f) (a := a + 1) (f - (a + 1))
  obtain ⟨r2, h2⟩ := fIn_pre (G := G) (a := a) (m := b) (f - b)
  refine ⟨r2 ++ r1, ?_⟩
  unfold FL
  rw [show a + 1 + (f - (a + 1)) = f by omega] at h1
  rw [show b + (f - b) = f by omega] at h2
  rw [h1, fOut, h2]; simp only [List.append_assoc]
theorem rows_okM {σ : Sg} {g : Nat → Int32} {f c : Nat} (hb : mOK (σ 2) (σ 3) (σ 4) (σ 0 8)) (h : isRows g f (σ 1) (mM σ) c) : ∀ i, i < f → rowOK (tn (g i)) = true := by
  intro i hi
  obtain ⟨h1, h2⟩ := (h.2 _).mp ⟨i, hi, rfl⟩
  obtain ⟨c', h3, -⟩ := mean_in _ _ h2
  rcases mpM_val hb (c' * 16777216 + tn (g i)) with e | ⟨e, -⟩
  · exact absurd e h3
  · have := e.2
    rwa [(key_div h1).2] at this
def pr_X10_fightOf : SPre := fun As σ => ∃ ctx : Int32, ∃ i : Int32, ∃ w : Int32, As = [.ref 0, .int ctx, .int i, .int w] ∧ (LM σ ∧ ∃ c : Nat, ctx = nI c ∧ c < tn (σ 0 2))
def po_X10_fightOf : SPost := fun As σ r τ => match As with
  | [.ref _, .int ctx, .int i, .int w] => (fm [18] [30] σ τ ∧ ∃ (g : Nat → Int32) (f : Nat), isRows g f (σ 1) (mM σ) (tn ctx) ∧ r = (if i < nI 0 then nI (FL (fun i => tn (g i)) f).length else ftA (FL (fun i => tn (g i)) f) i w))
  | _ => True
def ms_X10_fightOf : List Me := [(118, 0, 9, 1, false, pr_X10_findRows, po_X10_findRows), (122, 1, 9, 2, true, pr_X10_begins, po_X10_begins)]
theorem mk_X10_fightOf : ∀ q ∈ ms_X10_fightOf, kp_okM layM RX10 4 q := List.forall_mem_cons.mpr ⟨Or.inl ⟨3, yX10_findRows, cX10_findRows, 5, none, c_X10_findRows, by omega, by decide, rfl, lk_X10_118⟩, List.forall_mem_cons.mpr ⟨Or.inl ⟨2, yX10_begins, cX10_begins, 2, (some .boolean), c_X10_begins, by omega, by decide, rfl, lk_X10_122⟩, fun _ h => absurd h List.not_mem_nil⟩⟩
set_option maxRecDepth 100000 in
theorem v_X10_fightOf {J : Nat → Lcl → List Value → Sg → Prop} {Q : Int32 → Sg → Prop} (ctx i w : Int32) (σ : Sg) (h : pr_X10_findRows [.ref 0, .int ctx] σ ∧ ∀ (τ1 : Sg), po_X10_findRows [.ref 0, .int ctx] σ (nI 0) τ1 → (J 11 [some (.ref 0), some (.int ctx), some (.int i), some (.int w), some (.int (nI 0)), some (.int (nI 0)), none] [] τ1)) : kp_T layM gl_X10 pl_X10 (ms_X10_fightOf) tb_X10_fightOf (kp_rk (some .int)) J Q 64 tb_X10_fightOf (kp_en [.ref 0, .int ctx, .int i, .int w] 7) [] σ := h
set_option maxRecDepth 100000 in
theorem v_X10_fightOf_11 {J : Nat → Lcl → List Value → Sg → Prop} {Q : Int32 → Sg → Prop} (ctx i w n1 a : Int32) (o6 : Option Value) (σ : Sg) (h : (¬ a < (σ 0 30) → (¬ i < (nI 0) → Q (-1) σ) ∧ (i < (nI 0) → Q n1 σ)) ∧ (a < (σ 0 30) → J 23 [some (.ref 0), some (.int ctx), some (.int i), some (.int w), some (.int n1), some (.int a), some (.int (nI 0))] [] σ)) : kp_T1 layM gl_X10 pl_X10 (ms_X10_fightOf) tb_X10_fightOf (kp_rk (some .int)) J Q 64 11 [some (.ref 0), some (.int ctx), some (.int i), some (.int w), some (.int n1), some (.int a), o6] [] σ := h
set_option maxRecDepth 100000 in
theorem v_X10_fightOf_23 {J : Nat → Lcl → List Value → Sg → Prop} {Q : Int32 → Sg → Prop} (ctx i w n1 a b : Int32) (σ : Sg) (h : (¬ b < (σ 0 30) → J 11 [some (.ref 0), some (.int ctx), some (.int i), some (.int w), some (.int n1), some (.int (a + nI 1)), some (.int b)] [] σ) ∧ (b < (σ 0 30) → vp_in a 120 ∧ (vp_in b 120 ∧ (pr_X10_begins [.int (σ 18 (a).toNatClampNeg), .int (σ 18 (b).toNatClampNeg)] σ ∧ ∀ (x2 : Int32) (τ1 : Sg), po_X10_begins [.int (σ 18 (a).toNatClampNeg), .int (σ 18 (b).toNatClampNeg)] σ x2 τ1 → ((¬ x2 = (nI 0) → (¬ n1 = i → J 23 [some (.ref 0), some (.int ctx), some (.int i), some (.int w), some (.int (n1 + nI 1)), some (.int a), some (.int (b + nI 1))] [] τ1) ∧ (n1 = i → (¬ w = (nI 0) → (¬ w = (nI 1) → Q (-1) τ1) ∧ (w = (nI 1) → vp_in b 120 ∧ (Q (τ1 18 (b).toNatClampNeg) τ1))) ∧ (w = (nI 0) → vp_in a 120 ∧ (Q (τ1 18 (a).toNatClampNeg) τ1)))) ∧ (x2 = (nI 0) → J 23 [some (.ref 0), some (.int ctx), some (.int i), some (.int w), some (.int n1), some (.int a), some (.int (b + nI 1))] [] τ1)))))) : kp_T1 layM gl_X10 pl_X10 (ms_X10_fightOf) tb_X10_fightOf (kp_rk (some .int)) J Q 64 23 [some (.ref 0), some (.int ctx), some (.int i), some (.int w), some (.int n1), some (.int a), some (.int b)] [] σ := h
abbrev iv_X10_fightOf : List Value → Sg → Nat → Nat → Lcl → List Value → Sg → Prop := fun As σ n pc ls st τ => st = [] ∧ ∃ (ctx i w : Int32) (f a : Nat), As = [.ref 0, .int ctx, .int i, .int w] ∧ fm [18] [30] σ τ ∧ τ 0 30 = nI f ∧ f ≤ 120 ∧ isRows (τ 18) f (σ 1) (mM σ) (tn ctx) ∧ ((pc = 11 ∧ a ≤ f ∧ n = 1000 * (f - a) + 999 ∧ (i < nI 0 ∨ (fOut (fun i => tn (τ 18 i)) f a).length ≤ tn i) ∧ ∃ o : Option Value, ls = [some (.ref 0), some (.int ctx), some (.int i), some (.int w), some (.int (nI (fOut (fun i => tn (τ 18 i)) f a).length)), some (.int (nI a)), o]) ∨ (pc = 23 ∧ a < f ∧ ∃ b : Nat, b ≤ f ∧ n = 1000 * (f - a) + (f - b) ∧ (i < nI 0 ∨ (fOut (fun i => tn (τ 18 i)) f a ++ fIn (fun i => tn (τ 18 i)) a b).length ≤ tn i) ∧ ls = [some (.ref 0), some (.int ctx), some (.int i), some (.int w), some (.int (nI (fOut (fun i => tn (τ 18 i)) f a ++ fIn (fun i => tn (τ 18 i)) a b).length)), some (.int (nI a)), some (.int (nI b))]))
set_option maxRecDepth 100000 in
set_option maxHeartbeats 4000000 in
theorem c_X10_fightOf : kp_Met layM 4 yX10_fightOf cX10_fightOf 7 (some .int) (pr_X10_fightOf) (po_X10_fightOf) := by
  refine kp_met (N := 64) (by decide) tk_X10_fightOf gk_X10 pk_X10 (mk_X10_fightOf) rfl (iv_X10_fightOf) ?_ ?_
  · rintro As σ ⟨ctx, i, w, rfl, hp⟩
    refine ⟨⟨rfl, Nat.le_of_ble_eq_true rfl⟩, v_X10_fightOf ctx i w σ ?_⟩
    refine ⟨⟨_, rfl, hp⟩, ?_⟩
    rintro τ1 ⟨h1, f, h2, h3, h4⟩
    exact ⟨1000 * (f - 0) + 999, rfl, ctx, i, w, f, 0, rfl, h1, h2, h3, h4, Or.inl ⟨rfl, Nat.zero_le _, rfl, Or.inr (Nat.zero_le _), none, rfl⟩⟩
  · rintro As σ ⟨ctx, i, w, rfl, hp⟩ n pc ls st τ hI
    obtain ⟨hL, -⟩ := hp
    obtain ⟨rfl, ctx', i', w', f, a, hAs, hfm, h30, hf, hrows, hI⟩ := hI
    cases hAs
    have hok := rows_okM hL.2 hrows
    have hsr := hrows.1.2
    have hQ : ∀ r, r = (if i < nI 0 then nI (FL (fun i => tn (τ 18 i)) f).length else ftA (FL (fun i => tn (τ 18 i)) f) i w) → po_X10_fightOf [.ref 0, .int ctx, .int i, .int w] σ r τ := fun r h => ⟨hfm, τ 18, f, hrows, h⟩
    rcases hI with ⟨rfl, haf, rfl, hfnd, o, rfl⟩ | ⟨rfl, haf, b, hbf, rfl, hfnd, rfl⟩
    · refine v_X10_fightOf_11 _ _ _ _ _ o τ ?_
      rw [h30, nI_ltI (by omega) (by omega)]
      refine ⟨fun g => ?_, fun g => ⟨1000 * (f - a) + (f - 0), by omega, rfl, ctx, i, w, f, a, rfl, hfm, h30, hf, hrows, Or.inr ⟨rfl, g, 0, Nat.zero_le _, rfl, ?_, ?_⟩⟩⟩
      · have : a = f := by omega
        subst this
        refine ⟨fun g2 => hQ _ ?_, fun g2 => hQ _ (by rw [if_pos g2]; rfl)⟩
        rw [if_neg g2]
        unfold ftA
        rw [if_neg g2, List.getElem?_eq_none (show (FL (fun i => tn (τ 18 i)) a).length ≤ tn i from hfnd.resolve_left g2)]
      · rw [show fIn (fun i => tn (τ 18 i)) a 0 = [] from rfl, List.append_nil]; exact hfnd
      · rw [show fIn (fun i => tn (τ 18 i)) a 0 = [] from rfl, List.append_nil]
    · have hlen : (fOut (fun i => tn (τ 18 i)) f a ++ fIn (fun i => tn (τ 18 i)) a b).length ≤ 240 := by
        obtain ⟨r, hr⟩ := FL_pre (G := fun i => tn (τ 18 i)) haf hbf
        have := fOut_le hok hsr f (Nat.le_refl _)
        have h2 : (FL (fun i => tn (τ 18 i)) f).length ≤ 2 * f := this
        rw [hr, List.length_append] at h2
        omega
      refine v_X10_fightOf_23 _ _ _ _ _ _ τ ?_
      have ea : (nI a).toNatClampNeg = a := nI_clamp (by omega)
      have eb : (nI b).toNatClampNeg = b := nI_clamp (by omega)
      rw [h30, nI_ltI (by omega) (by omega), ea, eb, show nI a + nI 1 = nI (a + 1) from nI_add _ _, show nI b + nI 1 = nI (b + 1) from nI_add _ _, show nI (fOut (fun i => tn (τ 18 i)) f a ++ fIn (fun i => tn (τ 18 i)) a b).length + nI 1 = nI ((fOut (fun i => tn (τ 18 i)) f a ++ fIn (fun i => tn (τ 18 i)) a b).length + 1) from nI_add _ _]
      have hina : vp_in (nI a) 120 := (kp_in (by omega)).mpr (by omega)
      refine ⟨fun g => ⟨1000 * (f - (a + 1)) + 999, by omega, rfl, ctx, i, w, f, a + 1, rfl, hfm, h30, hf, hrows, Or.inl ⟨rfl, by omega, rfl, ?_, some (.int (nI b)), ?_⟩⟩, fun g => ⟨hina, (kp_in (by omega)).mpr (by omega), ⟨_, _, rfl, tn (τ 18 a), tn (τ 18 b), hrows.1.1 a haf, tn_lt _, hrows.1.1 b g, tn_lt _⟩, ?_⟩⟩
      · rw [fOut, show f = b by omega]; rw [show f = b by omega] at hfnd; exact hfnd
      · rw [fOut, show f = b by omega]
      · rintro x2 τ1 ⟨rfl, rfl⟩
        rw [mlen_row (hok a haf), mlen_row (hok b g), bI_0]
        have hb : decide (rlen (tn (τ1 18 a)) < rlen (tn (τ1 18 b)) ∧ tn (τ1 18 b) % 256 ^ rlen (tn (τ1 18 a)) = tn (τ1 18 a)) = bgn (tn (τ1 18 a)) (tn (τ1 18 b)) := rfl
        rw [hb]
        refine ⟨fun g2 => ?_, fun g2 => ⟨1000 * (f - a) + (f - (b + 1)), by omega, rfl, ctx, i, w, f, a, rfl, hfm, h30, hf, hrows, Or.inr ⟨rfl, haf, b + 1, by omega, rfl, ?_, ?_⟩⟩⟩
        · have g2 : bgn (tn (τ1 18 a)) (tn (τ1 18 b)) = true := by simpa using g2
          have efn : fIn (fun i => tn (τ1 18 i)) a (b + 1) = fIn (fun i => tn (τ1 18 i)) a b ++ [(tn (τ1 18 a), tn (τ1 18 b))] := by rw [fIn, if_pos g2]
          obtain ⟨r, hr⟩ := FL_pre (G := fun i => tn (τ1 18 i)) (b := b + 1) haf (by omega)
          rw [efn] at hr
          have hget : (FL (fun i => tn (τ1 18 i)) f)[(fOut (fun i => tn (τ1 18 i)) f a ++ fIn (fun i => tn (τ1 18 i)) a b).length]? = some (tn (τ1 18 a), tn (τ1 18 b)) := by
            rw [hr, ← List.append_assoc, List.append_assoc, List.getElem?_append_right (Nat.le_refl _), Nat.sub_self]
            rfl
          refine ⟨fun g3 => ⟨1000 * (f - a) + (f - (b + 1)), by omega, rfl, ctx, i, w, f, a, rfl, hfm, h30, hf, hrows, Or.inr ⟨rfl, haf, b + 1, by omega, rfl, ?_, ?_⟩⟩, fun g3 => ?_⟩
          · by_cases hi : i < nI 0
            · exact Or.inl hi
            · refine Or.inr ?_
              have h1 := hfnd.resolve_left hi
              have h2 : (fOut (fun i => tn (τ1 18 i)) f a ++ fIn (fun i => tn (τ1 18 i)) a b).length ≠ tn i := fun e => g3 (by rw [e, nI_tn hi])
              rw [efn, ← List.append_assoc, List.length_append]
              simp only [List.length_cons, List.length_nil]
              omega
          · rw [efn, ← List.append_assoc, List.length_append (bs := [_])]
            simp only [List.length_cons, List.length_nil]
          · have hi : ¬ i < nI 0 := by rw [← g3, nI_ltI (by omega) (by omega)]; omega
            have eti : tn i = (fOut (fun i => tn (τ1 18 i)) f a ++ fIn (fun i => tn (τ1 18 i)) a b).length := by rw [← g3, tn_nI (by omega)]
            have hft : ftA (FL (fun i => tn (τ1 18 i)) f) i w = if w = nI 0 then nI (tn (τ1 18 a)) else if w = nI 1 then nI (tn (τ1 18 b)) else -1 := by
              unfold ftA
              rw [if_neg hi, eti, hget]
            refine ⟨fun w1 => ⟨fun w2 => hQ _ (by rw [if_neg hi, hft, if_neg w1, if_neg w2]), fun w2 => ⟨(kp_in (by omega)).mpr (by omega), hQ _ ?_⟩⟩, fun w1 => ⟨hina, hQ _ ?_⟩⟩
            · rw [if_neg hi, hft, if_neg w1, if_pos w2]; exact hrows.1.1 b g
            · rw [if_neg hi, hft, if_pos w1]; exact hrows.1.1 a haf
        · rw [fIn, if_neg (by rw [show bgn (tn (τ1 18 a)) (tn (τ1 18 b)) = false from g2]; decide), List.append_nil]; exact hfnd
        · rw [fIn, if_neg (by rw [show bgn (tn (τ1 18 a)) (tn (τ1 18 b)) = false from g2]; decide), List.append_nil]
def pr_X10_fight : SPre := fun As σ => ∃ c : Int32, ∃ i : Int32, ∃ w : Int32, As = [.ref 0, .int c, .int i, .int w] ∧ (InvM σ)
def po_X10_fight : SPost := fun As σ r τ => match As with
  | [.ref _, .int c, .int i, .int w] => (InvM τ ∧ fm [18] [0, 30] σ τ ∧ (isCx (σ 0 2) c = true → (i < nI 0 → r = -1) ∧ (¬ i < nI 0 → ∃ (g : Nat → Int32) (f : Nat), isRows g f (σ 1) (mM σ) (tn c) ∧ r = ftA (FL (fun i => tn (g i)) f) i w)) ∧ (¬ isCx (σ 0 2) c = true → r = -1))
  | _ => True
def ms_X10_fight : List Me := [(88, 0, 9, 1, true, pr_X10_isContext, po_X10_isContext), (126, 0, 9, 3, true, pr_X10_fightOf, po_X10_fightOf)]
theorem mk_X10_fight : ∀ q ∈ ms_X10_fight, kp_okM layM RX10 5 q := List.forall_mem_cons.mpr ⟨Or.inl ⟨0, yX10_isContext, cX10_isContext, 2, (some .boolean), c_X10_isContext, by omega, by decide, rfl, lk_X10_88⟩, List.forall_mem_cons.mpr ⟨Or.inl ⟨4, yX10_fightOf, cX10_fightOf, 7, (some .int), c_X10_fightOf, by omega, by decide, rfl, lk_X10_126⟩, fun _ h => absurd h List.not_mem_nil⟩⟩
set_option maxRecDepth 100000 in
theorem v_X10_fight {J : Nat → Lcl → List Value → Sg → Prop} {Q : Int32 → Sg → Prop} (c i w : Int32) (σ : Sg) (h : pr_X10_isContext [.ref 0, .int c] (kp_up σ 0 0 (nI 0)) ∧ ∀ (x2 : Int32) (τ1 : Sg), po_X10_isContext [.ref 0, .int c] (kp_up σ 0 0 (nI 0)) x2 τ1 → ((x2 = (nI 0) → Q (-1) τ1) ∧ (¬ x2 = (nI 0) → (i < (nI 0) → Q (-1) τ1) ∧ (¬ i < (nI 0) → pr_X10_fightOf [.ref 0, .int c, .int i, .int w] τ1 ∧ ∀ (x4 : Int32) (τ3 : Sg), po_X10_fightOf [.ref 0, .int c, .int i, .int w] τ1 x4 τ3 → (Q x4 τ3))))) : kp_T layM gl_X10 pl_X10 (ms_X10_fight) tb_X10_fight (kp_rk (some .int)) J Q 30 tb_X10_fight (kp_en [.ref 0, .int c, .int i, .int w] 4) [] σ := h
set_option maxRecDepth 100000 in
set_option maxHeartbeats 4000000 in
theorem c_X10_fight : kp_Met layM 5 yX10_fight cX10_fight 4 (some .int) (pr_X10_fight) (po_X10_fight) := by
  refine kp_met (N := 30) (by decide) tk_X10_fight gk_X10 pk_X10 (mk_X10_fight) rfl (fun _ _ _ _ _ _ _ => False) ?_ (fun _ _ _ _ _ _ _ _ h => h.elim)
  rintro As σ ⟨c, i, w, rfl, hp⟩
  refine ⟨⟨rfl, Nat.le_of_ble_eq_true rfl⟩, v_X10_fight c i w σ ?_⟩
  obtain ⟨hL, hk, hty, hco, has⟩ := id hp
  have h0 := InvM_0 hp
  obtain ⟨hL0, em⟩ := LM_fm hL fm_0 (by decide) (by decide)
  have e2 : kp_up σ 0 0 (nI 0) 0 2 = σ 0 2 := up_n (by decide)
  have e1 : kp_up σ 0 0 (nI 0) 1 = σ 1 := up_c (by decide)
  refine ⟨⟨_, rfl, trivial⟩, ?_⟩
  rintro x2 τ1 ⟨rfl, rfl⟩
  rw [e2, bI_0]
  refine ⟨fun h1 => ⟨h0, fm_mono fm_0 (by decide) (by decide), fun z => (by rw [h1] at z; cases z), fun _ => rfl⟩, fun h1 => ?_⟩
  have h1 : isCx (σ 0 2) c = true := by simpa using h1
  refine ⟨fun h2 => ⟨h0, fm_mono fm_0 (by decide) (by decide), fun _ => ⟨fun _ => rfl, fun z => absurd h2 z⟩, fun z => absurd h1 z⟩, fun h2 => ?_⟩
  obtain ⟨n, hn, n1, n2, -, -⟩ := hL.1
  have hcc : ∃ a, c = nI a ∧ a < tn (kp_up σ 0 0 (nI 0) 0 2) := by
    rw [e2, hn]
    rw [hn] at h1
    obtain ⟨a, ha, rfl⟩ := (isCx_iff (by omega)).mp h1
    exact ⟨a, rfl, by rw [tn_nI (by omega)]; exact ha⟩
  refine ⟨⟨_, _, _, rfl, hL0, hcc⟩, ?_⟩
  rintro x4 τ3 ⟨k1, g, f, k2, k3⟩
  rw [em, e1] at k2
  rw [if_neg h2] at k3
  have hf : fm [18] [0, 30] σ τ3 := fm_tr (fm_mono fm_0 (by decide) (by decide)) (fm_mono k1 (by decide) (by decide))
  exact ⟨InvM_fm hp hf (by decide) (by decide), hf, fun _ => ⟨fun z => absurd z h2, fun _ => ⟨g, f, k2, k3⟩⟩, fun z => absurd h1 z⟩
def pr_X10_fights : SPre := fun As σ => ∃ c : Int32, As = [.ref 0, .int c] ∧ (InvM σ)
def po_X10_fights : SPost := fun As σ r τ => match As with
  | [.ref _, .int c] => (InvM τ ∧ fm [18] [0, 30] σ τ ∧ (isCx (σ 0 2) c = true → ∃ (g : Nat → Int32) (f : Nat), isRows g f (σ 1) (mM σ) (tn c) ∧ r = nI (FL (fun i => tn (g i)) f).length) ∧ (¬ isCx (σ 0 2) c = true → r = -1))
  | _ => True
def ms_X10_fights : List Me := [(88, 0, 9, 1, true, pr_X10_isContext, po_X10_isContext), (126, 0, 9, 3, true, pr_X10_fightOf, po_X10_fightOf)]
theorem mk_X10_fights : ∀ q ∈ ms_X10_fights, kp_okM layM RX10 5 q := List.forall_mem_cons.mpr ⟨Or.inl ⟨0, yX10_isContext, cX10_isContext, 2, (some .boolean), c_X10_isContext, by omega, by decide, rfl, lk_X10_88⟩, List.forall_mem_cons.mpr ⟨Or.inl ⟨4, yX10_fightOf, cX10_fightOf, 7, (some .int), c_X10_fightOf, by omega, by decide, rfl, lk_X10_126⟩, fun _ h => absurd h List.not_mem_nil⟩⟩
set_option maxRecDepth 100000 in
theorem v_X10_fights {J : Nat → Lcl → List Value → Sg → Prop} {Q : Int32 → Sg → Prop} (c : Int32) (σ : Sg) (h : pr_X10_isContext [.ref 0, .int c] (kp_up σ 0 0 (nI 0)) ∧ ∀ (x2 : Int32) (τ1 : Sg), po_X10_isContext [.ref 0, .int c] (kp_up σ 0 0 (nI 0)) x2 τ1 → ((x2 = (nI 0) → Q (-1) τ1) ∧ (¬ x2 = (nI 0) → pr_X10_fightOf [.ref 0, .int c, .int (-1), .int (nI 0)] τ1 ∧ ∀ (x4 : Int32) (τ3 : Sg), po_X10_fightOf [.ref 0, .int c, .int (-1), .int (nI 0)] τ1 x4 τ3 → (Q x4 τ3)))) : kp_T layM gl_X10 pl_X10 (ms_X10_fights) tb_X10_fights (kp_rk (some .int)) J Q 30 tb_X10_fights (kp_en [.ref 0, .int c] 2) [] σ := h
set_option maxRecDepth 100000 in
set_option maxHeartbeats 4000000 in
theorem c_X10_fights : kp_Met layM 5 yX10_fights cX10_fights 2 (some .int) (pr_X10_fights) (po_X10_fights) := by
  refine kp_met (N := 30) (by decide) tk_X10_fights gk_X10 pk_X10 (mk_X10_fights) rfl (fun _ _ _ _ _ _ _ => False) ?_ (fun _ _ _ _ _ _ _ _ h => h.elim)
  rintro As σ ⟨c, rfl, hp⟩
  refine ⟨⟨rfl, Nat.le_of_ble_eq_true rfl⟩, v_X10_fights c σ ?_⟩
  obtain ⟨hL, hk, hty, hco, has⟩ := id hp
  have h0 := InvM_0 hp
  obtain ⟨hL0, em⟩ := LM_fm hL fm_0 (by decide) (by decide)
  have e2 : kp_up σ 0 0 (nI 0) 0 2 = σ 0 2 := up_n (by decide)
  have e1 : kp_up σ 0 0 (nI 0) 1 = σ 1 := up_c (by decide)
  refine ⟨⟨_, rfl, trivial⟩, ?_⟩
  rintro x2 τ1 ⟨rfl, rfl⟩
  rw [e2, bI_0]
  refine ⟨fun h1 => ⟨h0, fm_mono fm_0 (by decide) (by decide), fun z => (by rw [h1] at z; cases z), fun _ => rfl⟩, fun h1 => ?_⟩
  have h1 : isCx (σ 0 2) c = true := by simpa using h1
  obtain ⟨n, hn, n1, n2, -, -⟩ := hL.1
  have hcc : ∃ a, c = nI a ∧ a < tn (kp_up σ 0 0 (nI 0) 0 2) := by
    rw [e2, hn]
    rw [hn] at h1
    obtain ⟨a, ha, rfl⟩ := (isCx_iff (by omega)).mp h1
    exact ⟨a, rfl, by rw [tn_nI (by omega)]; exact ha⟩
  refine ⟨⟨_, _, _, rfl, hL0, hcc⟩, ?_⟩
  rintro x4 τ3 ⟨k1, g, f, k2, k3⟩
  rw [em, e1] at k2
  rw [if_pos (by decide)] at k3
  have hf : fm [18] [0, 30] σ τ3 := fm_tr (fm_mono fm_0 (by decide) (by decide)) (fm_mono k1 (by decide) (by decide))
  exact ⟨InvM_fm hp hf (by decide) (by decide), hf, fun _ => ⟨g, f, k2, k3⟩, fun z => absurd h1 z⟩
