/-! what is to be learnt, as the model finds it -/
noncomputable def svG (st us M : Nat → Int32) (c : Nat) : Nat := @dite Nat (∃ v, isSv st us M c v) (Classical.propDecidable _) (fun h => Classical.choose h) (fun _ => 0)
theorem svG_eq {st us M : Nat → Int32} {c v : Nat} (h : isSv st us M c v) : svG st us M c = v := by
  unfold svG
  rw [dif_pos ⟨v, h⟩]
  exact isSv_uniq (Classical.choose_spec (⟨v, h⟩ : ∃ v, isSv st us M c v)) h
theorem sv_from {σ : Sg} {z c v : Nat} (hm : mOK (σ 2) (σ 3) (σ 4) (σ 0 8)) (hz : σ 0 8 = nI z) (hz1 : z ≤ 120) (h1 : ∀ j, j < z → σ 4 j = nI c → tn (σ 12 c) * (30 - rst (σ 11) (tn (σ 3 j))) ≤ v) (h2 : v = 0 ∨ ∃ j, j < z ∧ σ 4 j = nI c ∧ v = tn (σ 12 c) * (30 - rst (σ 11) (tn (σ 3 j)))) (hc : c < 2 ^ 31) : isSv (σ 11) (σ 12) (mM σ) c v := by
  obtain ⟨z', hz', hz2, g2, g3⟩ := id hm
  have : z' = z := (nI_eq (by omega) (by omega)).mp (hz'.symm.trans hz)
  subst this
  have ez : tn (σ 0 8) = z' := by rw [hz, tn_nI (by omega)]
  have esv : ∀ j, j < z' → svk (σ 11) (σ 12) c (eK (σ 2) (σ 3) j) = tn (σ 12 c) * (30 - rst (σ 11) (tn (σ 3 j))) := fun j hj => by
    unfold svk
    rw [show eK (σ 2) (σ 3) j % 16777216 = tn (σ 3 j) from (key_div (rowOK_lt (g2 j hj).2.2.2.1)).2]
  have hMd : ∀ k, mM σ k = lk (eK (σ 2) (σ 3)) (σ 4) z' k := fun k => by show lk _ _ (tn (σ 0 8)) k = _; rw [ez]
  refine ⟨fun k hk => ?_, ?_⟩
  · rw [hMd] at hk
    obtain ⟨j, hj, e⟩ := lk_some (show lk (eK (σ 2) (σ 3)) (σ 4) z' k ≠ -1 by rw [hk]; exact nI_m1 hc)
    rw [← e, lk_at (ks := eK (σ 2) (σ 3)) g3 hj] at hk
    rw [← e, esv j hj]
    exact h1 j hj hk
  · rcases h2 with h | ⟨j, hj, e1, e2⟩
    · exact Or.inl h
    · exact Or.inr ⟨eK (σ 2) (σ 3) j, by rw [hMd, lk_at (ks := eK (σ 2) (σ 3)) g3 hj]; exact e1, by rw [esv j hj]; exact e2⟩
def pr_X10_savedBy : SPre := fun As σ => ∃ c : Int32, As = [.ref 0, .int c] ∧ (LM σ ∧ cstM σ ∧ ∃ x : Nat, c = nI x ∧ x < 40)
def po_X10_savedBy : SPost := fun As σ r τ => match As with
  | [.ref _, .int c] => (τ = σ ∧ ∃ v : Nat, v ≤ 30000 ∧ isSv (σ 11) (σ 12) (mM σ) (tn c) v ∧ r = nI v)
  | _ => True
def ms_X10_savedBy : List Me := [(111, 1, 9, 1, true, pr_X10_length, po_X10_length), (80, 1, 9, 2, true, pr_X10_stroke, po_X10_stroke), (215, 1, 0, 2, true, pr_J9_max_7cf53, po_J9_max_7cf53)]
theorem mk_X10_savedBy : ∀ q ∈ ms_X10_savedBy, kp_okM layM RX10 2 q := List.forall_mem_cons.mpr ⟨Or.inl ⟨1, yX10_length, cX10_length, 1, (some .int), c_X10_length, by omega, by decide, rfl, lk_X10_111⟩, List.forall_mem_cons.mpr ⟨Or.inl ⟨0, yX10_stroke, cX10_stroke, 2, (some .int), c_X10_stroke, by omega, by decide, rfl, lk_X10_80⟩, List.forall_mem_cons.mpr ⟨kp_okX_max (by omega) lk_X10_215, fun _ h => absurd h List.not_mem_nil⟩⟩⟩
set_option maxRecDepth 100000 in
theorem v_X10_savedBy {J : Nat → Lcl → List Value → Sg → Prop} {Q : Int32 → Sg → Prop} (c : Int32) (σ : Sg) (h : J 4 [some (.ref 0), some (.int c), some (.int (-1)), some (.int (nI 0)), none, none] [] σ) : kp_T layM gl_X10 pl_X10 (ms_X10_savedBy) tb_X10_savedBy (kp_rk (some .int)) J Q 71 tb_X10_savedBy (kp_en [.ref 0, .int c] 6) [] σ := h
set_option maxRecDepth 100000 in
theorem v_X10_savedBy_4 {J : Nat → Lcl → List Value → Sg → Prop} {Q : Int32 → Sg → Prop} (c least k : Int32) (o4 o5 : Option Value) (σ : Sg) (h : (¬ k < (σ 0 8) → (¬ least = (-1) → vp_in c 40 ∧ (pr_J9_max_7cf53 [.int (nI 0), .int ((σ 12 (c).toNatClampNeg) * ((nI 30) - least))] σ ∧ ∀ (x2 : Int32) (τ1 : Sg), po_J9_max_7cf53 [.int (nI 0), .int ((σ 12 (c).toNatClampNeg) * ((nI 30) - least))] σ x2 τ1 → (Q x2 τ1))) ∧ (least = (-1) → Q (nI 0) σ)) ∧ (k < (σ 0 8) → vp_in k 120 ∧ (((σ 4 (k).toNatClampNeg) = c → J 31 [some (.ref 0), some (.int c), some (.int least), some (.int k), some (.int (nI 0)), some (.int (nI 0))] [] σ) ∧ (¬ (σ 4 (k).toNatClampNeg) = c → J 4 [some (.ref 0), some (.int c), some (.int least), some (.int (k + nI 1)), o4, o5] [] σ)))) : kp_T1 layM gl_X10 pl_X10 (ms_X10_savedBy) tb_X10_savedBy (kp_rk (some .int)) J Q 71 4 [some (.ref 0), some (.int c), some (.int least), some (.int k), o4, o5] [] σ := h
set_option maxRecDepth 100000 in
theorem v_X10_savedBy_31 {J : Nat → Lcl → List Value → Sg → Prop} {Q : Int32 → Sg → Prop} (c least k sum i : Int32) (σ : Sg) (h : vp_in k 120 ∧ (pr_X10_length [.int (σ 3 (k).toNatClampNeg)] σ ∧ ∀ (x2 : Int32) (τ1 : Sg), po_X10_length [.int (σ 3 (k).toNatClampNeg)] σ x2 τ1 → ((¬ i < x2 → (least = (-1) → J 4 [some (.ref 0), some (.int c), some (.int sum), some (.int (k + nI 1)), some (.int sum), some (.int i)] [] τ1) ∧ (¬ least = (-1) → (¬ sum < least → J 4 [some (.ref 0), some (.int c), some (.int least), some (.int (k + nI 1)), some (.int sum), some (.int i)] [] τ1) ∧ (sum < least → J 4 [some (.ref 0), some (.int c), some (.int sum), some (.int (k + nI 1)), some (.int sum), some (.int i)] [] τ1))) ∧ (i < x2 → vp_in k 120 ∧ (pr_X10_stroke [.int (τ1 3 (k).toNatClampNeg), .int i] τ1 ∧ ∀ (x4 : Int32) (τ3 : Sg), po_X10_stroke [.int (τ1 3 (k).toNatClampNeg), .int i] τ1 x4 τ3 → (vp_in x4 241 ∧ (J 31 [some (.ref 0), some (.int c), some (.int least), some (.int k), some (.int (sum + (τ3 11 (x4).toNatClampNeg))), some (.int (i + nI 1))] [] τ3))))))) : kp_T1 layM gl_X10 pl_X10 (ms_X10_savedBy) tb_X10_savedBy (kp_rk (some .int)) J Q 71 31 [some (.ref 0), some (.int c), some (.int least), some (.int k), some (.int sum), some (.int i)] [] σ := h
abbrev iv_X10_savedBy : List Value → Sg → Nat → Nat → Lcl → List Value → Sg → Prop := fun As σ n pc ls st τ => st = [] ∧ τ = σ ∧ ∃ (x k z : Nat) (least : Int32), As = [.ref 0, .int (nI x)] ∧ x < 40 ∧ σ 0 8 = nI z ∧ z ≤ 120 ∧ ((least = -1 ∧ ∀ j, j < k → σ 4 j ≠ nI x) ∨ ∃ L : Nat, L ≤ 300 ∧ least = nI L ∧ (∃ j, j < k ∧ σ 4 j = nI x ∧ rst (σ 11) (tn (σ 3 j)) = L) ∧ ∀ j, j < k → σ 4 j = nI x → L ≤ rst (σ 11) (tn (σ 3 j))) ∧ ((pc = 4 ∧ k ≤ z ∧ n = 10 * (z - k) + 9 ∧ ∃ o4 o5 : Option Value, ls = [some (.ref 0), some (.int (nI x)), some (.int least), some (.int (nI k)), o4, o5]) ∨ (pc = 31 ∧ k < z ∧ σ 4 k = nI x ∧ ∃ i : Nat, i ≤ rlen (tn (σ 3 k)) ∧ n = 10 * (z - k) + (3 - i) ∧ ls = [some (.ref 0), some (.int (nI x)), some (.int least), some (.int (nI k)), some (.int (nI (rsm (σ 11) (tn (σ 3 k)) i))), some (.int (nI i))]))
set_option maxRecDepth 100000 in
set_option maxHeartbeats 4000000 in
theorem c_X10_savedBy : kp_Met layM 2 yX10_savedBy cX10_savedBy 6 (some .int) (pr_X10_savedBy) (po_X10_savedBy) := by
  refine kp_met (N := 71) (by decide) tk_X10_savedBy gk_X10 pk_X10 (mk_X10_savedBy) rfl (iv_X10_savedBy) ?_ ?_
  · rintro As σ ⟨c, rfl, hp⟩
    refine ⟨⟨rfl, Nat.le_of_ble_eq_true rfl⟩, v_X10_savedBy c σ ?_⟩
    obtain ⟨hL, hc, x, rfl, hx⟩ := hp
    obtain ⟨z, hz, hz1, -, -⟩ := hL.2
    exact ⟨_, rfl, rfl, x, 0, z, -1, rfl, hx, hz, hz1, Or.inl ⟨rfl, fun j hj => by omega⟩, Or.inl ⟨rfl, Nat.zero_le _, rfl, none, none, rfl⟩⟩
  · rintro As σ ⟨c, rfl, hp⟩ n pc ls st τ hI
    obtain ⟨hL, hc, -⟩ := hp
    obtain ⟨rfl, rfl, x, k, z, least, hAs, hx, hz, hz1, hle, hI⟩ := hI
    cases hAs
    obtain ⟨z', hz', hz2, g2, g3⟩ := id hL.2
    have : z' = z := (nI_eq (by omega) (by omega)).mp (hz'.symm.trans hz)
    subst this
    have ex : tn (nI x) = x := tn_nI (by omega)
    obtain ⟨⟨u1, u2⟩, -⟩ := hc.2 x hx
    rcases hI with ⟨rfl, hk, rfl, o4, o5, rfl⟩ | ⟨rfl, hk, hcx, i, hi, rfl, rfl⟩
    · refine v_X10_savedBy_4 _ _ _ o4 o5 τ ?_
      rw [hz, nI_ltI (by omega) (by omega), nI_clamp (show k < 2 ^ 31 by omega), nI_clamp (show x < 2 ^ 31 by omega), nI_add]
      refine ⟨fun g => ?_, fun g => ⟨(kp_in (by omega)).mpr (by omega), fun h => ⟨10 * (z' - k) + (3 - 0), by omega, rfl, rfl, x, k, z', least, rfl, hx, hz, hz1, hle, Or.inr ⟨rfl, g, h, 0, Nat.zero_le _, rfl, rfl⟩⟩, fun h => ⟨10 * (z' - (k + 1)) + 9, by omega, rfl, rfl, x, k + 1, z', least, rfl, hx, hz, hz1, ?_, Or.inl ⟨rfl, by omega, rfl, _, _, rfl⟩⟩⟩⟩
      · have hkz : k = z' := by omega
        rcases hle with ⟨e, h⟩ | ⟨L, hL300, e, ⟨j, hj, e1, e2⟩, h⟩
        · refine ⟨fun z => absurd e z, fun _ => ⟨rfl, 0, by omega, ?_, rfl⟩⟩
          rw [ex]
          exact sv_from hL.2 hz hz1 (fun j hj z => absurd z (h j (by omega))) (Or.inl rfl) (by omega)
        · refine ⟨fun _ => ⟨(kp_in (by omega)).mpr hx, ⟨_, _, rfl⟩, ?_⟩, fun z => absurd (e.symm.trans z) (nI_m1 (by omega))⟩
          rintro x2 τ1 ⟨rfl, rfl⟩
          have hmx := max_sv (a := tn (τ1 12 x)) (v := 0) u2 hL300 (by omega)
          rw [← u1] at hmx
          rw [e]
          refine ⟨rfl, tn (τ1 12 x) * (30 - L), ?_, ?_, ?_⟩
          · have : tn (τ1 12 x) * (30 - L) ≤ 1000 * 30 := Nat.mul_le_mul u2 (by omega)
            omega
          · rw [ex]
            exact sv_from hL.2 hz hz1 (fun j hj z => Nat.mul_le_mul_left _ (by have := h j (by omega) z; omega)) (Or.inr ⟨j, by omega, e1, by rw [e2]⟩) (by omega)
          · rw [hmx, Nat.zero_max]
      · rcases hle with ⟨e, h'⟩ | ⟨L, hL300, e, ⟨j, hj, e1, e2⟩, h'⟩
        · refine Or.inl ⟨e, fun j hj => ?_⟩
          by_cases ej : j = k
          · rw [ej]; exact h
          · exact h' j (by omega)
        · refine Or.inr ⟨L, hL300, e, ⟨j, by omega, e1, e2⟩, fun j' hj' z => ?_⟩
          by_cases ej : j' = k
          · rw [ej] at z; exact absurd z h
          · exact h' j' (by omega) z
    · obtain ⟨b1, b2, b3, b4, -⟩ := g2 k hk
      have hr3 := rlen_le (tn (τ 3 k))
      have hin : vp_in (nI k) 120 := (kp_in (by omega)).mpr (by omega)
      have hrs := rsm_le hc b4 i hi
      refine v_X10_savedBy_31 _ _ _ _ _ τ ?_
      rw [nI_clamp (show k < 2 ^ 31 by omega)]
      refine ⟨hin, ⟨_, rfl, _, b3, tn_lt _⟩, ?_⟩
      rintro x2 τ1 ⟨rfl, rfl⟩
      rw [mlen_row b4, nI_ltI (by omega) (by omega), show nI k + nI 1 = nI (k + 1) from nI_add _ _, show nI i + nI 1 = nI (i + 1) from nI_add _ _]
      refine ⟨fun g => ?_, fun g => ⟨hin, ⟨_, _, rfl, tn (τ1 3 k), i, b3, tn_lt _, rfl, by omega⟩, ?_⟩⟩
      · have hii : i = rlen (tn (τ1 3 k)) := by omega
        have hrst : rsm (τ1 11) (tn (τ1 3 k)) i = rst (τ1 11) (tn (τ1 3 k)) := by rw [hii]; rfl
        rw [hrst] at hrs ⊢
        have h300 : rst (τ1 11) (tn (τ1 3 k)) ≤ 300 := by omega
        have hJ : ∀ (least' : Int32) (L : Nat) (o4 o5 : Option Value), least' = nI L → L ≤ 300 → (∃ j, j < k + 1 ∧ τ1 4 j = nI x ∧ rst (τ1 11) (tn (τ1 3 j)) = L) → (∀ j, j < k + 1 → τ1 4 j = nI x → L ≤ rst (τ1 11) (tn (τ1 3 j))) → ∃ n', n' < 10 * (z' - k) + (3 - i) ∧ iv_X10_savedBy [.ref 0, .int (nI x)] τ1 n' 4 [some (.ref 0), some (.int (nI x)), some (.int least'), some (.int (nI (k + 1))), o4, o5] [] τ1 := fun least' L o4 o5 h1 h2 h3 h4 => ⟨10 * (z' - (k + 1)) + 9, by omega, rfl, rfl, x, k + 1, z', least', rfl, hx, hz, hz1, Or.inr ⟨L, h2, h1, h3, h4⟩, Or.inl ⟨rfl, by omega, rfl, o4, o5, rfl⟩⟩
        rcases hle with ⟨e, h'⟩ | ⟨L, hL300, e, ⟨j, hj, e1, e2⟩, h'⟩
        · refine ⟨fun _ => hJ _ _ _ _ rfl h300 ⟨k, by omega, hcx, rfl⟩ (fun j hj z => ?_), fun z => absurd e z⟩
          by_cases ej : j = k
          · rw [ej]; exact Nat.le_refl _
          · exact absurd z (h' j (by omega))
        · rw [e, nI_ltI (by omega) (by omega)]
          refine ⟨fun z => absurd z (nI_m1 (by omega)), fun _ => ⟨fun g3 => hJ _ L _ _ rfl hL300 ⟨j, by omega, e1, e2⟩ (fun j' hj' z => ?_), fun g3 => hJ _ _ _ _ rfl h300 ⟨k, by omega, hcx, rfl⟩ (fun j' hj' z => ?_)⟩⟩
          · by_cases ej : j' = k
            · rw [ej]; omega
            · exact h' j' (by omega) z
          · by_cases ej : j' = k
            · rw [ej]; exact Nat.le_refl _
            · have := h' j' (by omega) z; omega
      · rintro x4 τ3 ⟨rfl, rfl⟩
        rw [tn_nI (show i < 2 ^ 31 by omega)]
        obtain ⟨s1, s2⟩ := row_stroke b4 g
        obtain ⟨v1, v2⟩ := hc.1 _ s1 s2
        refine ⟨(kp_in (by omega)).mpr (by omega), 10 * (z' - k) + (3 - (i + 1)), by omega, rfl, rfl, x, k, z', least, rfl, hx, hz, hz1, hle, Or.inr ⟨rfl, hk, hcx, i + 1, by omega, rfl, ?_⟩⟩
        rw [nI_clamp (show tn (τ3 3 k) / 256 ^ i % 256 < 2 ^ 31 by omega), nn_add v1]
        rfl
theorem sv_all {σ : Sg} (hm : mOK (σ 2) (σ 3) (σ 4) (σ 0 8)) (c : Nat) (hc : c < 2 ^ 31) : ∃ v, isSv (σ 11) (σ 12) (mM σ) c v := by
  obtain ⟨z, hz, hz1, -, -⟩ := id hm
  have key : ∀ k, ∃ v, (∀ j, j < k → σ 4 j = nI c → tn (σ 12 c) * (30 - rst (σ 11) (tn (σ 3 j))) ≤ v) ∧ (v = 0 ∨ ∃ j, j < k ∧ σ 4 j = nI c ∧ v = tn (σ 12 c) * (30 - rst (σ 11) (tn (σ 3 j)))) := by
    intro k
    induction k with
    | zero => exact ⟨0, fun j hj => by omega, Or.inl rfl⟩
    | succ k ih =>
      obtain ⟨v, h1, h2⟩ := ih
      by_cases h : σ 4 k = nI c ∧ v ≤ tn (σ 12 c) * (30 - rst (σ 11) (tn (σ 3 k)))
      · refine ⟨_, fun j hj e => ?_, Or.inr ⟨k, by omega, h.1, rfl⟩⟩
        by_cases ej : j = k
        · rw [ej]; exact Nat.le_refl _
        · exact Nat.le_trans (h1 j (by omega) e) h.2
      · refine ⟨v, fun j hj e => ?_, ?_⟩
        · by_cases ej : j = k
          · rw [ej] at e ⊢
            exact Nat.le_of_not_le (fun q => h ⟨e, q⟩)
          · exact h1 j (by omega) e
        · rcases h2 with h2 | ⟨j, hj, e1, e2⟩
          · exact Or.inl h2
          · exact Or.inr ⟨j, by omega, e1, e2⟩
  obtain ⟨v, h1, h2⟩ := key z
  exact ⟨v, sv_from hm hz hz1 h1 h2 hc⟩
theorem svG_ok {σ : Sg} (hm : mOK (σ 2) (σ 3) (σ 4) (σ 0 8)) (c : Nat) (hc : c < 2 ^ 31) : isSv (σ 11) (σ 12) (mM σ) c (svG (σ 11) (σ 12) (mM σ) c) := by
  obtain ⟨v, h⟩ := sv_all hm c hc
  rw [svG_eq h]; exact h
def pr_X10_saves : SPre := fun As σ => ∃ c : Int32, As = [.ref 0, .int c] ∧ (InvM σ)
def po_X10_saves : SPost := fun As σ r τ => match As with
  | [.ref _, .int c] => (InvM τ ∧ fm [] [0] σ τ ∧ (isCx (nI 40) c = true → ∃ v : Nat, v ≤ 30000 ∧ isSv (σ 11) (σ 12) (mM σ) (tn c) v ∧ r = nI v) ∧ (¬ isCx (nI 40) c = true → r = nI 0))
  | _ => True
def ms_X10_saves : List Me := [(167, 1, 9, 1, true, pr_X10_isCommand, po_X10_isCommand), (218, 0, 9, 1, true, pr_X10_savedBy, po_X10_savedBy)]
theorem mk_X10_saves : ∀ q ∈ ms_X10_saves, kp_okM layM RX10 3 q := List.forall_mem_cons.mpr ⟨Or.inl ⟨0, yX10_isCommand, cX10_isCommand, 1, (some .boolean), c_X10_isCommand, by omega, by decide, rfl, lk_X10_167⟩, List.forall_mem_cons.mpr ⟨Or.inl ⟨2, yX10_savedBy, cX10_savedBy, 6, (some .int), c_X10_savedBy, by omega, by decide, rfl, lk_X10_218⟩, fun _ h => absurd h List.not_mem_nil⟩⟩
set_option maxRecDepth 100000 in
theorem v_X10_saves {J : Nat → Lcl → List Value → Sg → Prop} {Q : Int32 → Sg → Prop} (c : Int32) (σ : Sg) (h : pr_X10_isCommand [.int c] (kp_up σ 0 0 (nI 0)) ∧ ∀ (x2 : Int32) (τ1 : Sg), po_X10_isCommand [.int c] (kp_up σ 0 0 (nI 0)) x2 τ1 → ((x2 = (nI 0) → Q (nI 0) τ1) ∧ (¬ x2 = (nI 0) → pr_X10_savedBy [.ref 0, .int c] τ1 ∧ ∀ (x4 : Int32) (τ3 : Sg), po_X10_savedBy [.ref 0, .int c] τ1 x4 τ3 → (Q x4 τ3)))) : kp_T layM gl_X10 pl_X10 (ms_X10_saves) tb_X10_saves (kp_rk (some .int)) J Q 30 tb_X10_saves (kp_en [.ref 0, .int c] 2) [] σ := h
set_option maxRecDepth 100000 in
set_option maxHeartbeats 4000000 in
theorem c_X10_saves : kp_Met layM 3 yX10_saves cX10_saves 2 (some .int) (pr_X10_saves) (po_X10_saves) := by
  refine kp_met (N := 30) (by decide) tk_X10_saves gk_X10 pk_X10 (mk_X10_saves) rfl (fun _ _ _ _ _ _ _ => False) ?_ (fun _ _ _ _ _ _ _ _ h => h.elim)
  rintro As σ ⟨c, rfl, hp⟩
  refine ⟨⟨rfl, Nat.le_of_ble_eq_true rfl⟩, v_X10_saves c σ ?_⟩
  obtain ⟨hL, hk, hty, hco, has⟩ := id hp
  have h0 := InvM_0 hp
  obtain ⟨hL0, em⟩ := LM_fm hL fm_0 (by decide) (by decide)
  refine ⟨⟨_, rfl, trivial⟩, ?_⟩
  rintro x2 τ1 ⟨rfl, rfl⟩
  rw [bI_0]
  refine ⟨fun h1 => ⟨h0, fm_0, fun z => (by rw [h1] at z; cases z), fun _ => rfl⟩, fun h1 => ?_⟩
  have h1 : isCx (nI 40) c = true := by simpa using h1
  obtain ⟨a, ha, rfl⟩ := (isCx_iff (by omega)).mp h1
  refine ⟨⟨_, rfl, hL0, h0.2.2.2.1, a, rfl, ha⟩, ?_⟩
  rintro x4 τ3 ⟨rfl, v, k1, k2, rfl⟩
  rw [em, up_c (show (11 : Nat) ≠ 0 by decide), up_c (show (12 : Nat) ≠ 0 by decide)] at k2
  exact ⟨h0, fm_0, fun _ => ⟨v, k1, k2, rfl⟩, fun z => absurd h1 z⟩
def pr_X10_learn : SPre := fun As σ => ∃ i : Int32, As = [.ref 0, .int i] ∧ (InvM σ)
def po_X10_learn : SPost := fun As σ r τ => match As with
  | [.ref _, .int i] => (InvM τ ∧ fm [] [0] σ τ ∧ r = rkd (svG (σ 11) (σ 12) (mM σ)) i 40 0)
  | _ => True
def ms_X10_learn : List Me := [(218, 0, 9, 1, true, pr_X10_savedBy, po_X10_savedBy)]
theorem mk_X10_learn : ∀ q ∈ ms_X10_learn, kp_okM layM RX10 3 q := List.forall_mem_cons.mpr ⟨Or.inl ⟨2, yX10_savedBy, cX10_savedBy, 6, (some .int), c_X10_savedBy, by omega, by decide, rfl, lk_X10_218⟩, fun _ h => absurd h List.not_mem_nil⟩
set_option maxRecDepth 100000 in
theorem v_X10_learn {J : Nat → Lcl → List Value → Sg → Prop} {Q : Int32 → Sg → Prop} (i : Int32) (σ : Sg) (h : J 7 [some (.ref 0), some (.int i), some (.int (nI 0)), none, none, none] [] (kp_up σ 0 0 (nI 0))) : kp_T layM gl_X10 pl_X10 (ms_X10_learn) tb_X10_learn (kp_rk (some .int)) J Q 57 tb_X10_learn (kp_en [.ref 0, .int i] 6) [] σ := h
set_option maxRecDepth 100000 in
theorem v_X10_learn_7 {J : Nat → Lcl → List Value → Sg → Prop} {Q : Int32 → Sg → Prop} (i c : Int32) (o3 o4 o5 : Option Value) (σ : Sg) (h : (¬ c < (nI 40) → Q (-1) σ) ∧ (c < (nI 40) → pr_X10_savedBy [.ref 0, .int c] σ ∧ ∀ (x2 : Int32) (τ1 : Sg), po_X10_savedBy [.ref 0, .int c] σ x2 τ1 → ((¬ x2 = (nI 0) → J 32 [some (.ref 0), some (.int i), some (.int c), some (.int x2), some (.int (nI 0)), some (.int (nI 0))] [] τ1) ∧ (x2 = (nI 0) → J 7 [some (.ref 0), some (.int i), some (.int (c + nI 1)), some (.int x2), o4, o5] [] τ1)))) : kp_T1 layM gl_X10 pl_X10 (ms_X10_learn) tb_X10_learn (kp_rk (some .int)) J Q 57 7 [some (.ref 0), some (.int i), some (.int c), o3, o4, o5] [] σ := h
set_option maxRecDepth 100000 in
theorem v_X10_learn_32 {J : Nat → Lcl → List Value → Sg → Prop} {Q : Int32 → Sg → Prop} (i c s ah d : Int32) (σ : Sg) (h : (¬ d < (nI 40) → (¬ ah = i → J 7 [some (.ref 0), some (.int i), some (.int (c + nI 1)), some (.int s), some (.int ah), some (.int d)] [] σ) ∧ (ah = i → Q c σ)) ∧ (d < (nI 40) → pr_X10_savedBy [.ref 0, .int d] σ ∧ ∀ (x2 : Int32) (τ1 : Sg), po_X10_savedBy [.ref 0, .int d] σ x2 τ1 → ((s < x2 → J 32 [some (.ref 0), some (.int i), some (.int c), some (.int s), some (.int (ah + (nI 1))), some (.int (d + nI 1))] [] τ1) ∧ (¬ s < x2 → pr_X10_savedBy [.ref 0, .int d] τ1 ∧ ∀ (x4 : Int32) (τ3 : Sg), po_X10_savedBy [.ref 0, .int d] τ1 x4 τ3 → ((¬ x4 = s → J 32 [some (.ref 0), some (.int i), some (.int c), some (.int s), some (.int (ah + (nI 0))), some (.int (d + nI 1))] [] τ3) ∧ (x4 = s → (¬ d < c → J 32 [some (.ref 0), some (.int i), some (.int c), some (.int s), some (.int (ah + (nI 0))), some (.int (d + nI 1))] [] τ3) ∧ (d < c → J 32 [some (.ref 0), some (.int i), some (.int c), some (.int s), some (.int (ah + (nI 1))), some (.int (d + nI 1))] [] τ3))))))) : kp_T1 layM gl_X10 pl_X10 (ms_X10_learn) tb_X10_learn (kp_rk (some .int)) J Q 57 32 [some (.ref 0), some (.int i), some (.int c), some (.int s), some (.int ah), some (.int d)] [] σ := h
abbrev iv_X10_learn : List Value → Sg → Nat → Nat → Lcl → List Value → Sg → Prop := fun As σ n pc ls st τ => st = [] ∧ τ = kp_up σ 0 0 (nI 0) ∧ ∃ (i : Int32) (c : Nat), As = [.ref 0, .int i] ∧ c ≤ 40 ∧ rkd (svG (σ 11) (σ 12) (mM σ)) i 40 0 = rkd (svG (σ 11) (σ 12) (mM σ)) i (40 - c) c ∧ ((pc = 7 ∧ n = 100 * (40 - c) + 99 ∧ ∃ o3 o4 o5 : Option Value, ls = [some (.ref 0), some (.int i), some (.int (nI c)), o3, o4, o5]) ∨ (pc = 32 ∧ c < 40 ∧ 0 < svG (σ 11) (σ 12) (mM σ) c ∧ svG (σ 11) (σ 12) (mM σ) c ≤ 30000 ∧ ∃ d : Nat, d ≤ 40 ∧ n = 100 * (40 - c) + (40 - d) ∧ ls = [some (.ref 0), some (.int i), some (.int (nI c)), some (.int (nI (svG (σ 11) (σ 12) (mM σ) c))), some (.int (nI (ahd (svG (σ 11) (σ 12) (mM σ)) c d))), some (.int (nI d))]))
set_option maxRecDepth 100000 in
set_option maxHeartbeats 4000000 in
theorem c_X10_learn : kp_Met layM 3 yX10_learn cX10_learn 6 (some .int) (pr_X10_learn) (po_X10_learn) := by
  refine kp_met (N := 57) (by decide) tk_X10_learn gk_X10 pk_X10 (mk_X10_learn) rfl (iv_X10_learn) ?_ ?_
  · rintro As σ ⟨i, rfl, hp⟩
    refine ⟨⟨rfl, Nat.le_of_ble_eq_true rfl⟩, v_X10_learn i σ ?_⟩
    exact ⟨_, rfl, rfl, i, 0, rfl, Nat.zero_le _, rfl, Or.inl ⟨rfl, rfl, none, none, none, rfl⟩⟩
  · rintro As σ ⟨i, rfl, hp⟩ n pc ls st τ hI
    obtain ⟨hL, hk, hty, hco, has⟩ := id hp
    have h0 := InvM_0 hp
    obtain ⟨hL0, em⟩ := LM_fm hL fm_0 (by decide) (by decide)
    obtain ⟨rfl, rfl, i', c, hAs, hc, hr, hI⟩ := hI
    cases hAs
    have hsv : ∀ d : Nat, d < 40 → (pr_X10_savedBy [.ref 0, .int (nI d)] (kp_up σ 0 0 (nI 0))) ∧ ∀ x τ', po_X10_savedBy [.ref 0, .int (nI d)] (kp_up σ 0 0 (nI 0)) x τ' → τ' = kp_up σ 0 0 (nI 0) ∧ x = nI (svG (σ 11) (σ 12) (mM σ) d) ∧ svG (σ 11) (σ 12) (mM σ) d ≤ 30000 := by
      intro d hd
      refine ⟨⟨_, rfl, hL0, h0.2.2.2.1, d, rfl, hd⟩, ?_⟩
      rintro x τ' ⟨rfl, v, k1, k2, rfl⟩
      rw [em, up_c (show (11 : Nat) ≠ 0 by decide), up_c (show (12 : Nat) ≠ 0 by decide), tn_nI (show d < 2 ^ 31 by omega)] at k2
      rw [svG_eq k2]
      exact ⟨rfl, rfl, k1⟩
    have hQ : ∀ r, r = rkd (svG (σ 11) (σ 12) (mM σ)) i 40 0 → po_X10_learn [.ref 0, .int i] σ r (kp_up σ 0 0 (nI 0)) := fun r h => ⟨h0, fm_0, h⟩
    have hnext : ∀ (n : Nat) (o3 o4 o5 : Option Value), c < 40 → 100 * (40 - c) ≤ n → ¬ (0 < svG (σ 11) (σ 12) (mM σ) c ∧ nI (ahd (svG (σ 11) (σ 12) (mM σ)) c 40) = i) → ∃ n', n' < n ∧ iv_X10_learn [.ref 0, .int i] σ n' 7 [some (.ref 0), some (.int i), some (.int (nI (c + 1))), o3, o4, o5] [] (kp_up σ 0 0 (nI 0)) := fun n o3 o4 o5 hc hn h => ⟨100 * (40 - (c + 1)) + 99, by omega, rfl, rfl, i, c + 1, rfl, by omega, by rw [hr, show 40 - c = (40 - (c + 1)) + 1 by omega, rkd_s _ _ (40 - (c + 1)) c, if_neg h], Or.inl ⟨rfl, rfl, o3, o4, o5, rfl⟩⟩
    rcases hI with ⟨rfl, rfl, o3, o4, o5, rfl⟩ | ⟨rfl, hc40, hpos, hle, d, hd, rfl, rfl⟩
    · refine v_X10_learn_7 _ _ o3 o4 o5 (kp_up σ 0 0 (nI 0)) ?_
      rw [nI_ltI (by omega) (by omega), nI_add]
      refine ⟨fun g => hQ _ (by rw [hr, show 40 - c = 0 by omega]; rfl), fun g => ⟨(hsv c g).1, ?_⟩⟩
      intro x2 τ1 hpo
      obtain ⟨rfl, rfl, hle⟩ := (hsv c g).2 _ _ hpo
      rw [nI_eq (by omega) (by omega)]
      exact ⟨fun h => ⟨100 * (40 - c) + (40 - 0), by omega, rfl, rfl, i, c, rfl, hc, hr, Or.inr ⟨rfl, g, by omega, hle, 0, by omega, rfl, rfl⟩⟩, fun h => hnext _ _ _ _ g (by omega) (fun z => by omega)⟩
    · have hal := ahd_le (S := svG (σ 11) (σ 12) (mM σ)) (c := c) d
      refine v_X10_learn_32 _ _ _ _ _ (kp_up σ 0 0 (nI 0)) ?_
      rw [nI_ltI (by omega) (by omega), nI_ltI (by omega) (by omega), show nI c + nI 1 = nI (c + 1) from nI_add _ _, show nI d + nI 1 = nI (d + 1) from nI_add _ _, show nI (ahd (svG (σ 11) (σ 12) (mM σ)) c d) + nI 1 = nI (ahd (svG (σ 11) (σ 12) (mM σ)) c d + 1) from nI_add _ _, show nI (ahd (svG (σ 11) (σ 12) (mM σ)) c d) + nI 0 = nI (ahd (svG (σ 11) (σ 12) (mM σ)) c d) from nI_add _ _]
      refine ⟨fun g => ?_, fun g => ⟨(hsv d g).1, ?_⟩⟩
      · have : d = 40 := by omega
        subst this
        refine ⟨fun h => hnext _ _ _ _ hc40 (by omega) (fun z => h z.2), fun h => hQ _ ?_⟩
        rw [hr, show 40 - c = (40 - (c + 1)) + 1 by omega, rkd_s _ _ (40 - (c + 1)) c, if_pos ⟨hpos, h⟩]
      · intro x2 τ1 hpo
        obtain ⟨rfl, rfl, hled⟩ := (hsv d g).2 _ _ hpo
        have hJ : ∀ v : Nat, v = ahd (svG (σ 11) (σ 12) (mM σ)) c (d + 1) → ∃ n', n' < 100 * (40 - c) + (40 - d) ∧ iv_X10_learn [.ref 0, .int i] σ n' 32 [some (.ref 0), some (.int i), some (.int (nI c)), some (.int (nI (svG (σ 11) (σ 12) (mM σ) c))), some (.int (nI v)), some (.int (nI (d + 1)))] [] (kp_up σ 0 0 (nI 0)) := by
          rintro v rfl
          exact ⟨100 * (40 - c) + (40 - (d + 1)), by omega, rfl, rfl, i, c, rfl, hc, hr, Or.inr ⟨rfl, hc40, hpos, hle, d + 1, by omega, rfl, rfl⟩⟩
        have hs : ahd (svG (σ 11) (σ 12) (mM σ)) c (d + 1) = ahd (svG (σ 11) (σ 12) (mM σ)) c d + (if svG (σ 11) (σ 12) (mM σ) c < svG (σ 11) (σ 12) (mM σ) d ∨ (svG (σ 11) (σ 12) (mM σ) d = svG (σ 11) (σ 12) (mM σ) c ∧ d < c) then 1 else 0) := rfl
        rw [nI_ltI (by omega) (by omega)]
        refine ⟨fun h => hJ _ (by rw [hs, if_pos (Or.inl h)]), fun h => ⟨(hsv d g).1, ?_⟩⟩
        intro x4 τ3 hpo2
        obtain ⟨rfl, rfl, -⟩ := (hsv d g).2 _ _ hpo2
        rw [nI_eq (by omega) (by omega)]
        exact ⟨fun h2 => hJ _ (by rw [hs, if_neg (by omega)]; rfl), fun h2 => ⟨fun h3 => hJ _ (by rw [hs, if_neg (by omega)]; rfl), fun h3 => hJ _ (by rw [hs, if_pos (Or.inr ⟨h2, h3⟩)])⟩⟩
