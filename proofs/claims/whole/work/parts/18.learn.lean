/-! what is to be learnt: KeyPlan$Learning -/
theorem rst_le {st us ha we : Nat → Int32} (hc : cstOK st us ha we) {r : Nat} (h : rowOK r = true) : rst st r ≤ 300 := by
  have := rsm_le hc h (rlen r) (Nat.le_refl _)
  have := rlen_le r
  unfold rst; omega
theorem svk_le {st us : Nat → Int32} {c k : Nat} (h : tn (us c) ≤ 1000) : svk st us c k ≤ 30000 := by
  unfold svk
  have : tn (us c) * (30 - rst st (k % 16777216)) ≤ 1000 * 30 := Nat.mul_le_mul h (by omega)
  omega
def pr_X6_weigh : SPre := fun As σ => As = [.ref 38, .ref 4, .ref 18] ∧ (bOK (σ 5) (σ 6) (σ 4 2) ∧ cstOK (σ 19) (σ 20) (σ 21) (σ 22))
def po_X6_weigh : SPost := fun As σ r τ => match As with
  | [.ref _, .ref _, .ref _] => (fr [39] σ τ ∧ ∀ c, c < 40 → ∃ v : Nat, τ 39 c = nI v ∧ v ≤ 30000 ∧ isSv (σ 19) (σ 20) (mC σ) c v)
  | _ => True
def ms_X6_weigh : List Me := [(24, 2, 8, 1, true, pr_X9_isCommand, po_X9_isCommand), (31, 1, 1, 1, true, pr_X1_rowOf, po_X1_rowOf), (35, 0, 3, 1, true, pr_X3_rowStretch, po_X3_rowStretch), (43, 1, 0, 2, true, pr_J9_max_7cf53, po_J9_max_7cf53)]
theorem mk_X6_weigh : ∀ q ∈ ms_X6_weigh, kp_okM layC RX6 3 q := List.forall_mem_cons.mpr ⟨Or.inl ⟨0, yX9_isCommand, cX9_isCommand, 1, (some .boolean), c_X9_isCommand, by omega, by decide, rfl, lk_X6_24⟩, List.forall_mem_cons.mpr ⟨Or.inl ⟨0, yX1_rowOf, cX1_rowOf, 1, (some .int), c_X1_rowOf, by omega, by decide, rfl, lk_X6_31⟩, List.forall_mem_cons.mpr ⟨Or.inl ⟨2, yX3_rowStretch, cX3_rowStretch, 5, (some .int), c_X3_rowStretch, by omega, by decide, rfl, lk_X6_35⟩, List.forall_mem_cons.mpr ⟨kp_okX_max (by omega) lk_X6_43, fun _ h => absurd h List.not_mem_nil⟩⟩⟩⟩
set_option maxRecDepth 100000 in
theorem v_X6_weigh {J : Nat → Lcl → List Value → Sg → Prop} {Q : Int32 → Sg → Prop}  (σ : Sg) (h : J 2 [some (.ref 38), some (.ref 4), some (.ref 18), some (.int (nI 0)), none, none] [] σ) : kp_T layC gl_X6 pl_X6 (ms_X6_weigh) tb_X6_weigh (kp_rk none) J Q 59 tb_X6_weigh (kp_en [.ref 38, .ref 4, .ref 18] 6) [] σ := h
set_option maxRecDepth 100000 in
theorem v_X6_weigh_2 {J : Nat → Lcl → List Value → Sg → Prop} {Q : Int32 → Sg → Prop} (c : Int32) (o4 o5 : Option Value) (σ : Sg) (h : (¬ c < (nI 40) → J 23 [some (.ref 38), some (.ref 4), some (.ref 18), some (.int (nI 0)), o4, o5] [] σ) ∧ (c < (nI 40) → vp_in c 40 ∧ (J 2 [some (.ref 38), some (.ref 4), some (.ref 18), some (.int (c + nI 1)), o4, o5] [] (kp_up σ 39 (c).toNatClampNeg (nI 0))))) : kp_T1 layC gl_X6 pl_X6 (ms_X6_weigh) tb_X6_weigh (kp_rk none) J Q 59 2 [some (.ref 38), some (.ref 4), some (.ref 18), some (.int c), o4, o5] [] σ := h
set_option maxRecDepth 100000 in
theorem v_X6_weigh_23 {J : Nat → Lcl → List Value → Sg → Prop} {Q : Int32 → Sg → Prop} (i : Int32) (o4 o5 : Option Value) (σ : Sg) (h : (¬ i < (σ 4 2) → Q (nI 0) σ) ∧ (i < (σ 4 2) → vp_in i 120 ∧ (pr_X9_isCommand [.int (σ 6 (i).toNatClampNeg)] σ ∧ ∀ (x2 : Int32) (τ1 : Sg), po_X9_isCommand [.int (σ 6 (i).toNatClampNeg)] σ x2 τ1 → ((x2 = (nI 0) → J 23 [some (.ref 38), some (.ref 4), some (.ref 18), some (.int (i + nI 1)), some (.int (σ 6 (i).toNatClampNeg)), o5] [] τ1) ∧ (¬ x2 = (nI 0) → vp_in i 120 ∧ (pr_X1_rowOf [.int (τ1 5 (i).toNatClampNeg)] τ1 ∧ ∀ (x4 : Int32) (τ3 : Sg), po_X1_rowOf [.int (τ1 5 (i).toNatClampNeg)] τ1 x4 τ3 → (pr_X3_rowStretch [.ref 18, .int x4] τ3 ∧ ∀ (x6 : Int32) (τ5 : Sg), po_X3_rowStretch [.ref 18, .int x4] τ3 x6 τ5 → (vp_in (σ 6 (i).toNatClampNeg) 40 ∧ (vp_in (σ 6 (i).toNatClampNeg) 40 ∧ (pr_J9_max_7cf53 [.int (τ5 39 (σ 6 (i).toNatClampNeg).toNatClampNeg), .int ((τ5 20 (σ 6 (i).toNatClampNeg).toNatClampNeg) * ((nI 30) - x6))] τ5 ∧ ∀ (x8 : Int32) (τ7 : Sg), po_J9_max_7cf53 [.int (τ5 39 (σ 6 (i).toNatClampNeg).toNatClampNeg), .int ((τ5 20 (σ 6 (i).toNatClampNeg).toNatClampNeg) * ((nI 30) - x6))] τ5 x8 τ7 → (vp_in (σ 6 (i).toNatClampNeg) 40 ∧ (J 23 [some (.ref 38), some (.ref 4), some (.ref 18), some (.int (i + nI 1)), some (.int (σ 6 (i).toNatClampNeg)), some (.int ((nI 30) - x6))] [] (kp_up τ7 39 (σ 6 (i).toNatClampNeg).toNatClampNeg x8))))))))))))) : kp_T1 layC gl_X6 pl_X6 (ms_X6_weigh) tb_X6_weigh (kp_rk none) J Q 59 23 [some (.ref 38), some (.ref 4), some (.ref 18), some (.int i), o4, o5] [] σ := h
abbrev iv_X6_weigh : List Value → Sg → Nat → Nat → Lcl → List Value → Sg → Prop := fun As σ n pc ls st τ => st = [] ∧ As = [.ref 38, .ref 4, .ref 18] ∧ fr [39] σ τ ∧ ((pc = 2 ∧ ∃ (c : Nat) (o4 o5 : Option Value), c ≤ 40 ∧ n = 1000 + (40 - c) ∧ ls = [some (.ref 38), some (.ref 4), some (.ref 18), some (.int (nI c)), o4, o5] ∧ ∀ j, j < c → τ 39 j = nI 0) ∨ (pc = 23 ∧ ∃ (i z : Nat) (o4 o5 : Option Value), σ 4 2 = nI z ∧ z ≤ 120 ∧ i ≤ z ∧ n = z - i ∧ ls = [some (.ref 38), some (.ref 4), some (.ref 18), some (.int (nI i)), o4, o5] ∧ ∀ c, c < 40 → ∃ v : Nat, τ 39 c = nI v ∧ v ≤ 30000 ∧ (∀ j, j < i → σ 6 j = nI c → svk (σ 19) (σ 20) c (tn (σ 5 j)) ≤ v) ∧ (v = 0 ∨ ∃ j, j < i ∧ σ 6 j = nI c ∧ v = svk (σ 19) (σ 20) c (tn (σ 5 j)))))
set_option maxRecDepth 100000 in
set_option maxHeartbeats 4000000 in
theorem c_X6_weigh : kp_Met layC 3 yX6_weigh cX6_weigh 6 none (pr_X6_weigh) (po_X6_weigh) := by
  refine kp_met (N := 59) (by decide) tk_X6_weigh gk_X6 pk_X6 (mk_X6_weigh) rfl (iv_X6_weigh) ?_ ?_
  · rintro As σ ⟨rfl, hp⟩
    refine ⟨⟨rfl, Nat.le_of_ble_eq_true rfl⟩, v_X6_weigh σ ?_⟩
    exact ⟨1040, rfl, rfl, fr_rf, Or.inl ⟨rfl, 0, none, none, by omega, rfl, rfl, fun j hj => by omega⟩⟩
  · rintro As σ ⟨rfl, hp⟩ n pc ls st τ hI
    obtain ⟨hbo, hco⟩ := hp
    obtain ⟨z0, hz0, hz1, hcell, hsrt⟩ := id hbo
    obtain ⟨rfl, hAs, hfr, hI⟩ := hI
    clear hAs
    rcases hI with ⟨rfl, c, o4, o5, hc, rfl, rfl, h0⟩ | ⟨rfl, i, z, o4, o5, hz, hz2, hi, rfl, rfl, hv⟩
    · refine v_X6_weigh_2 _ o4 o5 τ ?_
      rw [nI_ltI (by omega) (by omega), nI_clamp (show c < 2 ^ 31 by omega), nI_add]
      refine ⟨fun g => ⟨z0, by omega, rfl, rfl, hfr, Or.inr ⟨rfl, 0, z0, o4, o5, hz0, hz1, by omega, rfl, rfl, fun d hd => ⟨0, h0 d (by omega), by omega, fun j hj => by omega, Or.inl rfl⟩⟩⟩, fun g => ⟨(kp_in (by omega)).mpr g, 1000 + (40 - (c + 1)), by omega, rfl, rfl, fr_up hfr (by decide), Or.inl ⟨rfl, c + 1, o4, o5, by omega, rfl, rfl, fun j hj => ?_⟩⟩⟩
      by_cases e : j = c
      · subst e; rw [up_s]
      · rw [up_n e]; exact h0 j (by omega)
    · have : z0 = z := (nI_eq (by omega) (by omega)).mp (hz0.symm.trans hz)
      subst this
      have q4 : τ 4 = σ 4 := hfr 4 (by decide)
      have q5 : τ 5 = σ 5 := hfr 5 (by decide)
      have q6 : τ 6 = σ 6 := hfr 6 (by decide)
      have q19 : τ 19 = σ 19 := hfr 19 (by decide)
      have q20 : τ 20 = σ 20 := hfr 20 (by decide)
      have q21 : τ 21 = σ 21 := hfr 21 (by decide)
      have q22 : τ 22 = σ 22 := hfr 22 (by decide)
      refine v_X6_weigh_23 _ o4 o5 τ ?_
      rw [q4, q6, hz, nI_ltI (by omega) (by omega), nI_clamp (show i < 2 ^ 31 by omega)]
      rw [show nI i + nI 1 = nI (i + 1) from nI_add _ _]
      refine ⟨fun g => ⟨hfr, fun c hc => ?_⟩, fun g => ⟨(kp_in (by omega)).mpr (by omega), ⟨_, rfl, trivial⟩, ?_⟩⟩
      · obtain ⟨v, h1, h2, h3, h4⟩ := hv c hc
        have hbz := hbo
        rw [hz] at hbz
        refine ⟨v, h1, h2, fun k hk => ?_, ?_⟩
        · have hk' : mpC (σ 5) (σ 6) (nI z0) k = nI c := by rw [← hz]; exact hk
          obtain ⟨j, hj, rfl⟩ := mpC_some hz1 (by rw [hk']; exact nI_m1 (by omega))
          exact h3 j (by omega) (by rw [← hk']; exact (mpC_at hbz hz1 hj).symm)
        · rcases h4 with h4 | ⟨j, hj, e1, e2⟩
          · exact Or.inl h4
          · refine Or.inr ⟨tn (σ 5 j), ?_, e2⟩
            show mpC (σ 5) (σ 6) (σ 4 2) (tn (σ 5 j)) = nI c
            rw [hz, mpC_at hbz hz1 (by omega), e1]
      · rintro x2 τ1 ⟨rfl, rfl⟩
        obtain ⟨hkey, hkok, w, hw, ew⟩ := hcell i g
        rw [bI_0, q5, ew]
        have hnext : ∀ (τ' : Sg) (o4 o5 : Option Value), fr [39] σ τ' → (∀ c, c < 40 → ∃ v : Nat, τ' 39 c = nI v ∧ v ≤ 30000 ∧ (∀ j, j < i + 1 → σ 6 j = nI c → svk (σ 19) (σ 20) c (tn (σ 5 j)) ≤ v) ∧ (v = 0 ∨ ∃ j, j < i + 1 ∧ σ 6 j = nI c ∧ v = svk (σ 19) (σ 20) c (tn (σ 5 j)))) → ∃ n', n' < z0 - i ∧ iv_X6_weigh [.ref 38, .ref 4, .ref 18] σ n' 23 [some (.ref 38), some (.ref 4), some (.ref 18), some (.int (nI (i + 1))), o4, o5] [] τ' := fun τ' o4 o5 hf' h' =>
          ⟨z0 - (i + 1), by omega, rfl, rfl, hf', Or.inr ⟨rfl, i + 1, z0, o4, o5, hz, hz1, by omega, rfl, rfl, h'⟩⟩
        refine ⟨fun g2 => hnext τ1 _ _ hfr (fun c hc => ?_), fun g2 => ?_⟩
        · obtain ⟨v, h1, h2, h3, h4⟩ := hv c hc
          refine ⟨v, h1, h2, fun j hj ej => ?_, ?_⟩
          · by_cases e : j = i
            · subst e
              have : w = c := (nI_eq (by omega) (by omega)).mp (ew.symm.trans ej)
              subst this
              have h40 : isCx (nI 40) (nI w) = true := (isCx_iff (by omega)).mpr ⟨w, hc, rfl⟩
              rw [g2] at h40; cases h40
            · exact h3 j (by omega) ej
          · rcases h4 with h4 | ⟨j, hj, e1, e2⟩
            · exact Or.inl h4
            · exact Or.inr ⟨j, by omega, e1, e2⟩
        · have g2 : isCx (nI 40) (nI w) = true := by simpa using g2
          have hw40 : w < 40 := by
            obtain ⟨d, hd, e⟩ := (isCx_iff (by omega)).mp g2
            have := (nI_eq (by omega) (by omega)).mp e
            omega
          refine ⟨(kp_in (by omega)).mpr (by omega), ⟨_, rfl, tn (σ 5 i), hkey, tn_lt _⟩, ?_⟩
          rintro x4 τ3 ⟨rfl, rfl⟩
          refine ⟨⟨_, rfl, by rw [q19, q20, q21, q22]; exact hco, _, rfl, hkok.2⟩, ?_⟩
          rintro x6 τ5 ⟨rfl, rfl⟩
          have hlt : tn (σ 5 i) % 16777216 < 2 ^ 31 := by have := Nat.mod_lt (tn (σ 5 i)) (show 0 < 16777216 by decide); omega
          rw [tn_nI hlt, q19, q20, nI_clamp (show w < 2 ^ 31 by omega)]
          refine ⟨(kp_in (by omega)).mpr hw40, (kp_in (by omega)).mpr hw40, ⟨_, _, rfl⟩, ?_⟩
          rintro x8 τ7 ⟨rfl, rfl⟩
          obtain ⟨⟨u1, u2⟩, -⟩ := hco.2 w hw40
          obtain ⟨v, h1, h2, h3, h4⟩ := hv w hw40
          have hr := rst_le hco hkok.2
          have emax : (if τ7 39 w < σ 20 w * (nI 30 - nI (rst (σ 19) (tn (σ 5 i) % 16777216))) then σ 20 w * (nI 30 - nI (rst (σ 19) (tn (σ 5 i) % 16777216))) else τ7 39 w) = nI (max v (svk (σ 19) (σ 20) w (tn (σ 5 i)))) := by
            rw [h1, u1]
            exact max_sv u2 hr (by omega)
          rw [emax]
          have hsv := svk_le (st := σ 19) (k := tn (σ 5 i)) u2
          refine ⟨(kp_in (by omega)).mpr hw40, hnext _ _ _ (fr_up hfr (by decide)) (fun c hc => ?_)⟩
          by_cases e : c = w
          · subst e
            refine ⟨_, up_s, by omega, fun j hj ej => ?_, ?_⟩
            · by_cases e2 : j = i
              · subst e2; omega
              · have := h3 j (by omega) ej; omega
            · by_cases hm : v ≤ svk (σ 19) (σ 20) c (tn (σ 5 i))
              · exact Or.inr ⟨i, by omega, ew, by omega⟩
              · rcases h4 with h4 | ⟨j, hj, e1, e2⟩
                · omega
                · exact Or.inr ⟨j, by omega, e1, by omega⟩
          · obtain ⟨v', k1, k2, k3, k4⟩ := hv c hc
            refine ⟨v', by rw [up_n e]; exact k1, k2, fun j hj ej => ?_, ?_⟩
            · by_cases e2 : j = i
              · subst e2
                exact absurd ((nI_eq (by omega) (by omega)).mp (ej.symm.trans ew)) e
              · exact k3 j (by omega) ej
            · rcases k4 with k4 | ⟨j, hj, e1, e2⟩
              · exact Or.inl k4
              · exact Or.inr ⟨j, by omega, e1, e2⟩
def ahd (S : Nat → Nat) (c : Nat) : Nat → Nat
  | 0 => 0
  | d + 1 => ahd S c d + (if S c < S d ∨ (S d = S c ∧ d < c) then 1 else 0)
theorem ahd_le {S : Nat → Nat} {c : Nat} : ∀ d, ahd S c d ≤ d
  | 0 => Nat.le_refl _
  | d + 1 => by
    have := ahd_le (S := S) (c := c) d
    rw [ahd]; split <;> omega
theorem ahd_congr {S S' : Nat → Nat} {c : Nat} (hc : S c = S' c) : ∀ d, (∀ j, j < d → S j = S' j) → ahd S c d = ahd S' c d
  | 0, _ => rfl
  | d + 1, h => by rw [ahd, ahd, ahd_congr hc d (fun j hj => h j (by omega)), h d (by omega), hc]
/-- the command at a place of the list of those to be learnt -/
def rkd (S : Nat → Nat) (rank : Int32) : Nat → Nat → Int32
  | 0, _ => -1
  | f + 1, c => if 0 < S c ∧ nI (ahd S c 40) = rank then nI c else rkd S rank f (c + 1)
theorem rkd_s (S : Nat → Nat) (rank : Int32) (f c : Nat) : rkd S rank (f + 1) c = if 0 < S c ∧ nI (ahd S c 40) = rank then nI c else rkd S rank f (c + 1) := rfl
theorem rkd_congr {S S' : Nat → Nat} {rank : Int32} (h : ∀ j, j < 40 → S j = S' j) : ∀ (f c : Nat), c + f ≤ 40 → rkd S rank f c = rkd S' rank f c
  | 0, _, _ => rfl
  | f + 1, c, hc => by rw [rkd, rkd, rkd_congr h f (c + 1) (by omega), h c (by omega), ahd_congr (h c (by omega)) 40 h]
abbrev svS (σ : Sg) : Nat → Nat := fun c => tn (σ 39 c)
def pr_X6_countAhead : SPre := fun As σ => ∃ c : Int32, As = [.ref 38, .int c] ∧ ((∀ d, d < 40 → nn (σ 39 d)) ∧ ∃ k : Nat, c = nI k ∧ k < 40)
def po_X6_countAhead : SPost := fun As σ r τ => match As with
  | [.ref _, .int c] => (τ = σ ∧ r = nI (ahd (svS σ) (tn c) 40))
  | _ => True
def ms_X6_countAhead : List Me := []
theorem mk_X6_countAhead : ∀ q ∈ ms_X6_countAhead, kp_okM layC RX6 0 q := fun _ h => absurd h List.not_mem_nil
set_option maxRecDepth 100000 in
theorem v_X6_countAhead {J : Nat → Lcl → List Value → Sg → Prop} {Q : Int32 → Sg → Prop} (c : Int32) (σ : Sg) (h : J 4 [some (.ref 38), some (.int c), some (.int (nI 0)), some (.int (nI 0)), none] [] σ) : kp_T layC gl_X6 pl_X6 (ms_X6_countAhead) tb_X6_countAhead (kp_rk (some .int)) J Q 49 tb_X6_countAhead (kp_en [.ref 38, .int c] 5) [] σ := h
set_option maxRecDepth 100000 in
theorem v_X6_countAhead_4 {J : Nat → Lcl → List Value → Sg → Prop} {Q : Int32 → Sg → Prop} (c ah o : Int32) (o4 : Option Value) (σ : Sg) (h : (¬ o < (nI 40) → Q ah σ) ∧ (o < (nI 40) → vp_in o 40 ∧ (vp_in c 40 ∧ ((¬ (σ 39 (o).toNatClampNeg) = (σ 39 (c).toNatClampNeg) → vp_in o 40 ∧ (vp_in c 40 ∧ (((σ 39 (c).toNatClampNeg) < (σ 39 (o).toNatClampNeg) → J 4 [some (.ref 38), some (.int c), some (.int (ah + (nI 1))), some (.int (o + nI 1)), some (.int (nI 0))] [] σ) ∧ (¬ (σ 39 (c).toNatClampNeg) < (σ 39 (o).toNatClampNeg) → ((nI 0) = (nI 0) → J 4 [some (.ref 38), some (.int c), some (.int (ah + (nI 0))), some (.int (o + nI 1)), some (.int (nI 0))] [] σ) ∧ (¬ (nI 0) = (nI 0) → J 4 [some (.ref 38), some (.int c), some (.int (ah + (nI 1))), some (.int (o + nI 1)), some (.int (nI 0))] [] σ))))) ∧ ((σ 39 (o).toNatClampNeg) = (σ 39 (c).toNatClampNeg) → (¬ o < c → vp_in o 40 ∧ (vp_in c 40 ∧ (((σ 39 (c).toNatClampNeg) < (σ 39 (o).toNatClampNeg) → J 4 [some (.ref 38), some (.int c), some (.int (ah + (nI 1))), some (.int (o + nI 1)), some (.int (nI 0))] [] σ) ∧ (¬ (σ 39 (c).toNatClampNeg) < (σ 39 (o).toNatClampNeg) → ((nI 0) = (nI 0) → J 4 [some (.ref 38), some (.int c), some (.int (ah + (nI 0))), some (.int (o + nI 1)), some (.int (nI 0))] [] σ) ∧ (¬ (nI 0) = (nI 0) → J 4 [some (.ref 38), some (.int c), some (.int (ah + (nI 1))), some (.int (o + nI 1)), some (.int (nI 0))] [] σ))))) ∧ (o < c → vp_in o 40 ∧ (vp_in c 40 ∧ (((σ 39 (c).toNatClampNeg) < (σ 39 (o).toNatClampNeg) → J 4 [some (.ref 38), some (.int c), some (.int (ah + (nI 1))), some (.int (o + nI 1)), some (.int (nI 1))] [] σ) ∧ (¬ (σ 39 (c).toNatClampNeg) < (σ 39 (o).toNatClampNeg) → ((nI 1) = (nI 0) → J 4 [some (.ref 38), some (.int c), some (.int (ah + (nI 0))), some (.int (o + nI 1)), some (.int (nI 1))] [] σ) ∧ (¬ (nI 1) = (nI 0) → J 4 [some (.ref 38), some (.int c), some (.int (ah + (nI 1))), some (.int (o + nI 1)), some (.int (nI 1))] [] σ)))))))))) : kp_T1 layC gl_X6 pl_X6 (ms_X6_countAhead) tb_X6_countAhead (kp_rk (some .int)) J Q 49 4 [some (.ref 38), some (.int c), some (.int ah), some (.int o), o4] [] σ := h
abbrev iv_X6_countAhead : List Value → Sg → Nat → Nat → Lcl → List Value → Sg → Prop := fun As σ n pc ls st τ => pc = 4 ∧ st = [] ∧ τ = σ ∧ ∃ (k d : Nat) (o4 : Option Value), As = [.ref 38, .int (nI k)] ∧ k < 40 ∧ d ≤ 40 ∧ n = 40 - d ∧ ls = [some (.ref 38), some (.int (nI k)), some (.int (nI (ahd (svS σ) k d))), some (.int (nI d)), o4]
set_option maxRecDepth 100000 in
set_option maxHeartbeats 4000000 in
theorem c_X6_countAhead : kp_Met layC 0 yX6_countAhead cX6_countAhead 5 (some .int) (pr_X6_countAhead) (po_X6_countAhead) := by
  refine kp_met (N := 49) (by decide) tk_X6_countAhead gk_X6 pk_X6 (mk_X6_countAhead) rfl (iv_X6_countAhead) ?_ ?_
  · rintro As σ ⟨c, rfl, hp⟩
    refine ⟨⟨rfl, Nat.le_of_ble_eq_true rfl⟩, v_X6_countAhead c σ ?_⟩
    obtain ⟨hn, k, rfl, hk⟩ := hp
    exact ⟨40, rfl, rfl, rfl, k, 0, none, rfl, hk, by omega, rfl, rfl⟩
  · rintro As σ ⟨c, rfl, hp⟩ n pc ls st τ hI
    obtain ⟨hn, -⟩ := hp
    obtain ⟨rfl, rfl, rfl, k, d, o4, hAs, hk, hd, rfl, rfl⟩ := hI
    cases hAs
    have hle := ahd_le (S := svS τ) (c := k) d
    refine v_X6_countAhead_4 _ _ _ o4 τ ?_
    rw [nI_ltI (by omega) (by omega), nI_clamp (show d < 2 ^ 31 by omega), nI_clamp (show k < 2 ^ 31 by omega), nI_ltI (by omega) (by omega)]
    rw [show nI d + nI 1 = nI (d + 1) from nI_add _ _, show nI (ahd (svS τ) k d) + nI 1 = nI (ahd (svS τ) k d + 1) from nI_add _ _, show nI (ahd (svS τ) k d) + nI 0 = nI (ahd (svS τ) k d) from nI_add _ _]
    have hgo : ∀ (v : Nat) (o : Option Value), v = ahd (svS τ) k (d + 1) → d < 40 → ∃ n', n' < 40 - d ∧ iv_X6_countAhead [.ref 38, .int (nI k)] τ n' 4 [some (.ref 38), some (.int (nI k)), some (.int (nI v)), some (.int (nI (d + 1))), o] [] τ := by
      rintro v o rfl hd'
      exact ⟨40 - (d + 1), by omega, rfl, rfl, rfl, k, d + 1, o, rfl, hk, by omega, rfl, rfl⟩
    refine ⟨fun g => ⟨rfl, by rw [tn_nI (show k < 2 ^ 31 by omega), show d = 40 by omega]⟩, fun g => ?_⟩
    have hd1 := hn d g
    have hk1 := hn k hk
    have a1 : τ 39 d = τ 39 k ↔ tn (τ 39 d) = tn (τ 39 k) := by
      rw [show (τ 39 d = τ 39 k) = (nI (tn (τ 39 d)) = nI (tn (τ 39 k))) by rw [← hd1, ← hk1], nI_eq (tn_lt _) (tn_lt _)]
    have a2 : τ 39 k < τ 39 d ↔ tn (τ 39 k) < tn (τ 39 d) := by
      rw [show (τ 39 k < τ 39 d) = (nI (tn (τ 39 k)) < nI (tn (τ 39 d))) by rw [← hd1, ← hk1], nI_ltI (tn_lt _) (tn_lt _)]
    have b1 : vp_in (nI d) 40 := (kp_in (by omega)).mpr g
    have b2 : vp_in (nI k) 40 := (kp_in (by omega)).mpr hk
    have hs : ahd (svS τ) k (d + 1) = ahd (svS τ) k d + (if tn (τ 39 k) < tn (τ 39 d) ∨ (tn (τ 39 d) = tn (τ 39 k) ∧ d < k) then 1 else 0) := rfl
    rw [a1, a2]
    refine ⟨b1, b2, fun g1 => ⟨b1, b2, fun g2 => hgo _ _ (by rw [hs, if_pos (Or.inl g2)]) g, fun g2 => ⟨fun _ => hgo _ _ (by rw [hs, if_neg (by omega)]; rfl) g, fun z => absurd rfl z⟩⟩, fun g1 => ⟨fun g3 => ⟨b1, b2, fun g2 => by omega, fun g2 => ⟨fun _ => hgo _ _ (by rw [hs, if_neg (by omega)]; rfl) g, fun z => absurd rfl z⟩⟩, fun g3 => ⟨b1, b2, fun g2 => by omega, fun g2 => ⟨fun z => absurd z (by decide), fun _ => hgo _ _ (by rw [hs, if_pos (Or.inr ⟨g1, g3⟩)]) g⟩⟩⟩⟩
def pr_X6_ranked : SPre := fun As σ => ∃ rank : Int32, As = [.ref 38, .int rank] ∧ (∀ d, d < 40 → nn (σ 39 d))
def po_X6_ranked : SPost := fun As σ r τ => match As with
  | [.ref _, .int rank] => (τ = σ ∧ r = rkd (svS σ) rank 40 0)
  | _ => True
def ms_X6_ranked : List Me := [(49, 0, 6, 1, true, pr_X6_countAhead, po_X6_countAhead)]
theorem mk_X6_ranked : ∀ q ∈ ms_X6_ranked, kp_okM layC RX6 1 q := List.forall_mem_cons.mpr ⟨Or.inl ⟨0, yX6_countAhead, cX6_countAhead, 5, (some .int), c_X6_countAhead, by omega, by decide, rfl, lk_X6_49⟩, fun _ h => absurd h List.not_mem_nil⟩
set_option maxRecDepth 100000 in
theorem v_X6_ranked {J : Nat → Lcl → List Value → Sg → Prop} {Q : Int32 → Sg → Prop} (rank : Int32) (σ : Sg) (h : J 2 [some (.ref 38), some (.int rank), some (.int (nI 0))] [] σ) : kp_T layC gl_X6 pl_X6 (ms_X6_ranked) tb_X6_ranked (kp_rk (some .int)) J Q 30 tb_X6_ranked (kp_en [.ref 38, .int rank] 3) [] σ := h
set_option maxRecDepth 100000 in
theorem v_X6_ranked_2 {J : Nat → Lcl → List Value → Sg → Prop} {Q : Int32 → Sg → Prop} (rank c : Int32) (σ : Sg) (h : (¬ c < (nI 40) → Q (-1) σ) ∧ (c < (nI 40) → vp_in c 40 ∧ ((¬ (nI 0) < (σ 39 (c).toNatClampNeg) → J 2 [some (.ref 38), some (.int rank), some (.int (c + nI 1))] [] σ) ∧ ((nI 0) < (σ 39 (c).toNatClampNeg) → pr_X6_countAhead [.ref 38, .int c] σ ∧ ∀ (x2 : Int32) (τ1 : Sg), po_X6_countAhead [.ref 38, .int c] σ x2 τ1 → ((¬ x2 = rank → J 2 [some (.ref 38), some (.int rank), some (.int (c + nI 1))] [] τ1) ∧ (x2 = rank → Q c τ1)))))) : kp_T1 layC gl_X6 pl_X6 (ms_X6_ranked) tb_X6_ranked (kp_rk (some .int)) J Q 30 2 [some (.ref 38), some (.int rank), some (.int c)] [] σ := h
abbrev iv_X6_ranked : List Value → Sg → Nat → Nat → Lcl → List Value → Sg → Prop := fun As σ n pc ls st τ => pc = 2 ∧ st = [] ∧ τ = σ ∧ ∃ (rank : Int32) (c : Nat), As = [.ref 38, .int rank] ∧ c ≤ 40 ∧ n = 40 - c ∧ ls = [some (.ref 38), some (.int rank), some (.int (nI c))] ∧ rkd (svS σ) rank 40 0 = rkd (svS σ) rank (40 - c) c
set_option maxRecDepth 100000 in
set_option maxHeartbeats 4000000 in
theorem c_X6_ranked : kp_Met layC 1 yX6_ranked cX6_ranked 3 (some .int) (pr_X6_ranked) (po_X6_ranked) := by
  refine kp_met (N := 30) (by decide) tk_X6_ranked gk_X6 pk_X6 (mk_X6_ranked) rfl (iv_X6_ranked) ?_ ?_
  · rintro As σ ⟨rank, rfl, hp⟩
    refine ⟨⟨rfl, Nat.le_of_ble_eq_true rfl⟩, v_X6_ranked rank σ ?_⟩
    exact ⟨40, rfl, rfl, rfl, rank, 0, rfl, by omega, rfl, rfl, rfl⟩
  · rintro As σ ⟨rank, rfl, hp⟩ n pc ls st τ hI
    obtain ⟨rfl, rfl, rfl, rank', c, hAs, hc, rfl, rfl, hr⟩ := hI
    cases hAs
    refine v_X6_ranked_2 _ _ τ ?_
    rw [nI_ltI (by omega) (by omega), nI_clamp (show c < 2 ^ 31 by omega), show nI c + nI 1 = nI (c + 1) from nI_add _ _]
    refine ⟨fun g => ⟨rfl, by rw [hr, show 40 - c = 0 by omega]; rfl⟩, fun g => ⟨(kp_in (by omega)).mpr g, ?_⟩⟩
    rw [show 40 - c = (40 - (c + 1)) + 1 by omega, rkd_s _ _ (40 - (c + 1)) c] at hr
    have hn := hp c g
    have a2 : nI 0 < τ 39 c ↔ 0 < svS τ c := by
      rw [show (nI 0 < τ 39 c) = (nI 0 < nI (tn (τ 39 c))) by rw [← hn], nI_ltI (by omega) (tn_lt _)]
    rw [a2]
    refine ⟨fun g1 => ⟨40 - (c + 1), by omega, rfl, rfl, rfl, rank, c + 1, rfl, by omega, rfl, rfl, by rw [hr, if_neg (fun z => g1 z.1)]⟩, fun g1 => ⟨⟨_, rfl, hp, c, rfl, g⟩, ?_⟩⟩
    rintro x2 τ1 ⟨rfl, rfl⟩
    rw [tn_nI (show c < 2 ^ 31 by omega)]
    exact ⟨fun g2 => ⟨40 - (c + 1), by omega, rfl, rfl, rfl, rank, c + 1, rfl, by omega, rfl, rfl, by rw [hr, if_neg (fun z => g2 z.2)]⟩, fun g2 => ⟨rfl, by rw [hr, if_pos ⟨g1, g2⟩]⟩⟩
