/-! a map's writes -/
theorem lk_ins {ks ks' : Nat → Nat} {cs cs' : Nat → Int32} {z p k : Nat} {c : Int32} (hp : p ≤ z) (hj : ∀ a b, a < z → b < z → ks a = ks b → a = b) (hj' : ∀ a b, a < z + 1 → b < z + 1 → ks' a = ks' b → a = b) (h1 : ∀ i, i < p → ks' i = ks i ∧ cs' i = cs i) (h2 : ks' p = k ∧ cs' p = c) (h3 : ∀ i, p ≤ i → i < z → ks' (i + 1) = ks i ∧ cs' (i + 1) = cs i) (k' : Nat) : lk ks' cs' (z + 1) k' = if k' = k then c else lk ks cs z k' := by
  by_cases hk : k' = k
  · rw [if_pos hk, hk, ← h2.1, lk_at hj' (by omega), h2.2]
  · rw [if_neg hk]
    by_cases he : ∃ i, i < z ∧ ks i = k'
    · obtain ⟨i, hi, rfl⟩ := he
      rw [lk_at hj hi]
      by_cases hip : i < p
      · rw [← (h1 i hip).1, lk_at hj' (by omega), (h1 i hip).2]
      · rw [← (h3 i (by omega) hi).1, lk_at hj' (by omega), (h3 i (by omega) hi).2]
    · rw [lk_none (fun i hi e => he ⟨i, hi, e⟩)]
      refine lk_none (fun i hi e => ?_)
      rcases Nat.lt_trichotomy i p with q | q | q
      · exact he ⟨i, by omega, by rw [← (h1 i q).1]; exact e⟩
      · subst q; exact hk (by rw [← e, h2.1])
      · obtain ⟨j, rfl⟩ : ∃ j, i = j + 1 := ⟨i - 1, by omega⟩
        exact he ⟨j, by omega, by rw [← (h3 j (by omega) (by omega)).1]; exact e⟩
theorem lk_del {ks ks' : Nat → Nat} {cs cs' : Nat → Int32} {z p : Nat} (hp : p < z) (hj : ∀ a b, a < z → b < z → ks a = ks b → a = b) (hj' : ∀ a b, a < z - 1 → b < z - 1 → ks' a = ks' b → a = b) (h1 : ∀ i, i < p → ks' i = ks i ∧ cs' i = cs i) (h3 : ∀ i, p ≤ i → i + 1 < z → ks' i = ks (i + 1) ∧ cs' i = cs (i + 1)) (k' : Nat) : lk ks' cs' (z - 1) k' = if k' = ks p then -1 else lk ks cs z k' := by
  by_cases hk : k' = ks p
  · rw [if_pos hk]
    refine lk_none (fun i hi e => ?_)
    by_cases hip : i < p
    · have := hj i p (by omega) hp (by rw [← (h1 i hip).1, e, hk]); omega
    · have := hj (i + 1) p (by omega) hp (by rw [← (h3 i (by omega) (by omega)).1, e, hk]); omega
  · rw [if_neg hk]
    by_cases he : ∃ i, i < z ∧ ks i = k'
    · obtain ⟨i, hi, rfl⟩ := he
      rw [lk_at hj hi]
      rcases Nat.lt_trichotomy i p with q | q | q
      · rw [← (h1 i q).1, lk_at hj' (by omega), (h1 i q).2]
      · subst q; exact absurd rfl hk
      · obtain ⟨j, rfl⟩ : ∃ j, i = j + 1 := ⟨i - 1, by omega⟩
        rw [← (h3 j (by omega) hi).1, lk_at hj' (by omega), (h3 j (by omega) hi).2]
    · rw [lk_none (fun i hi e => he ⟨i, hi, e⟩)]
      refine lk_none (fun i hi e => ?_)
      by_cases hip : i < p
      · exact he ⟨i, by omega, by rw [← (h1 i hip).1]; exact e⟩
      · exact he ⟨i + 1, by omega, by rw [← (h3 i (by omega) (by omega)).1]; exact e⟩
theorem lk_set {ks : Nat → Nat} {cs cs' : Nat → Int32} {z p : Nat} {c : Int32} (hp : p < z) (hj : ∀ a b, a < z → b < z → ks a = ks b → a = b) (h1 : ∀ i, i ≠ p → cs' i = cs i) (h2 : cs' p = c) (k' : Nat) : lk ks cs' z k' = if k' = ks p then c else lk ks cs z k' := by
  by_cases hk : k' = ks p
  · rw [if_pos hk, hk, lk_at hj hp, h2]
  · rw [if_neg hk]
    by_cases he : ∃ i, i < z ∧ ks i = k'
    · obtain ⟨i, hi, rfl⟩ := he
      rw [lk_at hj hi, lk_at hj hi, h1 i (fun q => hk (by rw [q]))]
    · rw [lk_none (fun i hi e => he ⟨i, hi, e⟩), lk_none (fun i hi e => he ⟨i, hi, e⟩)]
def shU (f : Nat → Int32) (i z : Nat) : Nat → Int32 := fun j => if j ≤ i then f j else if j ≤ z then f (j - 1) else f j
def shD (f : Nat → Int32) (p i : Nat) : Nat → Int32 := fun j => if p ≤ j ∧ j < i then f (j + 1) else f j
theorem shU_0 {f : Nat → Int32} {z : Nat} : shU f z z = f := by
  funext j; unfold shU; split
  · rfl
  · rfl
theorem shU_s {f : Nat → Int32} {i z : Nat} (h0 : 0 < i) (hz : i ≤ z) : upd (shU f i z) i (shU f i z (i - 1)) = shU f (i - 1) z := by
  funext j
  unfold upd shU
  by_cases e : j = i
  · subst e
    rw [if_pos rfl, if_pos (by omega), if_neg (by omega), if_pos hz]
  · rw [if_neg e]
    by_cases h1 : j ≤ i
    · rw [if_pos h1, if_pos (by omega)]
    · rw [if_neg h1]
      by_cases h2 : j ≤ z
      · rw [if_pos h2, if_neg (by omega)]
      · rw [if_neg h2, if_neg (by omega)]
theorem shD_0 {f : Nat → Int32} {p : Nat} : shD f p p = f := by
  funext j; unfold shD; rw [if_neg (by omega)]
theorem shD_s {f : Nat → Int32} {p i : Nat} (h : p ≤ i) : upd (shD f p i) i (shD f p i (i + 1)) = shD f p (i + 1) := by
  funext j
  unfold upd shD
  by_cases e : j = i
  · subst e
    rw [if_pos rfl, if_neg (by omega), if_pos (by omega)]
  · rw [if_neg e]
    by_cases h1 : p ≤ j ∧ j < i
    · rw [if_pos h1, if_pos (by omega)]
    · rw [if_neg h1, if_neg (by omega)]
def pr_X1_openGap : SPre := fun As σ => ∃ p : Int32, As = [.ref 4, .int p] ∧ (∃ z q : Nat, σ 4 2 = nI z ∧ z < 120 ∧ p = nI q ∧ q ≤ z)
def po_X1_openGap : SPost := fun As σ r τ => match As with
  | [.ref _, .int p] => (fr [4, 5, 6] σ τ ∧ τ 4 2 = σ 4 2 + nI 1 ∧ τ 5 = shU (σ 5) (tn p) (tn (σ 4 2)) ∧ τ 6 = shU (σ 6) (tn p) (tn (σ 4 2)))
  | _ => True
def ms_X1_openGap : List Me := []
theorem mk_X1_openGap : ∀ q ∈ ms_X1_openGap, kp_okM layC RX1 0 q := fun _ h => absurd h List.not_mem_nil
set_option maxRecDepth 100000 in
theorem v_X1_openGap {J : Nat → Lcl → List Value → Sg → Prop} {Q : Int32 → Sg → Prop} (p : Int32) (σ : Sg) (h : J 5 [some (.ref 4), some (.int p), some (.int (σ 4 2))] [] σ) : kp_T layC gl_X1 pl_X1 (ms_X1_openGap) tb_X1_openGap (kp_rk none) J Q 40 tb_X1_openGap (kp_en [.ref 4, .int p] 3) [] σ := h
set_option maxRecDepth 100000 in
theorem v_X1_openGap_5 {J : Nat → Lcl → List Value → Sg → Prop} {Q : Int32 → Sg → Prop} (p i : Int32) (σ : Sg) (h : (¬ p < i → Q (nI 0) (kp_up σ 4 2 ((σ 4 2) + (nI 1)))) ∧ (p < i → vp_in (i - (nI 1)) 120 ∧ (vp_in i 120 ∧ (vp_in (i - (nI 1)) 120 ∧ (vp_in i 120 ∧ (J 5 [some (.ref 4), some (.int p), some (.int (i + (-1)))] [] (kp_up (kp_up σ 5 (i).toNatClampNeg (σ 5 (i - (nI 1)).toNatClampNeg)) 6 (i).toNatClampNeg ((kp_up σ 5 (i).toNatClampNeg (σ 5 (i - (nI 1)).toNatClampNeg)) 6 (i - (nI 1)).toNatClampNeg)))))))) : kp_T1 layC gl_X1 pl_X1 (ms_X1_openGap) tb_X1_openGap (kp_rk none) J Q 40 5 [some (.ref 4), some (.int p), some (.int i)] [] σ := h
abbrev iv_X1_openGap : List Value → Sg → Nat → Nat → Lcl → List Value → Sg → Prop := fun As σ n pc ls st τ => pc = 5 ∧ st = [] ∧ ∃ z q i : Nat, σ 4 2 = nI z ∧ z < 120 ∧ As = [.ref 4, .int (nI q)] ∧ q ≤ i ∧ i ≤ z ∧ ls = [some (.ref 4), some (.int (nI q)), some (.int (nI i))] ∧ n = i ∧ fr [5, 6] σ τ ∧ τ 5 = shU (σ 5) i z ∧ τ 6 = shU (σ 6) i z
set_option maxRecDepth 100000 in
set_option maxHeartbeats 4000000 in
theorem c_X1_openGap : kp_Met layC 0 yX1_openGap cX1_openGap 3 none (pr_X1_openGap) (po_X1_openGap) := by
  refine kp_met (N := 40) (by decide) tk_X1_openGap gk_X1 pk_X1 (mk_X1_openGap) rfl (iv_X1_openGap) ?_ ?_
  · rintro As σ ⟨p, rfl, hp⟩
    refine ⟨⟨rfl, Nat.le_of_ble_eq_true rfl⟩, v_X1_openGap p σ ?_⟩
    obtain ⟨z, q, h1, h2, rfl, h3⟩ := hp
    exact ⟨z, rfl, rfl, z, q, z, h1, h2, rfl, h3, by omega, by rw [h1], rfl, fr_rf, shU_0.symm, shU_0.symm⟩
  · rintro As σ ⟨p, rfl, hp⟩ n pc ls st τ hI
    obtain ⟨rfl, rfl, z, q, i, h1, h2, hAs, h3, h4, rfl, rfl, h5, h6, h7⟩ := hI
    cases hAs
    have h42 : τ 4 = σ 4 := h5 4 (by decide)
    refine v_X1_openGap_5 _ _ τ ?_
    rw [nI_ltI (by omega) (by omega)]
    refine ⟨fun g1 => ?_, fun g1 => ?_⟩
    · have : n = q := by omega
      subst this
      refine ⟨fr_up (fr_mono h5 (by decide)) (by decide), by rw [up_s, h42], ?_, ?_⟩
      · rw [up_c (by decide), h6, tn_nI (by omega), h1, tn_nI (by omega)]
      · rw [up_c (by decide), h7, tn_nI (by omega), h1, tn_nI (by omega)]
    · rw [pk_sub (show 1 ≤ n by omega), nI_clamp (show n < 2 ^ 31 by omega), nI_clamp (show n - 1 < 2 ^ 31 by omega), kp_in (by omega), kp_in (by omega)]
      refine ⟨by omega, by omega, by omega, by omega, n - 1, by omega, rfl, rfl, z, q, n - 1, h1, h2, rfl, by omega, by omega, ?_, rfl, ?_, ?_, ?_⟩
      · rw [show nI n + (-1) = nI (n - 1) by obtain ⟨k, rfl⟩ : ∃ k, n = k + 1 := ⟨n - 1, by omega⟩; exact pk_m1 k]
      · exact fr_up (fr_up h5 (by decide)) (by decide)
      · rw [up_c (by decide), kp_up_eq, h6]; exact shU_s (by omega) h4
      · rw [kp_up_eq, up_c (by decide), h7]; exact shU_s (by omega) h4
def pr_X1_closeGap : SPre := fun As σ => ∃ p : Int32, As = [.ref 4, .int p] ∧ (∃ z q : Nat, σ 4 2 = nI z ∧ z ≤ 120 ∧ p = nI q ∧ q < z)
def po_X1_closeGap : SPost := fun As σ r τ => match As with
  | [.ref _, .int p] => (fr [4, 5, 6] σ τ ∧ τ 4 2 = σ 4 2 - nI 1 ∧ τ 5 = shD (σ 5) (tn p) (tn (σ 4 2) - 1) ∧ τ 6 = shD (σ 6) (tn p) (tn (σ 4 2) - 1))
  | _ => True
def ms_X1_closeGap : List Me := []
theorem mk_X1_closeGap : ∀ q ∈ ms_X1_closeGap, kp_okM layC RX1 0 q := fun _ h => absurd h List.not_mem_nil
set_option maxRecDepth 100000 in
theorem v_X1_closeGap {J : Nat → Lcl → List Value → Sg → Prop} {Q : Int32 → Sg → Prop} (p : Int32) (σ : Sg) (h : J 12 [some (.ref 4), some (.int p), some (.int p)] [] (kp_up σ 4 2 ((σ 4 2) - (nI 1)))) : kp_T layC gl_X1 pl_X1 (ms_X1_closeGap) tb_X1_closeGap (kp_rk none) J Q 40 tb_X1_closeGap (kp_en [.ref 4, .int p] 3) [] σ := h
set_option maxRecDepth 100000 in
theorem v_X1_closeGap_12 {J : Nat → Lcl → List Value → Sg → Prop} {Q : Int32 → Sg → Prop} (p i : Int32) (σ : Sg) (h : (¬ i < (σ 4 2) → Q (nI 0) σ) ∧ (i < (σ 4 2) → vp_in (i + (nI 1)) 120 ∧ (vp_in i 120 ∧ (vp_in (i + (nI 1)) 120 ∧ (vp_in i 120 ∧ (J 12 [some (.ref 4), some (.int p), some (.int (i + nI 1))] [] (kp_up (kp_up σ 5 (i).toNatClampNeg (σ 5 (i + (nI 1)).toNatClampNeg)) 6 (i).toNatClampNeg ((kp_up σ 5 (i).toNatClampNeg (σ 5 (i + (nI 1)).toNatClampNeg)) 6 (i + (nI 1)).toNatClampNeg)))))))) : kp_T1 layC gl_X1 pl_X1 (ms_X1_closeGap) tb_X1_closeGap (kp_rk none) J Q 40 12 [some (.ref 4), some (.int p), some (.int i)] [] σ := h
abbrev iv_X1_closeGap : List Value → Sg → Nat → Nat → Lcl → List Value → Sg → Prop := fun As σ n pc ls st τ => pc = 12 ∧ st = [] ∧ ∃ z q i : Nat, σ 4 2 = nI z ∧ z ≤ 120 ∧ As = [.ref 4, .int (nI q)] ∧ q ≤ i ∧ i < z ∧ ls = [some (.ref 4), some (.int (nI q)), some (.int (nI i))] ∧ n = z - i ∧ fr [4, 5, 6] σ τ ∧ τ 4 2 = nI (z - 1) ∧ τ 5 = shD (σ 5) q i ∧ τ 6 = shD (σ 6) q i
set_option maxRecDepth 100000 in
set_option maxHeartbeats 4000000 in
theorem c_X1_closeGap : kp_Met layC 0 yX1_closeGap cX1_closeGap 3 none (pr_X1_closeGap) (po_X1_closeGap) := by
  refine kp_met (N := 40) (by decide) tk_X1_closeGap gk_X1 pk_X1 (mk_X1_closeGap) rfl (iv_X1_closeGap) ?_ ?_
  · rintro As σ ⟨p, rfl, hp⟩
    refine ⟨⟨rfl, Nat.le_of_ble_eq_true rfl⟩, v_X1_closeGap p σ ?_⟩
    obtain ⟨z, q, h1, h2, rfl, h3⟩ := hp
    exact ⟨z - q, rfl, rfl, z, q, q, h1, h2, rfl, by omega, h3, rfl, rfl, fr_up fr_rf (by decide), by rw [up_s, h1, pk_sub (by omega)], by rw [up_c (by decide), shD_0], by rw [up_c (by decide), shD_0]⟩
  · rintro As σ ⟨p, rfl, hp⟩ n pc ls st τ hI
    obtain ⟨rfl, rfl, z, q, i, h1, h2, hAs, h3, h4, rfl, rfl, h5, h8, h6, h7⟩ := hI
    cases hAs
    refine v_X1_closeGap_12 _ _ τ ?_
    rw [h8, nI_ltI (by omega) (by omega)]
    refine ⟨fun g1 => ?_, fun g1 => ?_⟩
    · have : i = z - 1 := by omega
      subst this
      refine ⟨h5, ?_, ?_, ?_⟩
      · rw [h8, h1, pk_sub (by omega)]
      · rw [h6, tn_nI (by omega), h1, tn_nI (by omega)]
      · rw [h7, tn_nI (by omega), h1, tn_nI (by omega)]
    · rw [nI_add, nI_clamp (show i < 2 ^ 31 by omega), nI_clamp (show i + 1 < 2 ^ 31 by omega), kp_in (by omega), kp_in (by omega)]
      refine ⟨by omega, by omega, by omega, by omega, z - (i + 1), by omega, rfl, rfl, z, q, i + 1, h1, h2, rfl, by omega, by omega, rfl, rfl, ?_, ?_, ?_, ?_⟩
      · exact fr_up (fr_up h5 (by decide)) (by decide)
      · rw [up_c (by decide), up_c (by decide), h8]
      · rw [up_c (by decide), kp_up_eq, h6]; exact shD_s h3
      · rw [kp_up_eq, up_c (by decide), h7]; exact shD_s h3
def szp (z : Nat) (m0 c : Int32) : Nat := if c = -1 then (if m0 = -1 then z else z - 1) else (if m0 = -1 then z + 1 else z)
def pr_X1_put : SPre := fun As σ => ∃ key : Int32, ∃ c : Int32, As = [.ref 4, .int key, .int c] ∧ (bOK (σ 5) (σ 6) (σ 4 2) ∧ (∃ k : Nat, key = nI k ∧ keyOK k) ∧ (c = -1 ∨ ∃ v : Nat, v ≤ 40 ∧ c = nI v) ∧ (c ≠ -1 → mpC (σ 5) (σ 6) (σ 4 2) (tn key) = -1 → tn (σ 4 2) < 120))
def po_X1_put : SPost := fun As σ r τ => match As with
  | [.ref _, .int key, .int c] => (bOK (τ 5) (τ 6) (τ 4 2) ∧ fr [4, 5, 6] σ τ ∧ (∀ k, mpC (τ 5) (τ 6) (τ 4 2) k = if k = tn key then c else mpC (σ 5) (σ 6) (σ 4 2) k) ∧ tn (τ 4 2) = szp (tn (σ 4 2)) (mpC (σ 5) (σ 6) (σ 4 2) (tn key)) c)
  | _ => True
def ms_X1_put : List Me := [(23, 0, 1, 1, true, pr_X1_place, po_X1_place), (27, 0, 1, 2, true, pr_X1_isAt, po_X1_isAt), (31, 0, 1, 1, false, pr_X1_closeGap, po_X1_closeGap), (35, 0, 1, 1, false, pr_X1_openGap, po_X1_openGap)]
theorem mk_X1_put : ∀ q ∈ ms_X1_put, kp_okM layC RX1 1 q := List.forall_mem_cons.mpr ⟨Or.inl ⟨0, yX1_place, cX1_place, 6, (some .int), c_X1_place, by omega, by decide, rfl, lk_X1_23⟩, List.forall_mem_cons.mpr ⟨Or.inl ⟨0, yX1_isAt, cX1_isAt, 3, (some .boolean), c_X1_isAt, by omega, by decide, rfl, lk_X1_27⟩, List.forall_mem_cons.mpr ⟨Or.inl ⟨0, yX1_closeGap, cX1_closeGap, 3, none, c_X1_closeGap, by omega, by decide, rfl, lk_X1_31⟩, List.forall_mem_cons.mpr ⟨Or.inl ⟨0, yX1_openGap, cX1_openGap, 3, none, c_X1_openGap, by omega, by decide, rfl, lk_X1_35⟩, fun _ h => absurd h List.not_mem_nil⟩⟩⟩⟩
set_option maxRecDepth 100000 in
theorem v_X1_put {J : Nat → Lcl → List Value → Sg → Prop} {Q : Int32 → Sg → Prop} (key c : Int32) (σ : Sg) (h : pr_X1_place [.ref 4, .int key] σ ∧ ∀ (x2 : Int32) (τ1 : Sg), po_X1_place [.ref 4, .int key] σ x2 τ1 → (pr_X1_isAt [.ref 4, .int x2, .int key] τ1 ∧ ∀ (x4 : Int32) (τ3 : Sg), po_X1_isAt [.ref 4, .int x2, .int key] τ1 x4 τ3 → ((¬ c = (-1) → (¬ x4 = (nI 0) → vp_in x2 120 ∧ (Q (nI 0) (kp_up τ3 6 (x2).toNatClampNeg c))) ∧ (x4 = (nI 0) → ((τ3 4 2) < (nI 120) → pr_X1_openGap [.ref 4, .int x2] τ3 ∧ ∀ (τ5 : Sg), po_X1_openGap [.ref 4, .int x2] τ3 (nI 0) τ5 → (vp_in x2 120 ∧ (vp_in x2 120 ∧ (Q (nI 0) (kp_up (kp_up τ5 5 (x2).toNatClampNeg key) 6 (x2).toNatClampNeg c))))) ∧ (¬ (τ3 4 2) < (nI 120) → Q (nI 0) τ3))) ∧ (c = (-1) → (x4 = (nI 0) → Q (nI 0) τ3) ∧ (¬ x4 = (nI 0) → pr_X1_closeGap [.ref 4, .int x2] τ3 ∧ ∀ (τ6 : Sg), po_X1_closeGap [.ref 4, .int x2] τ3 (nI 0) τ6 → (Q (nI 0) τ6)))))) : kp_T layC gl_X1 pl_X1 (ms_X1_put) tb_X1_put (kp_rk none) J Q 44 tb_X1_put (kp_en [.ref 4, .int key, .int c] 5) [] σ := h
set_option maxRecDepth 100000 in
set_option maxHeartbeats 4000000 in
theorem c_X1_put : kp_Met layC 1 yX1_put cX1_put 5 none (pr_X1_put) (po_X1_put) := by
  refine kp_met (N := 44) (by decide) tk_X1_put gk_X1 pk_X1 (mk_X1_put) rfl (fun _ _ _ _ _ _ _ => False) ?_ (fun _ _ _ _ _ _ _ _ h => h.elim)
  rintro As σ ⟨key, c, rfl, hp⟩
  refine ⟨⟨rfl, Nat.le_of_ble_eq_true rfl⟩, v_X1_put key c σ ?_⟩
  obtain ⟨hbo, ⟨k, rfl, hk⟩, hc, hroom⟩ := hp
  have hkl := keyOK_lt hk
  obtain ⟨z, hz, h1, h2, h3⟩ := id hbo
  have e1 : tn (σ 4 2) = z := by rw [hz, tn_nI (by omega)]
  have ek : tn (nI k) = k := tn_nI (by omega)
  rw [ek, e1] at hroom
  refine ⟨⟨4, _, rfl, Or.inl rfl, hbo, k, rfl, by omega⟩, ?_⟩
  rintro x2 τ1 ⟨rfl, p, rfl, h4, h5, h6⟩
  rw [ek] at h5 h6
  rw [e1] at h4 h6
  simp only [Nat.reduceAdd] at h5 h6
  refine ⟨⟨4, _, _, rfl, Or.inl rfl, ⟨z, hz, h1⟩, p, rfl, by omega⟩, ?_⟩
  rintro x4 τ3 ⟨rfl, rfl⟩
  have ep : tn (nI p) = p := tn_nI (by omega)
  have hinj : ∀ a b, a < z → b < z → tn (τ3 5 a) = tn (τ3 5 b) → a = b := srt_inj (f := fun i => tn (τ3 5 i)) h3
  have hM : ∀ j, mpC (τ3 5) (τ3 6) (τ3 4 2) j = lk (fun i => tn (τ3 5 i)) (τ3 6) z j := fun j => by unfold mpC; rw [e1]
  have habs : ¬ (p < z ∧ τ3 5 p = nI k) → ∀ i, i < z → tn (τ3 5 i) ≠ k := by
    intro q1 i hi e
    by_cases hip : i < p
    · have := h5 i hip; omega
    · by_cases hi2 : i = p
      · subst hi2; exact q1 ⟨hi, by rw [(h2 i hi).1, e]⟩
      · have a1 := h6 p (by omega) (by omega)
        have a2 := h3 p i (by omega) hi
        omega
  rw [bI_0, e1, ep]
  show _ ∧ _
  have hcl : (nI p).toNatClampNeg = p := nI_clamp (by omega)
  rw [hcl, hz, nI_ltI (by omega) (by omega)]
  refine ⟨fun q1 => ⟨fun q2 => ?_, fun q2 => ⟨fun q3 => ?_, fun q3 => ?_⟩⟩, fun q1 => ⟨fun q2 => ?_, fun q2 => ?_⟩⟩
  · -- there, another command
    have q2 := of_decide_eq_true (show decide _ = true by simpa using q2)
    obtain ⟨v, hv, rfl⟩ := hc.resolve_left q1
    have hkp : tn (τ3 5 p) = k := by rw [q2.2, ek]
    have hset : ∀ k', lk (fun i => tn (τ3 5 i)) (upd (τ3 6) p (nI v)) z k' = if k' = k then nI v else lk (fun i => tn (τ3 5 i)) (τ3 6) z k' := by
      intro k'
      rw [lk_set (ks := fun i => tn (τ3 5 i)) (cs := τ3 6) q2.1 hinj (fun i hi => by simp [upd, hi]) (show upd (τ3 6) p (nI v) p = nI v by simp [upd])]
      simp only [hkp]
    refine ⟨(kp_in (by omega)).mpr (by omega), ?_, fr_up fr_rf (by decide), ?_, ?_⟩
    · simp (disch := decide) only [up_c, kp_up_eq, pk_us, pk_un]
      refine ⟨z, hz, h1, fun i hi => ⟨(h2 i hi).1, (h2 i hi).2.1, ?_⟩, h3⟩
      by_cases e : i = p
      · exact ⟨v, hv, by simp [upd, e]⟩
      · obtain ⟨w, hw, ew⟩ := (h2 i hi).2.2
        exact ⟨w, hw, by simp [upd, e, ew]⟩
    · intro k'
      simp (disch := decide) only [up_c, kp_up_eq, pk_us, pk_un]
      rw [ek]
      unfold mpC
      rw [e1]
      exact hset k'
    · rw [up_c (by decide), e1]
      have : mpC (τ3 5) (τ3 6) (τ3 4 2) (tn (nI k)) ≠ -1 := by
        rw [ek, hM, ← hkp, lk_at (ks := fun i => tn (τ3 5 i)) hinj q2.1]
        obtain ⟨w, hw, ew⟩ := (h2 p q2.1).2.2
        rw [ew]; exact nI_m1 (by omega)
      unfold szp
      rw [if_neg q1, if_neg this]
  · -- new
    have q2 := of_decide_eq_false q2
    have hab := habs q2
    obtain ⟨v, hv, rfl⟩ := hc.resolve_left q1
    refine ⟨⟨_, rfl, z, p, hz, q3, rfl, h4⟩, ?_⟩
    rintro τ5 ⟨f1, f2, f3, f4⟩
    rw [ep, e1] at f3 f4
    rw [hz, nI_add] at f2
    have hkb : ∀ i, i < p → upd (τ5 5) p (nI k) i = τ3 5 i := fun i hi => by simp only [upd]; rw [if_neg (by omega), f3]; simp only [shU]; rw [if_pos (by omega)]
    have hcb : ∀ i, i < p → upd (τ5 6) p (nI v) i = τ3 6 i := fun i hi => by simp only [upd]; rw [if_neg (by omega), f4]; simp only [shU]; rw [if_pos (by omega)]
    have hka : ∀ i, p ≤ i → i < z → upd (τ5 5) p (nI k) (i + 1) = τ3 5 i := fun i hi hz' => by simp only [upd]; rw [if_neg (by omega), f3]; simp only [shU]; rw [if_neg (by omega), if_pos (by omega), Nat.add_sub_cancel]
    have hca : ∀ i, p ≤ i → i < z → upd (τ5 6) p (nI v) (i + 1) = τ3 6 i := fun i hi hz' => by simp only [upd]; rw [if_neg (by omega), f4]; simp only [shU]; rw [if_neg (by omega), if_pos (by omega), Nat.add_sub_cancel]
    have hkp : upd (τ5 5) p (nI k) p = nI k := by simp [upd]
    have hcp : upd (τ5 6) p (nI v) p = nI v := by simp [upd]
    have hsrt : ∀ i j, i < j → j < z + 1 → tn (upd (τ5 5) p (nI k) i) < tn (upd (τ5 5) p (nI k) j) := by
      intro i j hij hj
      rcases Nat.lt_trichotomy j p with a | a | a
      · rw [hkb i (by omega), hkb j a]; exact h3 i j hij (by omega)
      · subst a; rw [hkb i hij, hkp, ek]; exact h5 i hij
      · obtain ⟨j, rfl⟩ : ∃ j', j = j' + 1 := ⟨j - 1, by omega⟩
        rw [hka j (by omega) (by omega)]
        rcases Nat.lt_trichotomy i p with b | b | b
        · rw [hkb i b]; exact h3 i j (by omega) (by omega)
        · subst b
          rw [hkp, ek]
          have a1 := h6 j (by omega) (by omega)
          have a2 := hab j (by omega)
          omega
        · obtain ⟨i, rfl⟩ : ∃ i', i = i' + 1 := ⟨i - 1, by omega⟩
          rw [hka i (by omega) (by omega)]; exact h3 i j (by omega) (by omega)
    have hcell : ∀ i, i < z + 1 → (upd (τ5 5) p (nI k) i = nI (tn (upd (τ5 5) p (nI k) i)) ∧ keyOK (tn (upd (τ5 5) p (nI k) i)) ∧ ∃ w : Nat, w ≤ 40 ∧ upd (τ5 6) p (nI v) i = nI w) := by
      intro i hi
      rcases Nat.lt_trichotomy i p with a | a | a
      · rw [hkb i a, hcb i a]; exact h2 i (by omega)
      · subst a; rw [hkp, hcp, ek]; exact ⟨rfl, hk, v, hv, rfl⟩
      · obtain ⟨i, rfl⟩ : ∃ i', i = i' + 1 := ⟨i - 1, by omega⟩
        rw [hka i (by omega) (by omega), hca i (by omega) (by omega)]; exact h2 i (by omega)
    have g5 : kp_up (kp_up τ5 5 p (nI k)) 6 p (nI v) 5 = upd (τ5 5) p (nI k) := by rw [up_c (by decide), kp_up_eq]
    have g6 : kp_up (kp_up τ5 5 p (nI k)) 6 p (nI v) 6 = upd (τ5 6) p (nI v) := by rw [kp_up_eq, up_c (by decide)]
    have g4 : kp_up (kp_up τ5 5 p (nI k)) 6 p (nI v) 4 2 = nI (z + 1) := by rw [up_c (by decide), up_c (by decide), f2]
    refine ⟨(kp_in (by omega)).mpr (by omega), (kp_in (by omega)).mpr (by omega), ?_, fr_up (fr_up f1 (by decide)) (by decide), ?_, ?_⟩
    · rw [g5, g6, g4]
      exact ⟨z + 1, rfl, by omega, hcell, hsrt⟩
    · intro k'
      rw [g5, g6, g4, hM, ek]
      unfold mpC
      rw [tn_nI (by omega)]
      exact lk_ins h4 hinj (srt_inj hsrt) (fun i hi => ⟨by rw [hkb i hi], hcb i hi⟩) ⟨by rw [hkp, ek], hcp⟩ (fun i a b => ⟨by rw [hka i a b], hca i a b⟩) k'
    · rw [g4, tn_nI (by omega), e1]
      have : mpC (τ3 5) (τ3 6) (τ3 4 2) (tn (nI k)) = -1 := by rw [ek, hM]; exact lk_none hab
      unfold szp
      rw [if_neg q1, if_pos this]
  · -- no room: not so
    have q2 := of_decide_eq_false q2
    exact absurd (hroom q1 (by rw [hM]; exact lk_none (habs q2))) q3
  · -- nothing there, nothing to be
    have q2 := of_decide_eq_false q2
    subst q1
    have hnone : mpC (τ3 5) (τ3 6) (τ3 4 2) k = -1 := by rw [hM]; exact lk_none (habs q2)
    refine ⟨hbo, fr_rf, fun k' => ?_, ?_⟩
    · rw [ek]
      by_cases e : k' = k
      · rw [if_pos e, e, hnone]
      · rw [if_neg e]
    · unfold szp
      rw [if_pos rfl, ek, if_pos hnone]
  · -- taken out
    have q2 := of_decide_eq_true (show decide _ = true by simpa using q2)
    subst q1
    have hkp : tn (τ3 5 p) = k := by rw [q2.2, ek]
    refine ⟨⟨_, rfl, z, p, hz, h1, rfl, q2.1⟩, ?_⟩
    rintro τ6 ⟨f1, f2, f3, f4⟩
    rw [ep, e1] at f3 f4
    rw [hz, pk_sub (by omega)] at f2
    have hb5 : ∀ i, i < p → τ6 5 i = τ3 5 i ∧ τ6 6 i = τ3 6 i := fun i hi => by rw [f3, f4]; simp only [shD]; rw [if_neg (by omega), if_neg (by omega)]; exact ⟨rfl, rfl⟩
    have ha5 : ∀ i, p ≤ i → i + 1 < z → τ6 5 i = τ3 5 (i + 1) ∧ τ6 6 i = τ3 6 (i + 1) := fun i hi hz' => by rw [f3, f4]; simp only [shD]; rw [if_pos (by omega), if_pos (by omega)]; exact ⟨rfl, rfl⟩
    have hsrt : ∀ i j, i < j → j < z - 1 → tn (τ6 5 i) < tn (τ6 5 j) := by
      intro i j hij hj
      by_cases a : j < p
      · rw [(hb5 i (by omega)).1, (hb5 j a).1]; exact h3 i j hij (by omega)
      · rw [(ha5 j (by omega) (by omega)).1]
        by_cases b : i < p
        · rw [(hb5 i b).1]; exact h3 i (j + 1) (by omega) (by omega)
        · rw [(ha5 i (by omega) (by omega)).1]; exact h3 (i + 1) (j + 1) (by omega) (by omega)
    refine ⟨?_, f1, ?_, ?_⟩
    · rw [f2]
      refine ⟨z - 1, rfl, by omega, fun i hi => ?_, hsrt⟩
      by_cases a : i < p
      · rw [(hb5 i a).1, (hb5 i a).2]; exact h2 i (by omega)
      · rw [(ha5 i (by omega) (by omega)).1, (ha5 i (by omega) (by omega)).2]; exact h2 (i + 1) (by omega)
    · intro k'
      rw [f2, hM, ek]
      unfold mpC
      rw [tn_nI (by omega)]
      have := lk_del (ks := fun i => tn (τ3 5 i)) (ks' := fun i => tn (τ6 5 i)) (cs := τ3 6) (cs' := τ6 6) q2.1 hinj (srt_inj hsrt) (fun i hi => ⟨by rw [(hb5 i hi).1], (hb5 i hi).2⟩) (fun i a b => ⟨by rw [(ha5 i a b).1], (ha5 i a b).2⟩) k'
      rw [this]
      simp only [hkp]
    · rw [f2, tn_nI (by omega)]
      have : mpC (τ3 5) (τ3 6) (τ3 4 2) (tn (nI k)) ≠ -1 := by
        rw [ek, hM, ← hkp, lk_at (ks := fun i => tn (τ3 5 i)) hinj q2.1]
        obtain ⟨w, hw, ew⟩ := (h2 p q2.1).2.2
        rw [ew]; exact nI_m1 (by omega)
      unfold szp
      rw [if_pos rfl, if_neg this, e1]
def pr_X1_copyFrom : SPre := fun As σ => ∃ b : Nat, ∃ d : Nat, As = [.ref b, .ref d] ∧ (b = 4 ∧ d = 7 ∨ b = 7 ∧ d = 4) ∧ (∃ z : Nat, σ d 2 = nI z ∧ z ≤ 120)
def po_X1_copyFrom : SPost := fun As σ r τ => match As with
  | [.ref b, .ref d] => (fr [b, b + 1, b + 2] σ τ ∧ τ b 2 = σ d 2 ∧ ∀ j, j < tn (σ d 2) → τ (b + 1) j = σ (d + 1) j ∧ τ (b + 2) j = σ (d + 2) j)
  | _ => True
def ms_X1_copyFrom : List Me := []
theorem mk_X1_copyFrom : ∀ q ∈ ms_X1_copyFrom, kp_okM layC RX1 0 q := fun _ h => absurd h List.not_mem_nil
set_option maxRecDepth 100000 in
theorem v_X1_copyFrom {J : Nat → Lcl → List Value → Sg → Prop} {Q : Int32 → Sg → Prop} (b : Nat) (d : Nat) (hb : b = 4 ∧ d = 7 ∨ b = 7 ∧ d = 4)  (σ : Sg) (h : J 2 [some (.ref b), some (.ref d), some (.int (nI 0))] [] σ) : kp_T layC gl_X1 pl_X1 (ms_X1_copyFrom) tb_X1_copyFrom (kp_rk none) J Q 34 tb_X1_copyFrom (kp_en [.ref b, .ref d] 3) [] σ := by rcases hb with ⟨rfl, rfl⟩ | ⟨rfl, rfl⟩ <;> exact h
set_option maxRecDepth 100000 in
theorem v_X1_copyFrom_2 {J : Nat → Lcl → List Value → Sg → Prop} {Q : Int32 → Sg → Prop} (b : Nat) (d : Nat) (hb : b = 4 ∧ d = 7 ∨ b = 7 ∧ d = 4) (i : Int32) (σ : Sg) (h : (¬ i < (σ d 2) → Q (nI 0) (kp_up σ b 2 (σ d 2))) ∧ (i < (σ d 2) → vp_in i 120 ∧ (vp_in i 120 ∧ (vp_in i 120 ∧ (vp_in i 120 ∧ (J 2 [some (.ref b), some (.ref d), some (.int (i + nI 1))] [] (kp_up (kp_up σ (b + 1) (i).toNatClampNeg (σ (d + 1) (i).toNatClampNeg)) (b + 2) (i).toNatClampNeg ((kp_up σ (b + 1) (i).toNatClampNeg (σ (d + 1) (i).toNatClampNeg)) (d + 2) (i).toNatClampNeg)))))))) : kp_T1 layC gl_X1 pl_X1 (ms_X1_copyFrom) tb_X1_copyFrom (kp_rk none) J Q 34 2 [some (.ref b), some (.ref d), some (.int i)] [] σ := by rcases hb with ⟨rfl, rfl⟩ | ⟨rfl, rfl⟩ <;> exact h
abbrev iv_X1_copyFrom : List Value → Sg → Nat → Nat → Lcl → List Value → Sg → Prop := fun As σ n pc ls st τ => pc = 2 ∧ st = [] ∧ ∃ b d z i : Nat, (b = 4 ∧ d = 7 ∨ b = 7 ∧ d = 4) ∧ As = [.ref b, .ref d] ∧ ls = [some (.ref b), some (.ref d), some (.int (nI i))] ∧ σ d 2 = nI z ∧ z ≤ 120 ∧ i ≤ z ∧ n = z - i ∧ fr [b + 1, b + 2] σ τ ∧ (∀ j, j < i → τ (b + 1) j = σ (d + 1) j ∧ τ (b + 2) j = σ (d + 2) j)
set_option maxRecDepth 100000 in
set_option maxHeartbeats 4000000 in
theorem c_X1_copyFrom : kp_Met layC 0 yX1_copyFrom cX1_copyFrom 3 none (pr_X1_copyFrom) (po_X1_copyFrom) := by
  refine kp_met (N := 34) (by decide) tk_X1_copyFrom gk_X1 pk_X1 (mk_X1_copyFrom) rfl (iv_X1_copyFrom) ?_ ?_
  · rintro As σ ⟨b, d, rfl, hb, hp⟩
    refine ⟨⟨rfl, Nat.le_of_ble_eq_true rfl⟩, v_X1_copyFrom b d hb σ ?_⟩
    obtain ⟨z, h1, h2⟩ := hp
    exact ⟨z, rfl, rfl, b, d, z, 0, hb, rfl, rfl, h1, h2, by omega, by omega, fr_rf, fun j hj => by omega⟩
  · rintro As σ ⟨b, d, rfl, hb, hp⟩ n pc ls st τ hI
    obtain ⟨rfl, rfl, b', d', z, i, hb', hAs, rfl, h1, h2, h3, rfl, h5, h6⟩ := hI
    cases hAs
    have gd : τ d = σ d := h5 d (by simp; omega)
    have gd1 : τ (d + 1) = σ (d + 1) := h5 (d + 1) (by simp; omega)
    have gd2 : τ (d + 2) = σ (d + 2) := h5 (d + 2) (by simp; omega)
    refine v_X1_copyFrom_2 b d hb _ τ ?_
    rw [gd, h1, nI_ltI (by omega) (by omega)]
    refine ⟨fun g1 => ?_, fun g1 => ?_⟩
    · have : i = z := by omega
      subst this
      refine ⟨?_, ?_, fun j hj => ?_⟩
      · exact fr_up (fr_mono h5 (by simp)) (by simp)
      · rw [up_s, h1]
      · rw [h1, tn_nI (by omega)] at hj
        rw [up_c (by omega), up_c (by omega)]
        exact h6 j hj
    · rw [nI_clamp (show i < 2 ^ 31 by omega), kp_in (by omega), nI_add]
      refine ⟨by omega, by omega, by omega, by omega, z - (i + 1), by omega, rfl, rfl, b, d, z, i + 1, hb, rfl, rfl, h1, h2, by omega, rfl, ?_, fun j hj => ?_⟩
      · exact fr_up (fr_up h5 (by simp)) (by simp)
      · rw [up_c (show b + 1 ≠ b + 2 by omega), up_c (show d + 2 ≠ b + 1 by omega), gd1, gd2]
        by_cases e : j = i
        · subst e
          rw [up_s, up_s]
          exact ⟨rfl, rfl⟩
        · rw [up_n e, up_n e, up_c (show b + 2 ≠ b + 1 by omega)]
          exact h6 j (by omega)
