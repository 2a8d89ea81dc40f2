/-! the model's changes, kept maps, counts -/
def isDp (g : Nat → Int32) (n lo : Nat) (M K : Nat → Int32) : Prop := (∀ i, i < n → g i = nI (tn (g i))) ∧ (∀ i j, i < j → j < n → tn (g i) < tn (g j)) ∧ (∀ i, i < n → tn (g i) < lo) ∧ ∀ k, k < lo → (M k ≠ K k ↔ ∃ i, i < n ∧ tn (g i) = k)
theorem isDp_0 {g M K : Nat → Int32} : isDp g 0 0 M K := ⟨fun i hi => by omega, fun i j _ hj => by omega, fun i hi => by omega, fun k hk => by omega⟩
theorem isDp_end {g M K : Nat → Int32} {n lo : Nat} (h : isDp g n lo M K) (he : ∀ k, lo ≤ k → M k = K k) : isD g n M K := by
  obtain ⟨h1, h2, h3, h4⟩ := h
  refine ⟨h1, h2, fun k => ?_⟩
  by_cases hk : k < lo
  · exact h4 k hk
  · exact ⟨fun z => absurd (he k (by omega)) z, fun ⟨i, hi, e⟩ => by have := h3 i hi; omega⟩
theorem isDp_add {g M K : Nat → Int32} {n lo k : Nat} (h : isDp g n lo M K) (hl : isL M K lo k) (hk : k < 2 ^ 31) : isDp (upd g n (nI k)) (n + 1) (k + 1) M K := by
  obtain ⟨h1, h2, h3, h4⟩ := h
  obtain ⟨l1, l2, l3⟩ := hl
  have gn : ∀ i, i < n → upd g n (nI k) i = g i := fun i hi => pk_un (by omega)
  have gk : tn (upd g n (nI k) n) = k := by rw [pk_us, tn_nI hk]
  refine ⟨fun i hi => ?_, fun i j hij hj => ?_, fun i hi => ?_, fun v hv => ?_⟩
  · by_cases e : i = n
    · rw [e, gk, pk_us]
    · rw [gn i (by omega)]; exact h1 i (by omega)
  · rw [gn i (by omega)]
    by_cases e : j = n
    · rw [e, gk]; have := h3 i (by omega); omega
    · rw [gn j (by omega)]; exact h2 i j hij (by omega)
  · by_cases e : i = n
    · rw [e, gk]; omega
    · rw [gn i (by omega)]; have := h3 i (by omega); omega
  · constructor
    · intro hd
      by_cases hv2 : v < lo
      · obtain ⟨i, hi, e⟩ := (h4 v hv2).mp hd
        exact ⟨i, by omega, by rw [gn i hi]; exact e⟩
      · by_cases e : v = k
        · exact ⟨n, by omega, by rw [gk, e]⟩
        · exact absurd (l3 v (by omega) (by omega)) hd
    · rintro ⟨i, hi, e⟩
      by_cases en : i = n
      · rw [en, gk] at e; rw [← e]; exact l2
      · rw [gn i (by omega)] at e
        have := h3 i (by omega)
        exact (h4 v (by omega)).mpr ⟨i, by omega, e⟩
def ncS (σ τ : Sg) (lo : Nat) (is : Int32) : Prop := (is = nI 1 ∧ nn (τ 0 34) ∧ nn (τ 0 35) ∧ tn (τ 0 34) < 12 ∧ tn (τ 0 35) < 16777216 ∧ isL (mM σ) (kM σ) lo (bbM τ)) ∨ (is = nI 0 ∧ ∀ k, lo ≤ k → mM σ k = kM σ k)
theorem bh_next {τ : Sg} (h1 : nn (τ 0 34)) (h2 : nn (τ 0 35)) (h3 : tn (τ 0 34) < 12) (h4 : tn (τ 0 35) < 16777216) : bhP (τ 0 34) (τ 0 35) (bbM τ + 1) := Or.inr ⟨_, _, h1, h3, h2, h4, rfl⟩
def pr_X10_changes : SPre := fun As σ => As = [.ref 0] ∧ (LM σ ∧ kOM σ)
def po_X10_changes : SPost := fun As σ r τ => match As with
  | [.ref _] => (fm [] [34, 35] σ τ ∧ ∃ (g : Nat → Int32) (f : Nat), isD g f (mM σ) (kM σ) ∧ r = nI f)
  | _ => True
def ms_X10_changes : List Me := [(208, 0, 9, 2, true, pr_X10_nextChange, po_X10_nextChange)]
theorem mk_X10_changes : ∀ q ∈ ms_X10_changes, kp_okM layM RX10 3 q := List.forall_mem_cons.mpr ⟨Or.inl ⟨2, yX10_nextChange, cX10_nextChange, 9, (some .boolean), c_X10_nextChange, by omega, by decide, rfl, lk_X10_208⟩, fun _ h => absurd h List.not_mem_nil⟩
set_option maxRecDepth 100000 in
theorem v_X10_changes {J : Nat → Lcl → List Value → Sg → Prop} {Q : Int32 → Sg → Prop}  (σ : Sg) (h : pr_X10_nextChange [.ref 0, .int (-1), .int (nI 0)] σ ∧ ∀ (x2 : Int32) (τ1 : Sg), po_X10_nextChange [.ref 0, .int (-1), .int (nI 0)] σ x2 τ1 → (J 9 [some (.ref 0), some (.int (nI 0)), some (.int x2)] [] τ1)) : kp_T layM gl_X10 pl_X10 (ms_X10_changes) tb_X10_changes (kp_rk (some .int)) J Q 30 tb_X10_changes (kp_en [.ref 0] 3) [] σ := h
set_option maxRecDepth 100000 in
theorem v_X10_changes_9 {J : Nat → Lcl → List Value → Sg → Prop} {Q : Int32 → Sg → Prop} (n1 is : Int32) (σ : Sg) (h : (is = (nI 0) → Q n1 σ) ∧ (¬ is = (nI 0) → pr_X10_nextChange [.ref 0, .int (σ 0 34), .int (σ 0 35)] σ ∧ ∀ (x2 : Int32) (τ1 : Sg), po_X10_nextChange [.ref 0, .int (σ 0 34), .int (σ 0 35)] σ x2 τ1 → (J 9 [some (.ref 0), some (.int (n1 + nI 1)), some (.int x2)] [] τ1))) : kp_T1 layM gl_X10 pl_X10 (ms_X10_changes) tb_X10_changes (kp_rk (some .int)) J Q 30 9 [some (.ref 0), some (.int n1), some (.int is)] [] σ := h
abbrev iv_X10_changes : List Value → Sg → Nat → Nat → Lcl → List Value → Sg → Prop := fun As σ n pc ls st τ => pc = 9 ∧ st = [] ∧ As = [.ref 0] ∧ fm [] [34, 35] σ τ ∧ ∃ (g : Nat → Int32) (m lo : Nat) (is : Int32), ls = [some (.ref 0), some (.int (nI m)), some (.int is)] ∧ isDp g m lo (mM σ) (kM σ) ∧ n = 201326592 - lo ∧ ncS σ τ lo is
set_option maxRecDepth 100000 in
set_option maxHeartbeats 4000000 in
theorem c_X10_changes : kp_Met layM 3 yX10_changes cX10_changes 3 (some .int) (pr_X10_changes) (po_X10_changes) := by
  refine kp_met (N := 30) (by decide) tk_X10_changes gk_X10 pk_X10 (mk_X10_changes) rfl (iv_X10_changes) ?_ ?_
  · rintro As σ ⟨rfl, hp⟩
    refine ⟨⟨rfl, Nat.le_of_ble_eq_true rfl⟩, v_X10_changes σ ?_⟩
    obtain ⟨hL, hk⟩ := hp
    refine ⟨⟨_, _, rfl, hL, hk, 0, Or.inl ⟨rfl, rfl⟩⟩, ?_⟩
    rintro x2 τ1 ⟨h1, h2⟩
    exact ⟨_, rfl, rfl, rfl, h1, σ 0, 0, 0, x2, rfl, isDp_0, rfl, h2 0 (Or.inl ⟨rfl, rfl⟩)⟩
  · rintro As σ ⟨rfl, hp⟩ n pc ls st τ hI
    obtain ⟨hL, hk⟩ := hp
    obtain ⟨rfl, rfl, hAs, hf, g, m, lo, is, rfl, hD, rfl, hS⟩ := hI
    clear hAs
    obtain ⟨hLt, em⟩ := LM_fm hL hf (by decide) (by decide)
    obtain ⟨hkt, ek⟩ := kOM_fm hk hf (by decide) (by decide)
    refine v_X10_changes_9 _ _ τ ?_
    rw [show nI m + nI 1 = nI (m + 1) from nI_add _ _]
    rcases hS with ⟨e, s1, s2, s3, s4, s5⟩ | ⟨e, s1⟩
    · refine ⟨fun z => absurd (e.symm.trans z) (by decide), fun _ => ⟨⟨_, _, rfl, hLt, hkt, _, bh_next s1 s2 s3 s4⟩, ?_⟩⟩
      rintro x2 τ1 ⟨h1, h2⟩
      have ebb : bbM τ = tn (τ 0 34) * 16777216 + tn (τ 0 35) := rfl
      have h2 := h2 _ (bh_next s1 s2 s3 s4)
      rw [em, ek] at h2
      have := s5.1
      exact ⟨201326592 - (bbM τ + 1), by omega, rfl, rfl, rfl, fm_tr hf h1, _, m + 1, bbM τ + 1, x2, rfl, isDp_add hD s5 (by omega), rfl, h2⟩
    · exact ⟨fun _ => ⟨hf, g, m, isDp_end hD s1, rfl⟩, fun z => absurd e z⟩
def chV (M K : Nat → Int32) (k : Nat) (w : Int32) : Int32 := if w = nI 0 then nI (k / 16777216) else if w = nI 1 then nI (k % 16777216) else if w = nI 2 then K k else M k
def pr_X10_change : SPre := fun As σ => ∃ i : Int32, ∃ w : Int32, As = [.ref 0, .int i, .int w] ∧ (InvM σ)
def po_X10_change : SPost := fun As σ r τ => match As with
  | [.ref _, .int i, .int w] => (InvM τ ∧ fm [] [0, 34, 35] σ τ ∧ (i < nI 0 ∨ ¬ inR w (nI 0) (nI 3) = true → r = -1) ∧ (¬ i < nI 0 → inR w (nI 0) (nI 3) = true → ∃ (g : Nat → Int32) (m lo : Nat), isDp g m lo (mM σ) (kM σ) ∧ ((m = tn i + 1 ∧ r = chV (mM σ) (kM σ) (tn (g (tn i))) w) ∨ (m ≤ tn i ∧ (∀ k, lo ≤ k → mM σ k = kM σ k) ∧ r = -1))))
  | _ => True
def ms_X10_change : List Me := [(84, 1, 9, 3, true, pr_X10_isIn, po_X10_isIn), (208, 0, 9, 2, true, pr_X10_nextChange, po_X10_nextChange), (205, 0, 9, 2, true, pr_X10_keptFor, po_X10_keptFor), (101, 0, 9, 2, true, pr_X10_hasFor, po_X10_hasFor)]
theorem mk_X10_change : ∀ q ∈ ms_X10_change, kp_okM layM RX10 3 q := List.forall_mem_cons.mpr ⟨Or.inl ⟨0, yX10_isIn, cX10_isIn, 3, (some .boolean), c_X10_isIn, by omega, by decide, rfl, lk_X10_84⟩, List.forall_mem_cons.mpr ⟨Or.inl ⟨2, yX10_nextChange, cX10_nextChange, 9, (some .boolean), c_X10_nextChange, by omega, by decide, rfl, lk_X10_208⟩, List.forall_mem_cons.mpr ⟨Or.inl ⟨0, yX10_keptFor, cX10_keptFor, 4, (some .int), c_X10_keptFor, by omega, by decide, rfl, lk_X10_205⟩, List.forall_mem_cons.mpr ⟨Or.inl ⟨1, yX10_hasFor, cX10_hasFor, 4, (some .int), c_X10_hasFor, by omega, by decide, rfl, lk_X10_101⟩, fun _ h => absurd h List.not_mem_nil⟩⟩⟩⟩
set_option maxRecDepth 100000 in
theorem v_X10_change {J : Nat → Lcl → List Value → Sg → Prop} {Q : Int32 → Sg → Prop} (i w : Int32) (σ : Sg) (h : (i < (nI 0) → Q (-1) (kp_up σ 0 0 (nI 0))) ∧ (¬ i < (nI 0) → pr_X10_isIn [.int w, .int (nI 0), .int (nI 3)] (kp_up σ 0 0 (nI 0)) ∧ ∀ (x2 : Int32) (τ1 : Sg), po_X10_isIn [.int w, .int (nI 0), .int (nI 3)] (kp_up σ 0 0 (nI 0)) x2 τ1 → ((¬ x2 = (nI 0) → pr_X10_nextChange [.ref 0, .int (-1), .int (nI 0)] τ1 ∧ ∀ (x4 : Int32) (τ3 : Sg), po_X10_nextChange [.ref 0, .int (-1), .int (nI 0)] τ1 x4 τ3 → (J 30 [some (.ref 0), some (.int i), some (.int w), some (.int x4), some (.int (nI 0))] [] τ3)) ∧ (x2 = (nI 0) → Q (-1) τ1)))) : kp_T layM gl_X10 pl_X10 (ms_X10_change) tb_X10_change (kp_rk (some .int)) J Q 64 tb_X10_change (kp_en [.ref 0, .int i, .int w] 5) [] σ := h
set_option maxRecDepth 100000 in
theorem v_X10_change_30 {J : Nat → Lcl → List Value → Sg → Prop} {Q : Int32 → Sg → Prop} (i w is k : Int32) (σ : Sg) (h : (¬ k < i → (¬ is = (nI 0) → (w = nI 0 → Q (σ 0 34) σ) ∧ (¬ w = nI 0 → (w = nI 1 → Q (σ 0 35) σ) ∧ (¬ w = nI 1 → (w = nI 2 → pr_X10_keptFor [.ref 0, .int (σ 0 34), .int (σ 0 35)] σ ∧ ∀ (x4 : Int32) (τ3 : Sg), po_X10_keptFor [.ref 0, .int (σ 0 34), .int (σ 0 35)] σ x4 τ3 → (Q x4 τ3)) ∧ (¬ w = nI 2 → pr_X10_hasFor [.ref 0, .int (σ 0 34), .int (σ 0 35)] σ ∧ ∀ (x2 : Int32) (τ1 : Sg), po_X10_hasFor [.ref 0, .int (σ 0 34), .int (σ 0 35)] σ x2 τ1 → (Q x2 τ1))))) ∧ (is = (nI 0) → Q (-1) σ)) ∧ (k < i → (is = (nI 0) → (¬ is = (nI 0) → (w = nI 0 → Q (σ 0 34) σ) ∧ (¬ w = nI 0 → (w = nI 1 → Q (σ 0 35) σ) ∧ (¬ w = nI 1 → (w = nI 2 → pr_X10_keptFor [.ref 0, .int (σ 0 34), .int (σ 0 35)] σ ∧ ∀ (x8 : Int32) (τ7 : Sg), po_X10_keptFor [.ref 0, .int (σ 0 34), .int (σ 0 35)] σ x8 τ7 → (Q x8 τ7)) ∧ (¬ w = nI 2 → pr_X10_hasFor [.ref 0, .int (σ 0 34), .int (σ 0 35)] σ ∧ ∀ (x6 : Int32) (τ5 : Sg), po_X10_hasFor [.ref 0, .int (σ 0 34), .int (σ 0 35)] σ x6 τ5 → (Q x6 τ5))))) ∧ (is = (nI 0) → Q (-1) σ)) ∧ (¬ is = (nI 0) → pr_X10_nextChange [.ref 0, .int (σ 0 34), .int (σ 0 35)] σ ∧ ∀ (x10 : Int32) (τ9 : Sg), po_X10_nextChange [.ref 0, .int (σ 0 34), .int (σ 0 35)] σ x10 τ9 → (J 30 [some (.ref 0), some (.int i), some (.int w), some (.int x10), some (.int (k + nI 1))] [] τ9)))) : kp_T1 layM gl_X10 pl_X10 (ms_X10_change) tb_X10_change (kp_rk (some .int)) J Q 64 30 [some (.ref 0), some (.int i), some (.int w), some (.int is), some (.int k)] [] σ := h
abbrev iv_X10_change : List Value → Sg → Nat → Nat → Lcl → List Value → Sg → Prop := fun As σ n pc ls st τ => pc = 30 ∧ st = [] ∧ ∃ (i w is : Int32) (g : Nat → Int32) (m lo : Nat), As = [.ref 0, .int i, .int w] ∧ fm [] [0, 34, 35] σ τ ∧ ¬ i < nI 0 ∧ inR w (nI 0) (nI 3) = true ∧ m ≤ tn i ∧ n = tn i - m ∧ ls = [some (.ref 0), some (.int i), some (.int w), some (.int is), some (.int (nI m))] ∧ isDp g m lo (mM σ) (kM σ) ∧ ncS σ τ lo is
set_option maxRecDepth 100000 in
set_option maxHeartbeats 4000000 in
theorem c_X10_change : kp_Met layM 3 yX10_change cX10_change 5 (some .int) (pr_X10_change) (po_X10_change) := by
  refine kp_met (N := 64) (by decide) tk_X10_change gk_X10 pk_X10 (mk_X10_change) rfl (iv_X10_change) ?_ ?_
  · rintro As σ ⟨i, w, rfl, hp⟩
    refine ⟨⟨rfl, Nat.le_of_ble_eq_true rfl⟩, v_X10_change i w σ ?_⟩
    obtain ⟨hL, hk, hty, hco, has⟩ := id hp
    have h0 := InvM_0 hp
    obtain ⟨hL0, em⟩ := LM_fm hL fm_0 (by decide) (by decide)
    obtain ⟨hk0, ek⟩ := kOM_fm hk fm_0 (by decide) (by decide)
    have hf0 : fm [] [0, 34, 35] σ (kp_up σ 0 0 (nI 0)) := fm_mono fm_0 (by decide) (by decide)
    refine ⟨fun h => ⟨h0, hf0, fun _ => rfl, fun z => absurd h z⟩, fun h => ⟨⟨_, _, _, rfl, trivial⟩, ?_⟩⟩
    rintro x2 τ1 ⟨rfl, rfl⟩
    rw [bI_0]
    refine ⟨fun h1 => ⟨⟨_, _, rfl, hL0, hk0, 0, Or.inl ⟨rfl, rfl⟩⟩, ?_⟩, fun h1 => ⟨h0, hf0, fun _ => rfl, fun _ z => (by rw [h1] at z; cases z)⟩⟩
    rintro x4 τ3 ⟨k1, k2⟩
    have k2 := k2 0 (Or.inl ⟨rfl, rfl⟩)
    rw [em, ek] at k2
    exact ⟨_, rfl, rfl, i, w, x4, σ 0, 0, 0, rfl, fm_tr hf0 (fm_mono k1 (by decide) (by decide)), h, by simpa using h1, Nat.zero_le _, rfl, rfl, isDp_0, k2⟩
  · rintro As σ ⟨i, w, rfl, hp⟩ n pc ls st τ hI
    obtain ⟨hL, hk, hty, hco, has⟩ := id hp
    obtain ⟨rfl, rfl, i', w', is, g, m, lo, hAs, hf, hi, hw, hm, rfl, rfl, hD, hS⟩ := hI
    cases hAs
    obtain ⟨hLt, em⟩ := LM_fm hL hf (by decide) (by decide)
    obtain ⟨hkt, ek⟩ := kOM_fm hk hf (by decide) (by decide)
    have hIt : InvM τ := InvM_fm hp hf (by decide) (by decide)
    have hni : nn i := (nI_tn hi).symm
    have hml : m < 2 ^ 31 := Nat.lt_of_le_of_lt hm (tn_lt _)
    have hQ0 : (∀ k, lo ≤ k → mM σ k = kM σ k) → po_X10_change [.ref 0, .int i, .int w] σ (-1) τ := fun h => ⟨hIt, hf, fun _ => rfl, fun _ _ => ⟨g, m, lo, hD, Or.inr ⟨hm, h, rfl⟩⟩⟩
    refine v_X10_change_30 _ _ _ _ τ ?_
    rw [(nn_lt hni hml).1, show nI m + nI 1 = nI (m + 1) from nI_add _ _]
    rcases hS with ⟨e, s1, s2, s3, s4, s5⟩ | ⟨e, s1⟩
    · have ne : ¬ is = nI 0 := by rw [e]; decide
      have ebb : bbM τ = tn (τ 0 34) * 16777216 + tn (τ 0 35) := rfl
      have hD2 := isDp_add hD s5 (show bbM τ < 2 ^ 31 by omega)
      refine ⟨fun h => ⟨fun _ => ?_, fun z => absurd z ne⟩, fun h => ⟨fun z => absurd z ne, fun _ => ⟨⟨_, _, rfl, hLt, hkt, _, bh_next s1 s2 s3 s4⟩, ?_⟩⟩⟩
      · have hmi : m = tn i := by omega
        have hQ : ∀ r, r = chV (mM σ) (kM σ) (bbM τ) w → po_X10_change [.ref 0, .int i, .int w] σ r τ := fun r hr => ⟨hIt, hf, fun z => absurd z (fun z => z.elim (fun q => hi q) (fun q => q hw)), fun _ _ => ⟨_, m + 1, bbM τ + 1, hD2, Or.inl ⟨by omega, by rw [hr, ← hmi, pk_us, tn_nI (by omega)]⟩⟩⟩
        refine ⟨fun w0 => hQ _ ?_, fun w0 => ⟨fun w1 => hQ _ ?_, fun w1 => ⟨fun w2 => ⟨⟨_, _, rfl, hkt, _, _, s1, s3, s2, s4⟩, ?_⟩, fun w2 => ⟨⟨_, _, rfl, hLt.2, _, _, s1, s3, s2, s4⟩, ?_⟩⟩⟩⟩
        · unfold chV; rw [if_pos w0, ebb, (key_div s4).1]; exact s1
        · unfold chV; rw [if_neg w0, if_pos w1, ebb, (key_div s4).2]; exact s2
        · rintro x4 τ3 ⟨rfl, rfl⟩
          exact hQ _ (by unfold chV; rw [if_neg w0, if_neg w1, if_pos w2, ek])
        · rintro x4 τ3 ⟨rfl, rfl⟩
          exact hQ _ (by unfold chV; rw [if_neg w0, if_neg w1, if_neg w2, em])
      · rintro x10 τ9 ⟨k1, k2⟩
        have k2 := k2 _ (bh_next s1 s2 s3 s4)
        rw [em, ek] at k2
        exact ⟨tn i - (m + 1), by omega, rfl, rfl, i, w, x10, _, m + 1, bbM τ + 1, rfl, fm_tr hf (fm_mono k1 (by decide) (by decide)), hi, hw, by omega, rfl, rfl, hD2, k2⟩
    · exact ⟨fun _ => ⟨fun z => absurd e z, fun _ => hQ0 s1⟩, fun _ => ⟨fun _ => ⟨fun z => absurd e z, fun _ => hQ0 s1⟩, fun z => absurd e z⟩⟩
theorem mpM_copy {a r c a' r' c' : Nat → Int32} {nz : Int32} (h : mOK a r c nz) (he : ∀ j, j < tn nz → a' j = a j ∧ r' j = r j ∧ c' j = c j) : mOK a' r' c' nz ∧ mpM a' r' c' nz = mpM a r c nz := by
  obtain ⟨z, rfl, h1, h2, h3⟩ := h
  have ez : tn (nI z) = z := tn_nI (by omega)
  rw [ez] at he
  have ekk : ∀ i, i < z → eK a' r' i = eK a r i := fun i hi => by show tn (a' i) * _ + tn (r' i) = _; rw [(he i hi).1, (he i hi).2.1]
  refine ⟨⟨z, rfl, h1, fun i hi => ?_, fun i j hi hj e => ?_⟩, ?_⟩
  · rw [(he i hi).1, (he i hi).2.1, (he i hi).2.2]; exact h2 i hi
  · rw [ekk i hi, ekk j hj] at e; exact h3 i j hi hj e
  · funext k
    unfold mpM
    rw [ez]
    exact lk_congr (fun i hi => ⟨ekk i hi, (he i hi).2.2⟩)
def pr_X10_keep : SPre := fun As σ => As = [.ref 0] ∧ (InvM σ)
def po_X10_keep : SPost := fun As σ r τ => match As with
  | [.ref _] => (InvM τ ∧ fm [5, 6, 7] [0, 9] σ τ ∧ kM τ = mM σ ∧ τ 0 9 = σ 0 8)
  | _ => True
def ms_X10_keep : List Me := []
theorem mk_X10_keep : ∀ q ∈ ms_X10_keep, kp_okM layM RX10 0 q := fun _ h => absurd h List.not_mem_nil
set_option maxRecDepth 100000 in
theorem v_X10_keep {J : Nat → Lcl → List Value → Sg → Prop} {Q : Int32 → Sg → Prop}  (σ : Sg) (h : J 15 [some (.ref 0), some (.int (nI 0))] [] (kp_up (kp_up σ 0 0 (nI 0)) 0 9 ((kp_up σ 0 0 (nI 0)) 0 8))) : kp_T layM gl_X10 pl_X10 (ms_X10_keep) tb_X10_keep (kp_rk none) J Q 45 tb_X10_keep (kp_en [.ref 0] 2) [] σ := h
set_option maxRecDepth 100000 in
theorem v_X10_keep_15 {J : Nat → Lcl → List Value → Sg → Prop} {Q : Int32 → Sg → Prop} (k : Int32) (σ : Sg) (h : (¬ k < (σ 0 8) → Q (nI 0) σ) ∧ (k < (σ 0 8) → vp_in k 120 ∧ (vp_in k 120 ∧ (vp_in k 120 ∧ (vp_in k 120 ∧ (vp_in k 120 ∧ (vp_in k 120 ∧ (J 15 [some (.ref 0), some (.int (k + nI 1))] [] (kp_up (kp_up (kp_up σ 5 (k).toNatClampNeg (σ 2 (k).toNatClampNeg)) 6 (k).toNatClampNeg ((kp_up σ 5 (k).toNatClampNeg (σ 2 (k).toNatClampNeg)) 3 (k).toNatClampNeg)) 7 (k).toNatClampNeg ((kp_up (kp_up σ 5 (k).toNatClampNeg (σ 2 (k).toNatClampNeg)) 6 (k).toNatClampNeg ((kp_up σ 5 (k).toNatClampNeg (σ 2 (k).toNatClampNeg)) 3 (k).toNatClampNeg)) 4 (k).toNatClampNeg)))))))))) : kp_T1 layM gl_X10 pl_X10 (ms_X10_keep) tb_X10_keep (kp_rk none) J Q 45 15 [some (.ref 0), some (.int k)] [] σ := h
abbrev iv_X10_keep : List Value → Sg → Nat → Nat → Lcl → List Value → Sg → Prop := fun As σ n pc ls st τ => pc = 15 ∧ st = [] ∧ As = [.ref 0] ∧ ∃ k z : Nat, σ 0 8 = nI z ∧ z ≤ 120 ∧ k ≤ z ∧ n = z - k ∧ ls = [some (.ref 0), some (.int (nI k))] ∧ fm [5, 6, 7] [0, 9] σ τ ∧ τ 0 9 = σ 0 8 ∧ ∀ j, j < k → τ 5 j = σ 2 j ∧ τ 6 j = σ 3 j ∧ τ 7 j = σ 4 j
set_option maxRecDepth 100000 in
set_option maxHeartbeats 4000000 in
theorem c_X10_keep : kp_Met layM 0 yX10_keep cX10_keep 2 none (pr_X10_keep) (po_X10_keep) := by
  refine kp_met (N := 45) (by decide) tk_X10_keep gk_X10 pk_X10 (mk_X10_keep) rfl (iv_X10_keep) ?_ ?_
  · rintro As σ ⟨rfl, hp⟩
    refine ⟨⟨rfl, Nat.le_of_ble_eq_true rfl⟩, v_X10_keep σ ?_⟩
    obtain ⟨z, hz, hz1, -, -⟩ := id hp.1.2
    exact ⟨_, rfl, rfl, rfl, 0, z, hz, hz1, Nat.zero_le _, rfl, rfl, fm_up0 (fm_up0 fm_rf (by decide)) (by decide), by rw [up_s, up_n (by decide)], fun j hj => by omega⟩
  · rintro As σ ⟨rfl, hp⟩ n pc ls st τ hI
    obtain ⟨hL, hk, hty, hco, has⟩ := id hp
    obtain ⟨rfl, rfl, hAs, k, z, hz, hzz, hkz, rfl, rfl, hf, h9, hcp⟩ := hI
    clear hAs
    obtain ⟨z', hz', hz1, -, -⟩ := id hL.2
    have : z' = z := (nI_eq (by omega) (by omega)).mp (hz'.symm.trans hz)
    subst this
    have q8 : τ 0 8 = σ 0 8 := hf.2 8 (by decide)
    have q2 : τ 2 = σ 2 := hf.1 2 (by decide) (by decide)
    have q3 : τ 3 = σ 3 := hf.1 3 (by decide) (by decide)
    have q4 : τ 4 = σ 4 := hf.1 4 (by decide) (by decide)
    refine v_X10_keep_15 _ τ ?_
    have ck : (nI k).toNatClampNeg = k := nI_clamp (by omega)
    have u3 : kp_up τ 5 k (τ 2 k) 3 = σ 3 := by rw [up_c (by decide), q3]
    have u4 : kp_up (kp_up τ 5 k (τ 2 k)) 6 k (σ 3 k) 4 = σ 4 := by rw [up_c (by decide), up_c (by decide), q4]
    rw [q8, hz, nI_ltI (by omega) (by omega), nI_add, ck, u3, u4, q2]
    refine ⟨fun g => ?_, fun g => ?_⟩
    · obtain ⟨b1, b2⟩ := mpM_copy hL.2 (fun j hj => hcp j (by rw [hz, tn_nI (by omega)] at hj; omega))
      refine ⟨⟨(LM_fm hL hf (by decide) (by decide)).1, ?_, tyM_fm hty hf (by decide) (by decide), cstM_fm hco hf (by decide), asM_fm has hf (by decide) (by decide)⟩, hf, ?_, h9⟩
      · show mOK _ _ _ _; rw [h9]; exact b1
      · show mpM _ _ _ _ = _; rw [h9]; exact b2
    · have hin : vp_in (nI k) 120 := (kp_in (by omega)).mpr (by omega)
      refine ⟨hin, hin, hin, hin, hin, hin, z' - (k + 1), by omega, rfl, rfl, rfl, k + 1, z', hz, hz1, by omega, rfl, rfl, fm_up (fm_up (fm_up hf (by decide) (by decide)) (by decide) (by decide)) (by decide) (by decide), by rw [up_c (by decide), up_c (by decide), up_c (by decide)]; exact h9, fun j hj => ?_⟩
      simp (disch := decide) only [up_c, kp_up_eq, pk_us, pk_un]
      by_cases e : j = k
      · rw [e, pk_us, pk_us, pk_us]; exact ⟨rfl, rfl, rfl⟩
      · rw [pk_un e, pk_un e, pk_un e]; exact hcp j (by omega)
def pr_X10_back : SPre := fun As σ => As = [.ref 0] ∧ (InvM σ)
def po_X10_back : SPost := fun As σ r τ => match As with
  | [.ref _] => (InvM τ ∧ fm [2, 3, 4] [0, 8, 34, 35] σ τ ∧ mM τ = kM σ ∧ τ 0 8 = σ 0 9 ∧ ∃ (g : Nat → Int32) (f : Nat), isD g f (mM σ) (kM σ) ∧ r = nI f)
  | _ => True
def ms_X10_back : List Me := [(211, 0, 9, 0, true, pr_X10_changes, po_X10_changes)]
theorem mk_X10_back : ∀ q ∈ ms_X10_back, kp_okM layM RX10 4 q := List.forall_mem_cons.mpr ⟨Or.inl ⟨3, yX10_changes, cX10_changes, 3, (some .int), c_X10_changes, by omega, by decide, rfl, lk_X10_211⟩, fun _ h => absurd h List.not_mem_nil⟩
set_option maxRecDepth 100000 in
theorem v_X10_back {J : Nat → Lcl → List Value → Sg → Prop} {Q : Int32 → Sg → Prop}  (σ : Sg) (h : pr_X10_changes [.ref 0] (kp_up σ 0 0 (nI 0)) ∧ ∀ (x2 : Int32) (τ1 : Sg), po_X10_changes [.ref 0] (kp_up σ 0 0 (nI 0)) x2 τ1 → (J 20 [some (.ref 0), some (.int x2), some (.int (nI 0))] [] (kp_up τ1 0 8 (τ1 0 9)))) : kp_T layM gl_X10 pl_X10 (ms_X10_back) tb_X10_back (kp_rk (some .int)) J Q 49 tb_X10_back (kp_en [.ref 0] 3) [] σ := h
set_option maxRecDepth 100000 in
theorem v_X10_back_20 {J : Nat → Lcl → List Value → Sg → Prop} {Q : Int32 → Sg → Prop} (n1 k : Int32) (σ : Sg) (h : (¬ k < (σ 0 8) → Q n1 σ) ∧ (k < (σ 0 8) → vp_in k 120 ∧ (vp_in k 120 ∧ (vp_in k 120 ∧ (vp_in k 120 ∧ (vp_in k 120 ∧ (vp_in k 120 ∧ (J 20 [some (.ref 0), some (.int n1), some (.int (k + nI 1))] [] (kp_up (kp_up (kp_up σ 2 (k).toNatClampNeg (σ 5 (k).toNatClampNeg)) 3 (k).toNatClampNeg ((kp_up σ 2 (k).toNatClampNeg (σ 5 (k).toNatClampNeg)) 6 (k).toNatClampNeg)) 4 (k).toNatClampNeg ((kp_up (kp_up σ 2 (k).toNatClampNeg (σ 5 (k).toNatClampNeg)) 3 (k).toNatClampNeg ((kp_up σ 2 (k).toNatClampNeg (σ 5 (k).toNatClampNeg)) 6 (k).toNatClampNeg)) 7 (k).toNatClampNeg)))))))))) : kp_T1 layM gl_X10 pl_X10 (ms_X10_back) tb_X10_back (kp_rk (some .int)) J Q 49 20 [some (.ref 0), some (.int n1), some (.int k)] [] σ := h
abbrev iv_X10_back : List Value → Sg → Nat → Nat → Lcl → List Value → Sg → Prop := fun As σ n pc ls st τ => pc = 20 ∧ st = [] ∧ As = [.ref 0] ∧ ∃ (k z f : Nat) (g : Nat → Int32), σ 0 9 = nI z ∧ z ≤ 120 ∧ k ≤ z ∧ n = z - k ∧ ls = [some (.ref 0), some (.int (nI f)), some (.int (nI k))] ∧ isD g f (mM σ) (kM σ) ∧ fm [2, 3, 4] [0, 8, 34, 35] σ τ ∧ τ 0 8 = σ 0 9 ∧ ∀ j, j < k → τ 2 j = σ 5 j ∧ τ 3 j = σ 6 j ∧ τ 4 j = σ 7 j
set_option maxRecDepth 100000 in
set_option maxHeartbeats 4000000 in
theorem c_X10_back : kp_Met layM 4 yX10_back cX10_back 3 (some .int) (pr_X10_back) (po_X10_back) := by
  refine kp_met (N := 49) (by decide) tk_X10_back gk_X10 pk_X10 (mk_X10_back) rfl (iv_X10_back) ?_ ?_
  · rintro As σ ⟨rfl, hp⟩
    refine ⟨⟨rfl, Nat.le_of_ble_eq_true rfl⟩, v_X10_back σ ?_⟩
    obtain ⟨hL, hk, hty, hco, has⟩ := id hp
    obtain ⟨hL0, em⟩ := LM_fm hL fm_0 (by decide) (by decide)
    obtain ⟨hk0, ek⟩ := kOM_fm hk fm_0 (by decide) (by decide)
    obtain ⟨z, hz, hz1, -, -⟩ := id hk
    refine ⟨⟨rfl, hL0, hk0⟩, ?_⟩
    rintro x2 τ1 ⟨h1, g, f, h2, rfl⟩
    rw [em, ek] at h2
    have e9 : τ1 0 9 = σ 0 9 := by rw [h1.2 9 (by decide), up_n (by decide)]
    exact ⟨_, rfl, rfl, rfl, 0, z, f, g, hz, hz1, Nat.zero_le _, rfl, rfl, h2, fm_up0 (fm_tr (fm_mono fm_0 (by decide) (by decide)) (fm_mono h1 (by decide) (by decide))) (by decide), by rw [up_s, e9], fun j hj => by omega⟩
  · rintro As σ ⟨rfl, hp⟩ n pc ls st τ hI
    obtain ⟨hL, hk, hty, hco, has⟩ := id hp
    obtain ⟨rfl, rfl, hAs, k, z, f, g, hz, hzz, hkz, rfl, rfl, hD, hf, h8, hcp⟩ := hI
    clear hAs
    obtain ⟨z', hz', hz1, -, -⟩ := id hk
    have : z' = z := (nI_eq (by omega) (by omega)).mp (hz'.symm.trans hz)
    subst this
    have q5 : τ 5 = σ 5 := hf.1 5 (by decide) (by decide)
    have q6 : τ 6 = σ 6 := hf.1 6 (by decide) (by decide)
    have q7 : τ 7 = σ 7 := hf.1 7 (by decide) (by decide)
    refine v_X10_back_20 _ _ τ ?_
    have ck : (nI k).toNatClampNeg = k := nI_clamp (by omega)
    have u3 : kp_up τ 2 k (τ 5 k) 6 = σ 6 := by rw [up_c (by decide), q6]
    have u4 : kp_up (kp_up τ 2 k (τ 5 k)) 3 k (σ 6 k) 7 = σ 7 := by rw [up_c (by decide), up_c (by decide), q7]
    rw [h8, hz, nI_ltI (by omega) (by omega), nI_add, ck, u3, u4, q5]
    refine ⟨fun g1 => ?_, fun g1 => ?_⟩
    · obtain ⟨b1, b2⟩ := mpM_copy hk (fun j hj => hcp j (by rw [hz, tn_nI (by omega)] at hj; omega))
      refine ⟨⟨⟨?_, ?_⟩, (kOM_fm hk hf (by decide) (by decide)).1, tyM_fm hty hf (by decide) (by decide), cstM_fm hco hf (by decide), asM_fm has hf (by decide) (by decide)⟩, hf, ?_, h8, g, f, hD, rfl⟩
      · rw [hf.1 1 (by decide) (by decide), hf.2 2 (by decide)]; exact hL.1
      · rw [h8]; exact b1
      · show mpM _ _ _ _ = _; rw [h8]; exact b2
    · have hin : vp_in (nI k) 120 := (kp_in (by omega)).mpr (by omega)
      refine ⟨hin, hin, hin, hin, hin, hin, z' - (k + 1), by omega, rfl, rfl, rfl, k + 1, z', f, g, hz, hz1, by omega, rfl, rfl, hD, fm_up (fm_up (fm_up hf (by decide) (by decide)) (by decide) (by decide)) (by decide) (by decide), by rw [up_c (by decide), up_c (by decide), up_c (by decide)]; exact h8, fun j hj => ?_⟩
      simp (disch := decide) only [up_c, kp_up_eq, pk_us, pk_un]
      by_cases e : j = k
      · rw [e, pk_us, pk_us, pk_us]; exact ⟨rfl, rfl, rfl⟩
      · rw [pk_un e, pk_un e, pk_un e]; exact hcp j (by omega)
def pr_X10_count : SPre := fun As σ => ∃ w : Int32, As = [.ref 0, .int w] ∧ (InvM σ)
def po_X10_count : SPost := fun As σ r τ => match As with
  | [.ref _, .int w] => (InvM τ ∧ fm [] [0, 34, 35] σ τ ∧ (w = nI 8 → ∃ (g : Nat → Int32) (f : Nat), isD g f (mM σ) (kM σ) ∧ r = nI f) ∧ (¬ w = nI 8 → r = cnA w (σ 0 2) (σ 0 8) (σ 0 21) (σ 0 6) (σ 0 7) (σ 0 10) (σ 0 11) (σ 0 3)))
  | _ => True
def ms_X10_count : List Me := [(211, 0, 9, 0, true, pr_X10_changes, po_X10_changes)]
theorem mk_X10_count : ∀ q ∈ ms_X10_count, kp_okM layM RX10 4 q := List.forall_mem_cons.mpr ⟨Or.inl ⟨3, yX10_changes, cX10_changes, 3, (some .int), c_X10_changes, by omega, by decide, rfl, lk_X10_211⟩, fun _ h => absurd h List.not_mem_nil⟩
set_option maxRecDepth 100000 in
theorem v_X10_count {J : Nat → Lcl → List Value → Sg → Prop} {Q : Int32 → Sg → Prop} (w : Int32) (σ : Sg) (h : (w = nI 0 → Q ((kp_up σ 0 0 (nI 0)) 0 2) (kp_up σ 0 0 (nI 0))) ∧ (¬ w = nI 0 → (w = nI 1 → Q ((kp_up σ 0 0 (nI 0)) 0 8) (kp_up σ 0 0 (nI 0))) ∧ (¬ w = nI 1 → (w = nI 2 → Q ((kp_up σ 0 0 (nI 0)) 0 21) (kp_up σ 0 0 (nI 0))) ∧ (¬ w = nI 2 → (w = nI 3 → Q ((kp_up σ 0 0 (nI 0)) 0 6) (kp_up σ 0 0 (nI 0))) ∧ (¬ w = nI 3 → (w = nI 4 → Q ((kp_up σ 0 0 (nI 0)) 0 7) (kp_up σ 0 0 (nI 0))) ∧ (¬ w = nI 4 → (w = nI 5 → Q ((kp_up σ 0 0 (nI 0)) 0 10) (kp_up σ 0 0 (nI 0))) ∧ (¬ w = nI 5 → (w = nI 6 → Q ((kp_up σ 0 0 (nI 0)) 0 11) (kp_up σ 0 0 (nI 0))) ∧ (¬ w = nI 6 → (w = nI 7 → Q ((kp_up σ 0 0 (nI 0)) 0 3) (kp_up σ 0 0 (nI 0))) ∧ (¬ w = nI 7 → (w = nI 8 → pr_X10_changes [.ref 0] (kp_up σ 0 0 (nI 0)) ∧ ∀ (x2 : Int32) (τ1 : Sg), po_X10_changes [.ref 0] (kp_up σ 0 0 (nI 0)) x2 τ1 → (Q x2 τ1)) ∧ (¬ w = nI 8 → Q (-1) (kp_up σ 0 0 (nI 0)))))))))))) : kp_T layM gl_X10 pl_X10 (ms_X10_count) tb_X10_count (kp_rk (some .int)) J Q 39 tb_X10_count (kp_en [.ref 0, .int w] 2) [] σ := h
set_option maxRecDepth 100000 in
set_option maxHeartbeats 4000000 in
theorem c_X10_count : kp_Met layM 4 yX10_count cX10_count 2 (some .int) (pr_X10_count) (po_X10_count) := by
  refine kp_met (N := 39) (by decide) tk_X10_count gk_X10 pk_X10 (mk_X10_count) rfl (fun _ _ _ _ _ _ _ => False) ?_ (fun _ _ _ _ _ _ _ _ h => h.elim)
  rintro As σ ⟨w, rfl, hp⟩
  refine ⟨⟨rfl, Nat.le_of_ble_eq_true rfl⟩, v_X10_count w σ ?_⟩
  obtain ⟨hL, hk, hty, hco, has⟩ := id hp
  have h00 := InvM_0 hp
  obtain ⟨hL0, em⟩ := LM_fm hL fm_0 (by decide) (by decide)
  obtain ⟨hk0, ek⟩ := kOM_fm hk fm_0 (by decide) (by decide)
  have hf0 : fm [] [0, 34, 35] σ (kp_up σ 0 0 (nI 0)) := fm_mono fm_0 (by decide) (by decide)
  rw [up_n (show (2 : Nat) ≠ 0 by decide), up_n (show (8 : Nat) ≠ 0 by decide), up_n (show (21 : Nat) ≠ 0 by decide), up_n (show (6 : Nat) ≠ 0 by decide), up_n (show (7 : Nat) ≠ 0 by decide), up_n (show (10 : Nat) ≠ 0 by decide), up_n (show (11 : Nat) ≠ 0 by decide), up_n (show (3 : Nat) ≠ 0 by decide)]
  have hQ : ∀ r, (¬ w = nI 8 ∧ r = cnA w (σ 0 2) (σ 0 8) (σ 0 21) (σ 0 6) (σ 0 7) (σ 0 10) (σ 0 11) (σ 0 3)) → po_X10_count [.ref 0, .int w] σ r (kp_up σ 0 0 (nI 0)) := fun r h => ⟨h00, hf0, fun z => absurd z h.1, fun _ => h.2⟩
  refine ⟨fun h0 => hQ _ ⟨by rw [h0]; decide, by unfold cnA; rw [if_pos h0]⟩, fun h0 => ⟨fun h1 => hQ _ ⟨by rw [h1]; decide, by unfold cnA; rw [if_neg h0, if_pos h1]⟩, fun h1 => ⟨fun h2 => hQ _ ⟨by rw [h2]; decide, by unfold cnA; rw [if_neg h0, if_neg h1, if_pos h2]⟩, fun h2 => ⟨fun h3 => hQ _ ⟨by rw [h3]; decide, by unfold cnA; rw [if_neg h0, if_neg h1, if_neg h2, if_pos h3]⟩, fun h3 => ⟨fun h4 => hQ _ ⟨by rw [h4]; decide, by unfold cnA; rw [if_neg h0, if_neg h1, if_neg h2, if_neg h3, if_pos h4]⟩, fun h4 => ⟨fun h5 => hQ _ ⟨by rw [h5]; decide, by unfold cnA; rw [if_neg h0, if_neg h1, if_neg h2, if_neg h3, if_neg h4, if_pos h5]⟩, fun h5 => ⟨fun h6 => hQ _ ⟨by rw [h6]; decide, by unfold cnA; rw [if_neg h0, if_neg h1, if_neg h2, if_neg h3, if_neg h4, if_neg h5, if_pos h6]⟩, fun h6 => ⟨fun h7 => hQ _ ⟨by rw [h7]; decide, by unfold cnA; rw [if_neg h0, if_neg h1, if_neg h2, if_neg h3, if_neg h4, if_neg h5, if_neg h6, if_pos h7]⟩, fun h7 => ⟨fun h8 => ⟨⟨rfl, hL0, hk0⟩, ?_⟩, fun h8 => hQ _ ⟨h8, by unfold cnA; rw [if_neg h0, if_neg h1, if_neg h2, if_neg h3, if_neg h4, if_neg h5, if_neg h6, if_neg h7]⟩⟩⟩⟩⟩⟩⟩⟩⟩⟩
  rintro x2 τ1 ⟨k1, g, f, hD, rfl⟩
  rw [em, ek] at hD
  have hf : fm [] [0, 34, 35] σ τ1 := fm_tr hf0 (fm_mono k1 (by decide) (by decide))
  exact ⟨InvM_fm hp hf (by decide) (by decide), hf, fun _ => ⟨g, f, hD, rfl⟩, fun z => absurd h8 z⟩
def outOK (n i w : Int32) : Prop := ¬ i < nI 0 ∧ i < n ∧ i < nI 400 ∧ (w = nI 0 ∨ w = nI 1)
theorem inR_01 (w : Int32) : inR w (nI 0) (nI 1) = true ↔ w = nI 0 ∨ w = nI 1 := by
  rw [inR_iff, lt_I, lt_I, eq_I, eq_I, nI_toInt (by omega), nI_toInt (by omega)]
  omega
def pr_X10_out : SPre := fun As σ => ∃ i : Int32, ∃ w : Int32, As = [.ref 0, .int i, .int w] ∧ (InvM σ)
def po_X10_out : SPost := fun As σ r τ => match As with
  | [.ref _, .int i, .int w] => (InvM τ ∧ fm [] [0] σ τ ∧ (outOK (σ 0 6) i w → τ 0 0 = nI 0 ∧ r = if w = nI 0 then σ 9 (tn i) else σ 10 (tn i)) ∧ (¬ outOK (σ 0 6) i w → τ 0 0 = nI 1))
  | _ => True
def ms_X10_out : List Me := [(84, 1, 9, 3, true, pr_X10_isIn, po_X10_isIn)]
theorem mk_X10_out : ∀ q ∈ ms_X10_out, kp_okM layM RX10 1 q := List.forall_mem_cons.mpr ⟨Or.inl ⟨0, yX10_isIn, cX10_isIn, 3, (some .boolean), c_X10_isIn, by omega, by decide, rfl, lk_X10_84⟩, fun _ h => absurd h List.not_mem_nil⟩
set_option maxRecDepth 100000 in
theorem v_X10_out {J : Nat → Lcl → List Value → Sg → Prop} {Q : Int32 → Sg → Prop} (i w : Int32) (σ : Sg) (h : (i < (nI 0) → (¬ (nI 0) < ((kp_up σ 0 0 (nI 1)) 0 0) → (¬ w = (nI 0) → vp_in i 400 ∧ (Q ((kp_up σ 0 0 (nI 1)) 10 (i).toNatClampNeg) (kp_up σ 0 0 (nI 1)))) ∧ (w = (nI 0) → vp_in i 400 ∧ (Q ((kp_up σ 0 0 (nI 1)) 9 (i).toNatClampNeg) (kp_up σ 0 0 (nI 1))))) ∧ ((nI 0) < ((kp_up σ 0 0 (nI 1)) 0 0) → Q (nI 0) (kp_up σ 0 0 (nI 1)))) ∧ (¬ i < (nI 0) → (¬ i < (σ 0 6) → (¬ (nI 0) < ((kp_up σ 0 0 (nI 1)) 0 0) → (¬ w = (nI 0) → vp_in i 400 ∧ (Q ((kp_up σ 0 0 (nI 1)) 10 (i).toNatClampNeg) (kp_up σ 0 0 (nI 1)))) ∧ (w = (nI 0) → vp_in i 400 ∧ (Q ((kp_up σ 0 0 (nI 1)) 9 (i).toNatClampNeg) (kp_up σ 0 0 (nI 1))))) ∧ ((nI 0) < ((kp_up σ 0 0 (nI 1)) 0 0) → Q (nI 0) (kp_up σ 0 0 (nI 1)))) ∧ (i < (σ 0 6) → (¬ i < (nI 400) → (¬ (nI 0) < ((kp_up σ 0 0 (nI 1)) 0 0) → (¬ w = (nI 0) → vp_in i 400 ∧ (Q ((kp_up σ 0 0 (nI 1)) 10 (i).toNatClampNeg) (kp_up σ 0 0 (nI 1)))) ∧ (w = (nI 0) → vp_in i 400 ∧ (Q ((kp_up σ 0 0 (nI 1)) 9 (i).toNatClampNeg) (kp_up σ 0 0 (nI 1))))) ∧ ((nI 0) < ((kp_up σ 0 0 (nI 1)) 0 0) → Q (nI 0) (kp_up σ 0 0 (nI 1)))) ∧ (i < (nI 400) → pr_X10_isIn [.int w, .int (nI 0), .int (nI 1)] σ ∧ ∀ (x2 : Int32) (τ1 : Sg), po_X10_isIn [.int w, .int (nI 0), .int (nI 1)] σ x2 τ1 → ((¬ x2 = (nI 0) → (¬ (nI 0) < ((kp_up τ1 0 0 (nI 0)) 0 0) → (¬ w = (nI 0) → vp_in i 400 ∧ (Q ((kp_up τ1 0 0 (nI 0)) 10 (i).toNatClampNeg) (kp_up τ1 0 0 (nI 0)))) ∧ (w = (nI 0) → vp_in i 400 ∧ (Q ((kp_up τ1 0 0 (nI 0)) 9 (i).toNatClampNeg) (kp_up τ1 0 0 (nI 0))))) ∧ ((nI 0) < ((kp_up τ1 0 0 (nI 0)) 0 0) → Q (nI 0) (kp_up τ1 0 0 (nI 0)))) ∧ (x2 = (nI 0) → (¬ (nI 0) < ((kp_up τ1 0 0 (nI 1)) 0 0) → (¬ w = (nI 0) → vp_in i 400 ∧ (Q ((kp_up τ1 0 0 (nI 1)) 10 (i).toNatClampNeg) (kp_up τ1 0 0 (nI 1)))) ∧ (w = (nI 0) → vp_in i 400 ∧ (Q ((kp_up τ1 0 0 (nI 1)) 9 (i).toNatClampNeg) (kp_up τ1 0 0 (nI 1))))) ∧ ((nI 0) < ((kp_up τ1 0 0 (nI 1)) 0 0) → Q (nI 0) (kp_up τ1 0 0 (nI 1))))))))) : kp_T layM gl_X10 pl_X10 (ms_X10_out) tb_X10_out (kp_rk (some .int)) J Q 41 tb_X10_out (kp_en [.ref 0, .int i, .int w] 3) [] σ := h
set_option maxRecDepth 100000 in
set_option maxHeartbeats 4000000 in
theorem c_X10_out : kp_Met layM 1 yX10_out cX10_out 3 (some .int) (pr_X10_out) (po_X10_out) := by
  refine kp_met (N := 41) (by decide) tk_X10_out gk_X10 pk_X10 (mk_X10_out) rfl (fun _ _ _ _ _ _ _ => False) ?_ (fun _ _ _ _ _ _ _ _ h => h.elim)
  rintro As σ ⟨i, w, rfl, hp⟩
  refine ⟨⟨rfl, Nat.le_of_ble_eq_true rfl⟩, v_X10_out i w σ ?_⟩
  have h0 := InvM_0 hp
  have h1 : InvM (kp_up σ 0 0 (nI 1)) := InvM_fm hp (show fm [] [0] σ (kp_up σ 0 0 (nI 1)) from fm_up0 fm_rf (by decide)) (by decide) (by decide)
  have f1 : fm [] [0] σ (kp_up σ 0 0 (nI 1)) := fm_up0 fm_rf (by decide)
  have p1 : nI 0 < kp_up σ 0 0 (nI 1) 0 0 := by rw [up_s]; decide
  have p0 : ¬ nI 0 < kp_up σ 0 0 (nI 0) 0 0 := by rw [up_s]; decide
  have hno : ¬ outOK (σ 0 6) i w → po_X10_out [.ref 0, .int i, .int w] σ (nI 0) (kp_up σ 0 0 (nI 1)) := fun h => ⟨h1, f1, fun z => absurd z h, fun _ => up_s⟩
  refine ⟨fun g => ⟨fun z => absurd p1 z, fun _ => hno (fun z => z.1 g)⟩, fun g => ⟨fun g2 => ⟨fun z => absurd p1 z, fun _ => hno (fun z => g2 z.2.1)⟩, fun g2 => ⟨fun g3 => ⟨fun z => absurd p1 z, fun _ => hno (fun z => g3 z.2.2.1)⟩, fun g3 => ⟨⟨_, _, _, rfl, trivial⟩, ?_⟩⟩⟩⟩
  rintro x2 τ1 ⟨rfl, rfl⟩
  rw [bI_0]
  have hni : nn i := (nI_tn g).symm
  have hin : vp_in i 400 := by
    have := (nn_lt hni (show 400 < 2 ^ 31 by omega)).2.mp g3
    rw [hni]; exact (kp_in (tn_lt _)).mpr this
  refine ⟨fun g4 => ⟨fun _ => ⟨fun g5 => ⟨hin, h0, fm_0, fun z => ⟨up_s, ?_⟩, fun z => ?_⟩, fun g5 => ⟨hin, h0, fm_0, fun z => ⟨up_s, ?_⟩, fun z => ?_⟩⟩, fun z => absurd z p0⟩, fun g4 => ⟨fun z => absurd p1 z, fun _ => hno (fun z => ?_)⟩⟩
  · rw [if_neg g5, up_c (by decide)]; rfl
  · exact absurd ⟨g, g2, g3, (inR_01 w).mp (by simpa using g4)⟩ z
  · rw [if_pos g5, up_c (by decide)]; rfl
  · exact absurd ⟨g, g2, g3, (inR_01 w).mp (by simpa using g4)⟩ z
  · have := (inR_01 w).mpr z.2.2.2
    rw [g4] at this; cases this
