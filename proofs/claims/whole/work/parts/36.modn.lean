/-! what changed, as the model finds it -/
abbrev eN (σ : Sg) (j : Nat) : Nat := if j < tn (σ 0 8) then eK (σ 2) (σ 3) j else eK (σ 5) (σ 6) (j - tn (σ 0 8))
abbrev bbM (τ : Sg) : Nat := tn (τ 0 34) * 16777216 + tn (τ 0 35)
def bhP (c row : Int32) (lo : Nat) : Prop := (c = -1 ∧ lo = 0) ∨ ∃ a b : Nat, c = nI a ∧ a < 12 ∧ row = nI b ∧ b < 16777216 ∧ lo = a * 16777216 + b + 1
def nB (σ τ : Sg) (lo k : Nat) (any : Int32) : Prop := (any = nI 0 ∧ ∀ j, j < k → lo ≤ eN σ j → mM σ (eN σ j) = kM σ (eN σ j)) ∨ (any = nI 1 ∧ nn (τ 0 34) ∧ nn (τ 0 35) ∧ keyOK (bbM τ) ∧ tn (τ 0 34) < 12 ∧ tn (τ 0 35) < 16777216 ∧ lo ≤ bbM τ ∧ mM σ (bbM τ) ≠ kM σ (bbM τ) ∧ ∀ j, j < k → lo ≤ eN σ j → mM σ (eN σ j) ≠ kM σ (eN σ j) → bbM τ ≤ eN σ j)
/-- the least key from lo on that both maps have otherwise -/
def isL (M K : Nat → Int32) (lo k : Nat) : Prop := lo ≤ k ∧ M k ≠ K k ∧ ∀ k', lo ≤ k' → k' < k → M k' = K k'
theorem eN_ok {σ : Sg} {zA zB : Nat} (hA : σ 0 8 = nI zA) (hB : σ 0 9 = nI zB) (hm : mOK (σ 2) (σ 3) (σ 4) (σ 0 8)) (hk : mOK (σ 5) (σ 6) (σ 7) (σ 0 9)) (hzA : zA ≤ 120) (hzB : zB ≤ 120) {j : Nat} (hj : j < zA + zB) : (j < zA → nn (σ 2 j) ∧ nn (σ 3 j) ∧ tn (σ 2 j) < 12 ∧ rowOK (tn (σ 3 j)) = true ∧ eN σ j = tn (σ 2 j) * 16777216 + tn (σ 3 j)) ∧ (¬ j < zA → nn (σ 5 (j - zA)) ∧ nn (σ 6 (j - zA)) ∧ tn (σ 5 (j - zA)) < 12 ∧ rowOK (tn (σ 6 (j - zA))) = true ∧ eN σ j = tn (σ 5 (j - zA)) * 16777216 + tn (σ 6 (j - zA))) := by
  have eA : tn (σ 0 8) = zA := by rw [hA, tn_nI (by omega)]
  obtain ⟨z, h1, h2, h3, -⟩ := hm
  have : z = zA := (nI_eq (by omega) (by omega)).mp (h1.symm.trans hA)
  subst this
  obtain ⟨y, g1, g2, g3, -⟩ := hk
  have : y = zB := (nI_eq (by omega) (by omega)).mp (g1.symm.trans hB)
  subst this
  constructor
  · intro h
    obtain ⟨a, b, c, d, -⟩ := h3 j h
    exact ⟨a, c, b, d, by unfold eN; rw [eA, if_pos h]⟩
  · intro h
    obtain ⟨a, b, c, d, -⟩ := g3 (j - z) (by omega)
    exact ⟨a, c, b, d, by unfold eN; rw [eA, if_neg h]⟩
theorem eN_all {σ : Sg} {zA zB : Nat} (hA : σ 0 8 = nI zA) (hB : σ 0 9 = nI zB) (hzA : zA ≤ 120) (hzB : zB ≤ 120) {k : Nat} (h : mM σ k ≠ kM σ k) : ∃ j, j < zA + zB ∧ eN σ j = k := by
  have eA : tn (σ 0 8) = zA := by rw [hA, tn_nI (by omega)]
  have eB : tn (σ 0 9) = zB := by rw [hB, tn_nI (by omega)]
  by_cases h1 : mM σ k = -1
  · have h2 : lk (eK (σ 5) (σ 6)) (σ 7) (tn (σ 0 9)) k ≠ -1 := fun z => h (h1.trans z.symm)
    rw [eB] at h2
    obtain ⟨i, hi, e⟩ := lk_some h2
    refine ⟨zA + i, by omega, ?_⟩
    unfold eN
    rw [eA, if_neg (by omega), Nat.add_sub_cancel_left]; exact e
  · have h2 : lk (eK (σ 2) (σ 3)) (σ 4) (tn (σ 0 8)) k ≠ -1 := h1
    rw [eA] at h2
    obtain ⟨i, hi, e⟩ := lk_some h2
    refine ⟨i, by omega, ?_⟩
    unfold eN
    rw [eA, if_pos hi]; exact e
def pr_X10_nextChange : SPre := fun As σ => ∃ c : Int32, ∃ row : Int32, As = [.ref 0, .int c, .int row] ∧ (LM σ ∧ kOM σ ∧ ∃ lo : Nat, bhP c row lo)
def po_X10_nextChange : SPost := fun As σ r τ => match As with
  | [.ref _, .int c, .int row] => (fm [] [34, 35] σ τ ∧ ∀ lo, bhP c row lo → (r = nI 1 ∧ nn (τ 0 34) ∧ nn (τ 0 35) ∧ tn (τ 0 34) < 12 ∧ tn (τ 0 35) < 16777216 ∧ isL (mM σ) (kM σ) lo (bbM τ)) ∨ (r = nI 0 ∧ ∀ k, lo ≤ k → mM σ k = kM σ k))
  | _ => True
def ms_X10_nextChange : List Me := [(101, 0, 9, 2, true, pr_X10_hasFor, po_X10_hasFor), (205, 0, 9, 2, true, pr_X10_keptFor, po_X10_keptFor)]
theorem mk_X10_nextChange : ∀ q ∈ ms_X10_nextChange, kp_okM layM RX10 2 q := List.forall_mem_cons.mpr ⟨Or.inl ⟨1, yX10_hasFor, cX10_hasFor, 4, (some .int), c_X10_hasFor, by omega, by decide, rfl, lk_X10_101⟩, List.forall_mem_cons.mpr ⟨Or.inl ⟨0, yX10_keptFor, cX10_keptFor, 4, (some .int), c_X10_keptFor, by omega, by decide, rfl, lk_X10_205⟩, fun _ h => absurd h List.not_mem_nil⟩⟩
def tx_X10_nextChange : List Ent := [(0, .iconst 0, 1, false, nI 0), (1, .istore_n 3, 1, false, 0), (2, .iconst 0, 1, false, nI 0), (3, .istore 4, 2, false, 0), (5, .iload 4, 2, true, 0), (7, .aload_n 0, 1, false, 0), (8, .getfield 92, 3, false, 0), (11, .aload_n 0, 1, false, 0), (12, .getfield 196, 3, false, 0), (15, .iadd, 1, false, 0), (16, .if_icmp .ge 184, 3, false, 0), (19, .iload 4, 2, false, 0), (21, .aload_n 0, 1, false, 0), (22, .getfield 92, 3, false, 0), (25, .if_icmp .ge 13, 3, false, 0), (28, .aload_n 0, 1, false, 0), (29, .getfield 20, 3, false, 0), (32, .iload 4, 2, false, 0), (34, .iaload, 1, false, 0), (35, .goto 15, 3, false, 0), (38, .aload_n 0, 1, false, 0), (39, .getfield 29, 3, false, 0), (42, .iload 4, 2, false, 0), (44, .aload_n 0, 1, false, 0), (45, .getfield 92, 3, false, 0), (48, .isub, 1, false, 0), (49, .iaload, 1, false, 0), (50, .istore 5, 2, false, 0), (52, .iload 4, 2, true, 0), (54, .aload_n 0, 1, false, 0), (55, .getfield 92, 3, false, 0), (58, .if_icmp .ge 13, 3, false, 0), (61, .aload_n 0, 1, false, 0), (62, .getfield 23, 3, false, 0), (65, .iload 4, 2, false, 0), (67, .iaload, 1, false, 0), (68, .goto 15, 3, false, 0), (71, .aload_n 0, 1, false, 0), (72, .getfield 32, 3, false, 0), (75, .iload 4, 2, false, 0), (77, .aload_n 0, 1, false, 0), (78, .getfield 92, 3, false, 0), (81, .isub, 1, false, 0), (82, .iaload, 1, false, 0), (83, .istore 6, 2, false, 0), (85, .iload 5, 2, true, 0), (87, .iload_n 1, 1, false, 0), (88, .if_icmp .gt 15, 3, false, 0), (91, .iload 5, 2, false, 0), (93, .iload_n 1, 1, false, 0), (94, .if_icmp .ne 13, 3, false, 0), (97, .iload 6, 2, false, 0), (99, .iload_n 2, 1, false, 0), (100, .if_icmp .le 7, 3, false, 0), (103, .iconst 1, 1, false, nI 1), (104, .goto 4, 3, false, 0), (107, .iconst 0, 1, false, nI 0), (108, .istore 7, 2, false, 0), (110, .iload_n 3, 1, true, 0), (111, .ifCond .eq 30, 3, false, 0), (114, .iload 5, 2, false, 0), (116, .aload_n 0, 1, false, 0), (117, .getfield 199, 3, false, 0), (120, .if_icmp .lt 21, 3, false, 0), (123, .iload 5, 2, false, 0), (125, .aload_n 0, 1, false, 0), (126, .getfield 199, 3, false, 0), (129, .if_icmp .ne 16, 3, false, 0), (132, .iload 6, 2, false, 0), (134, .aload_n 0, 1, false, 0), (135, .getfield 202, 3, false, 0), (138, .if_icmp .ge 7, 3, false, 0), (141, .iconst 1, 1, false, nI 1), (142, .goto 4, 3, false, 0), (145, .iconst 0, 1, false, nI 0), (146, .istore 8, 2, false, 0), (148, .iload 7, 2, true, 0), (150, .ifCond .eq 44, 3, false, 0), (153, .iload 8, 2, false, 0), (155, .ifCond .eq 39, 3, false, 0), (158, .aload_n 0, 1, false, 0), (159, .iload 5, 2, false, 0), (161, .iload 6, 2, false, 0), (163, .invokevirtual 101, 3, false, 0), (166, .aload_n 0, 1, false, 0), (167, .iload 5, 2, false, 0), (169, .iload 6, 2, false, 0), (171, .invokevirtual 205, 3, false, 0), (174, .if_icmp .ne 6, 3, false, 0), (177, .goto 17, 3, false, 0), (180, .iconst 1, 1, false, nI 1), (181, .istore_n 3, 1, false, 0), (182, .aload_n 0, 1, false, 0), (183, .iload 5, 2, false, 0), (185, .putfield 199, 3, false, 0), (188, .aload_n 0, 1, false, 0), (189, .iload 6, 2, false, 0), (191, .putfield 202, 3, false, 0), (194, .iinc 4 1, 3, false, nI 1), (197, .goto (-192), 3, false, 0), (200, .iload_n 3, 1, false, 0), (201, .ireturn, 1, false, 0)]
set_option maxRecDepth 100000 in
theorem tkx_X10_nextChange : kp_ok cX10_nextChange RX10 tx_X10_nextChange = true := by decide +kernel
set_option maxRecDepth 100000 in
theorem v_X10_nextChange {J : Nat → Lcl → List Value → Sg → Prop} {Q : Int32 → Sg → Prop} (c row : Int32) (σ : Sg) (h : J 5 [some (.ref 0), some (.int c), some (.int row), some (.int (nI 0)), some (.int (nI 0)), none, none, none, none] [] σ) : kp_T layM gl_X10 pl_X10 (ms_X10_nextChange) tx_X10_nextChange (kp_rk (some .boolean)) J Q 107 tx_X10_nextChange (kp_en [.ref 0, .int c, .int row] 9) [] σ := h
set_option maxRecDepth 100000 in
theorem v_X10_nextChange_5 {J : Nat → Lcl → List Value → Sg → Prop} {Q : Int32 → Sg → Prop} (c row any k : Int32) (o5 o6 o7 o8 : Option Value) (σ : Sg) (h : (¬ k < ((σ 0 8) + (σ 0 9)) → (any = nI 0 ∨ any = nI 1) ∧ Q any σ) ∧ (k < ((σ 0 8) + (σ 0 9)) → (¬ k < (σ 0 8) → vp_in (k - (σ 0 8)) 120 ∧ (J 52 [some (.ref 0), some (.int c), some (.int row), some (.int any), some (.int k), some (.int (σ 5 (k - (σ 0 8)).toNatClampNeg)), o6, o7, o8] [] σ)) ∧ (k < (σ 0 8) → vp_in k 120 ∧ (J 52 [some (.ref 0), some (.int c), some (.int row), some (.int any), some (.int k), some (.int (σ 2 (k).toNatClampNeg)), o6, o7, o8] [] σ)))) : kp_T1 layM gl_X10 pl_X10 (ms_X10_nextChange) tx_X10_nextChange (kp_rk (some .boolean)) J Q 107 5 [some (.ref 0), some (.int c), some (.int row), some (.int any), some (.int k), o5, o6, o7, o8] [] σ := h
set_option maxRecDepth 100000 in
theorem v_X10_nextChange_52 {J : Nat → Lcl → List Value → Sg → Prop} {Q : Int32 → Sg → Prop} (c row any k x : Int32) (o6 o7 o8 : Option Value) (σ : Sg) (h : (¬ k < (σ 0 8) → vp_in (k - (σ 0 8)) 120 ∧ (J 85 [some (.ref 0), some (.int c), some (.int row), some (.int any), some (.int k), some (.int x), some (.int (σ 6 (k - (σ 0 8)).toNatClampNeg)), o7, o8] [] σ)) ∧ (k < (σ 0 8) → vp_in k 120 ∧ (J 85 [some (.ref 0), some (.int c), some (.int row), some (.int any), some (.int k), some (.int x), some (.int (σ 3 (k).toNatClampNeg)), o7, o8] [] σ))) : kp_T1 layM gl_X10 pl_X10 (ms_X10_nextChange) tx_X10_nextChange (kp_rk (some .boolean)) J Q 107 52 [some (.ref 0), some (.int c), some (.int row), some (.int any), some (.int k), some (.int x), o6, o7, o8] [] σ := h
set_option maxRecDepth 100000 in
theorem v_X10_nextChange_85 {J : Nat → Lcl → List Value → Sg → Prop} {Q : Int32 → Sg → Prop} (c row any k x rr : Int32) (o7 o8 : Option Value) (σ : Sg) (h : (c < x → J 110 [some (.ref 0), some (.int c), some (.int row), some (.int any), some (.int k), some (.int x), some (.int rr), some (.int (nI 1)), o8] [] σ) ∧ (¬ c < x → (¬ x = c → J 110 [some (.ref 0), some (.int c), some (.int row), some (.int any), some (.int k), some (.int x), some (.int rr), some (.int (nI 0)), o8] [] σ) ∧ (x = c → (¬ row < rr → J 110 [some (.ref 0), some (.int c), some (.int row), some (.int any), some (.int k), some (.int x), some (.int rr), some (.int (nI 0)), o8] [] σ) ∧ (row < rr → J 110 [some (.ref 0), some (.int c), some (.int row), some (.int any), some (.int k), some (.int x), some (.int rr), some (.int (nI 1)), o8] [] σ)))) : kp_T1 layM gl_X10 pl_X10 (ms_X10_nextChange) tx_X10_nextChange (kp_rk (some .boolean)) J Q 107 85 [some (.ref 0), some (.int c), some (.int row), some (.int any), some (.int k), some (.int x), some (.int rr), o7, o8] [] σ := h
set_option maxRecDepth 100000 in
theorem v_X10_nextChange_110 {J : Nat → Lcl → List Value → Sg → Prop} {Q : Int32 → Sg → Prop} (c row any k x rr bh : Int32) (o8 : Option Value) (σ : Sg) (h : (any = (nI 0) → J 148 [some (.ref 0), some (.int c), some (.int row), some (.int any), some (.int k), some (.int x), some (.int rr), some (.int bh), some (.int (nI 1))] [] σ) ∧ (¬ any = (nI 0) → (x < (σ 0 34) → J 148 [some (.ref 0), some (.int c), some (.int row), some (.int any), some (.int k), some (.int x), some (.int rr), some (.int bh), some (.int (nI 1))] [] σ) ∧ (¬ x < (σ 0 34) → (¬ x = (σ 0 34) → J 148 [some (.ref 0), some (.int c), some (.int row), some (.int any), some (.int k), some (.int x), some (.int rr), some (.int bh), some (.int (nI 0))] [] σ) ∧ (x = (σ 0 34) → (¬ rr < (σ 0 35) → J 148 [some (.ref 0), some (.int c), some (.int row), some (.int any), some (.int k), some (.int x), some (.int rr), some (.int bh), some (.int (nI 0))] [] σ) ∧ (rr < (σ 0 35) → J 148 [some (.ref 0), some (.int c), some (.int row), some (.int any), some (.int k), some (.int x), some (.int rr), some (.int bh), some (.int (nI 1))] [] σ))))) : kp_T1 layM gl_X10 pl_X10 (ms_X10_nextChange) tx_X10_nextChange (kp_rk (some .boolean)) J Q 107 110 [some (.ref 0), some (.int c), some (.int row), some (.int any), some (.int k), some (.int x), some (.int rr), some (.int bh), o8] [] σ := h
set_option maxRecDepth 100000 in
theorem v_X10_nextChange_148 {J : Nat → Lcl → List Value → Sg → Prop} {Q : Int32 → Sg → Prop} (c row any k x rr bh nr : Int32) (σ : Sg) (h : (bh = (nI 0) → J 5 [some (.ref 0), some (.int c), some (.int row), some (.int any), some (.int (k + nI 1)), some (.int x), some (.int rr), some (.int bh), some (.int nr)] [] σ) ∧ (¬ bh = (nI 0) → (nr = (nI 0) → J 5 [some (.ref 0), some (.int c), some (.int row), some (.int any), some (.int (k + nI 1)), some (.int x), some (.int rr), some (.int bh), some (.int nr)] [] σ) ∧ (¬ nr = (nI 0) → pr_X10_hasFor [.ref 0, .int x, .int rr] σ ∧ ∀ (x2 : Int32) (τ1 : Sg), po_X10_hasFor [.ref 0, .int x, .int rr] σ x2 τ1 → (pr_X10_keptFor [.ref 0, .int x, .int rr] τ1 ∧ ∀ (x4 : Int32) (τ3 : Sg), po_X10_keptFor [.ref 0, .int x, .int rr] τ1 x4 τ3 → ((¬ x2 = x4 → J 5 [some (.ref 0), some (.int c), some (.int row), some (.int (nI 1)), some (.int (k + nI 1)), some (.int x), some (.int rr), some (.int bh), some (.int nr)] [] (kp_up (kp_up τ3 0 34 x) 0 35 rr)) ∧ (x2 = x4 → J 5 [some (.ref 0), some (.int c), some (.int row), some (.int any), some (.int (k + nI 1)), some (.int x), some (.int rr), some (.int bh), some (.int nr)] [] τ3)))))) : kp_T1 layM gl_X10 pl_X10 (ms_X10_nextChange) tx_X10_nextChange (kp_rk (some .boolean)) J Q 107 148 [some (.ref 0), some (.int c), some (.int row), some (.int any), some (.int k), some (.int x), some (.int rr), some (.int bh), some (.int nr)] [] σ := h
abbrev iv_X10_nextChange : List Value → Sg → Nat → Nat → Lcl → List Value → Sg → Prop := fun As σ n pc ls st τ => st = [] ∧ ∃ (c row any : Int32) (lo k zA zB : Nat), As = [.ref 0, .int c, .int row] ∧ bhP c row lo ∧ σ 0 8 = nI zA ∧ σ 0 9 = nI zB ∧ zA ≤ 120 ∧ zB ≤ 120 ∧ fm [] [34, 35] σ τ ∧ nB σ τ lo k any ∧ ((pc = 5 ∧ k ≤ zA + zB ∧ n = 10 * (zA + zB - k) + 9 ∧ ∃ o5 o6 o7 o8 : Option Value, ls = [some (.ref 0), some (.int c), some (.int row), some (.int any), some (.int (nI k)), o5, o6, o7, o8]) ∨ (k < zA + zB ∧ ((pc = 52 ∧ n = 10 * (zA + zB - k) + 8 ∧ ∃ o6 o7 o8 : Option Value, ls = [some (.ref 0), some (.int c), some (.int row), some (.int any), some (.int (nI k)), some (.int (nI (eN σ k / 16777216))), o6, o7, o8]) ∨ (pc = 85 ∧ n = 10 * (zA + zB - k) + 7 ∧ ∃ o7 o8 : Option Value, ls = [some (.ref 0), some (.int c), some (.int row), some (.int any), some (.int (nI k)), some (.int (nI (eN σ k / 16777216))), some (.int (nI (eN σ k % 16777216))), o7, o8]) ∨ (pc = 110 ∧ n = 10 * (zA + zB - k) + 6 ∧ ∃ o8 : Option Value, ls = [some (.ref 0), some (.int c), some (.int row), some (.int any), some (.int (nI k)), some (.int (nI (eN σ k / 16777216))), some (.int (nI (eN σ k % 16777216))), some (.int (bI (decide (lo ≤ eN σ k)))), o8]) ∨ (pc = 148 ∧ n = 10 * (zA + zB - k) + 5 ∧ ls = [some (.ref 0), some (.int c), some (.int row), some (.int any), some (.int (nI k)), some (.int (nI (eN σ k / 16777216))), some (.int (nI (eN σ k % 16777216))), some (.int (bI (decide (lo ≤ eN σ k)))), some (.int (bI (decide (any = nI 0 ∨ eN σ k < bbM τ))))]))))
set_option maxRecDepth 100000 in
set_option maxHeartbeats 4000000 in
theorem c_X10_nextChange : kp_Met layM 2 yX10_nextChange cX10_nextChange 9 (some .boolean) (pr_X10_nextChange) (po_X10_nextChange) := by
  refine kp_met (N := 107) (by decide) tkx_X10_nextChange gk_X10 pk_X10 (mk_X10_nextChange) rfl (iv_X10_nextChange) ?_ ?_
  · rintro As σ ⟨c, row, rfl, hp⟩
    refine ⟨⟨rfl, Nat.le_of_ble_eq_true rfl⟩, v_X10_nextChange c row σ ?_⟩
    obtain ⟨hL, hk, lo, hlo⟩ := hp
    obtain ⟨zA, hA, hA1, -, -⟩ := hL.2
    obtain ⟨zB, hB, hB1, -, -⟩ := hk
    exact ⟨_, rfl, c, row, nI 0, lo, 0, zA, zB, rfl, hlo, hA, hB, hA1, hB1, fm_rf, Or.inl ⟨rfl, fun j hj => by omega⟩, Or.inl ⟨rfl, Nat.zero_le _, rfl, none, none, none, none, rfl⟩⟩
  · rintro As σ ⟨c, row, rfl, hp⟩ n pc ls st τ hI
    obtain ⟨hL, hk, -⟩ := hp
    obtain ⟨rfl, c', row', any, lo, k, zA, zB, hAs, hlo, hA, hB, hzA, hzB, hf, hnB, hI⟩ := hI
    cases hAs
    have q8 : τ 0 8 = nI zA := (hf.2 8 (by decide)).trans hA
    have q9 : τ 0 9 = nI zB := (hf.2 9 (by decide)).trans hB
    have q (c : Nat) (h : c ≠ 0) : τ c = σ c := hf.1 c h (by simp)
    have eA : tn (σ 0 8) = zA := by rw [hA, tn_nI (by omega)]
    have hmk : ∀ {n' pc ls}, ((pc = 5 ∧ k ≤ zA + zB ∧ n' = 10 * (zA + zB - k) + 9 ∧ ∃ o5 o6 o7 o8 : Option Value, ls = [some (.ref 0), some (.int c), some (.int row), some (.int any), some (.int (nI k)), o5, o6, o7, o8]) ∨ (k < zA + zB ∧ ((pc = 52 ∧ n' = 10 * (zA + zB - k) + 8 ∧ ∃ o6 o7 o8 : Option Value, ls = [some (.ref 0), some (.int c), some (.int row), some (.int any), some (.int (nI k)), some (.int (nI (eN σ k / 16777216))), o6, o7, o8]) ∨ (pc = 85 ∧ n' = 10 * (zA + zB - k) + 7 ∧ ∃ o7 o8 : Option Value, ls = [some (.ref 0), some (.int c), some (.int row), some (.int any), some (.int (nI k)), some (.int (nI (eN σ k / 16777216))), some (.int (nI (eN σ k % 16777216))), o7, o8]) ∨ (pc = 110 ∧ n' = 10 * (zA + zB - k) + 6 ∧ ∃ o8 : Option Value, ls = [some (.ref 0), some (.int c), some (.int row), some (.int any), some (.int (nI k)), some (.int (nI (eN σ k / 16777216))), some (.int (nI (eN σ k % 16777216))), some (.int (bI (decide (lo ≤ eN σ k)))), o8]) ∨ (pc = 148 ∧ n' = 10 * (zA + zB - k) + 5 ∧ ls = [some (.ref 0), some (.int c), some (.int row), some (.int any), some (.int (nI k)), some (.int (nI (eN σ k / 16777216))), some (.int (nI (eN σ k % 16777216))), some (.int (bI (decide (lo ≤ eN σ k)))), some (.int (bI (decide (any = nI 0 ∨ eN σ k < bbM τ))))])))) → iv_X10_nextChange [.ref 0, .int c, .int row] σ n' pc ls [] τ := fun h => ⟨rfl, c, row, any, lo, k, zA, zB, rfl, hlo, hA, hB, hzA, hzB, hf, hnB, h⟩
    rcases hI with ⟨rfl, hkz, rfl, o5, o6, o7, o8, rfl⟩ | ⟨hkz, hI⟩
    · refine v_X10_nextChange_5 _ _ _ _ o5 o6 o7 o8 τ ?_
      rw [q8, q9, nI_add, nI_ltI (by omega) (by omega), nI_ltI (by omega) (by omega)]
      refine ⟨fun g => ⟨?_, hf, fun lo' hlo' => ?_⟩, fun g => ⟨fun g2 => ?_, fun g2 => ?_⟩⟩
      · rcases hnB with ⟨e, -⟩ | ⟨e, -⟩
        · exact Or.inl e
        · exact Or.inr e
      · have hll : lo' = lo := by
          rcases hlo with ⟨a1, a2⟩ | ⟨a, b, a1, a2, a3, a4, a5⟩ <;> rcases hlo' with ⟨b1, b2⟩ | ⟨a', b', b1, b2, b3, b4, b5⟩
          · omega
          · rw [a1] at b1; exact absurd b1.symm (nI_m1 (by omega))
          · rw [b1] at a1; exact absurd a1.symm (nI_m1 (by omega))
          · have e1 := (nI_eq (by omega) (by omega)).mp (a1.symm.trans b1)
            have e2 := (nI_eq (by omega) (by omega)).mp (a3.symm.trans b3)
            rw [e1, e2] at a5; omega
        rw [hll]
        have hkk : k = zA + zB := by omega
        rcases hnB with ⟨e, h⟩ | ⟨e, h1, h2, h3, h4, h5, h6, h7, h8⟩
        · refine Or.inr ⟨e, fun k' hk' => ?_⟩
          refine Classical.byContradiction (fun z => ?_)
          obtain ⟨j, hj, ej⟩ := eN_all hA hB hzA hzB z
          have := h j (by omega) (by rw [ej]; exact hk')
          rw [ej] at this
          exact z this
        · refine Or.inl ⟨e, h1, h2, h4, h5, h6, h7, fun k' hk' hlt => ?_⟩
          refine Classical.byContradiction (fun z => ?_)
          obtain ⟨j, hj, ej⟩ := eN_all hA hB hzA hzB z
          have := h8 j (by omega) (by rw [ej]; exact hk') (by rw [ej]; exact z)
          omega
      · obtain ⟨a1, a2, a3, a4, a5⟩ := (eN_ok hA hB hL.2 hk hzA hzB g).2 g2
        rw [pk_sub (by omega), nI_clamp (by omega), q 5 (by decide), kp_in (by omega)]
        have hrl := rowOK_lt a4
        refine ⟨by omega, _, by omega, hmk (Or.inr ⟨g, Or.inl ⟨rfl, rfl, o6, o7, o8, ?_⟩⟩)⟩
        rw [a5, (key_div hrl).1, ← a1]
      · obtain ⟨a1, a2, a3, a4, a5⟩ := (eN_ok hA hB hL.2 hk hzA hzB g).1 g2
        rw [nI_clamp (by omega), q 2 (by decide), kp_in (by omega)]
        have hrl := rowOK_lt a4
        refine ⟨by omega, _, by omega, hmk (Or.inr ⟨g, Or.inl ⟨rfl, rfl, o6, o7, o8, ?_⟩⟩)⟩
        rw [a5, (key_div hrl).1, ← a1]
    · have hek : eN σ k / 16777216 < 12 ∧ rowOK (eN σ k % 16777216) = true ∧ eN σ k % 16777216 < 16777216 := by
        by_cases g2 : k < zA
        · obtain ⟨a1, a2, a3, a4, a5⟩ := (eN_ok hA hB hL.2 hk hzA hzB hkz).1 g2
          have hrl := rowOK_lt a4
          rw [a5, (key_div hrl).1, (key_div hrl).2]; exact ⟨a3, a4, hrl⟩
        · obtain ⟨a1, a2, a3, a4, a5⟩ := (eN_ok hA hB hL.2 hk hzA hzB hkz).2 g2
          have hrl := rowOK_lt a4
          rw [a5, (key_div hrl).1, (key_div hrl).2]; exact ⟨a3, a4, hrl⟩
      obtain ⟨hk1, hk2, hk3⟩ := hek
      have hsp : eN σ k = eN σ k / 16777216 * 16777216 + eN σ k % 16777216 := by omega
      rcases hI with ⟨rfl, rfl, o6, o7, o8, rfl⟩ | ⟨rfl, rfl, o7, o8, rfl⟩ | ⟨rfl, rfl, o8, rfl⟩ | ⟨rfl, rfl, rfl⟩
      · refine v_X10_nextChange_52 _ _ _ _ _ o6 o7 o8 τ ?_
        rw [q8, nI_ltI (by omega) (by omega)]
        refine ⟨fun g2 => ?_, fun g2 => ?_⟩
        · obtain ⟨a1, a2, a3, a4, a5⟩ := (eN_ok hA hB hL.2 hk hzA hzB hkz).2 g2
          rw [pk_sub (by omega), nI_clamp (by omega), q 6 (by decide), kp_in (by omega)]
          refine ⟨by omega, _, by omega, hmk (Or.inr ⟨hkz, Or.inr (Or.inl ⟨rfl, rfl, o7, o8, ?_⟩)⟩)⟩
          have e : σ 6 (k - zA) = nI (eN σ k % 16777216) := by rw [a5, (key_div (rowOK_lt a4)).2]; exact a2
          rw [e]
        · obtain ⟨a1, a2, a3, a4, a5⟩ := (eN_ok hA hB hL.2 hk hzA hzB hkz).1 g2
          rw [nI_clamp (by omega), q 3 (by decide), kp_in (by omega)]
          refine ⟨by omega, _, by omega, hmk (Or.inr ⟨hkz, Or.inr (Or.inl ⟨rfl, rfl, o7, o8, ?_⟩)⟩)⟩
          have e : σ 3 k = nI (eN σ k % 16777216) := by rw [a5, (key_div (rowOK_lt a4)).2]; exact a2
          rw [e]
      · refine v_X10_nextChange_85 _ _ _ _ _ _ o7 o8 τ ?_
        have hJ : ∀ b : Bool, decide (lo ≤ eN σ k) = b → ∃ n', n' < 10 * (zA + zB - k) + 7 ∧ iv_X10_nextChange [.ref 0, .int c, .int row] σ n' 110 [some (.ref 0), some (.int c), some (.int row), some (.int any), some (.int (nI k)), some (.int (nI (eN σ k / 16777216))), some (.int (nI (eN σ k % 16777216))), some (.int (bI b)), o8] [] τ := fun b hb => ⟨_, by omega, hmk (Or.inr ⟨hkz, Or.inr (Or.inr (Or.inl ⟨rfl, rfl, o8, by rw [hb]⟩))⟩)⟩
        rcases hlo with ⟨rfl, rfl⟩ | ⟨a, b, rfl, ha, rfl, hb, rfl⟩
        · have hlt : (-1 : Int32) < nI (eN σ k / 16777216) := by
            rw [lt_I, nI_toInt (by omega)]
            have : (-1 : Int32).toInt = -1 := by decide
            rw [this]; omega
          exact ⟨fun _ => hJ true (decide_eq_true (Nat.zero_le _)), fun z => absurd hlt z⟩
        · rw [nI_ltI (by omega) (by omega), nI_eq (by omega) (by omega), nI_ltI (by omega) (by omega)]
          exact ⟨fun g => hJ true (decide_eq_true (by omega)), fun g => ⟨fun g2 => hJ false (decide_eq_false (by omega)), fun g2 => ⟨fun g3 => hJ false (decide_eq_false (by omega)), fun g3 => hJ true (decide_eq_true (by omega))⟩⟩⟩
      · refine v_X10_nextChange_110 _ _ _ _ _ _ _ o8 τ ?_
        have hJ : ∀ b : Bool, decide (any = nI 0 ∨ eN σ k < bbM τ) = b → ∃ n', n' < 10 * (zA + zB - k) + 6 ∧ iv_X10_nextChange [.ref 0, .int c, .int row] σ n' 148 [some (.ref 0), some (.int c), some (.int row), some (.int any), some (.int (nI k)), some (.int (nI (eN σ k / 16777216))), some (.int (nI (eN σ k % 16777216))), some (.int (bI (decide (lo ≤ eN σ k)))), some (.int (bI b))] [] τ := fun b hb => ⟨_, by omega, hmk (Or.inr ⟨hkz, Or.inr (Or.inr (Or.inr ⟨rfl, rfl, by rw [hb]⟩))⟩)⟩
        rcases id hnB with ⟨e, h⟩ | ⟨e, h1, h2, h3, h4, h5, h6, h7, h8⟩
        · exact ⟨fun _ => hJ true (decide_eq_true (Or.inl e)), fun z => absurd e z⟩
        · have hne : ¬ any = nI 0 := by rw [e]; decide
          have ebb : bbM τ = tn (τ 0 34) * 16777216 + tn (τ 0 35) := rfl
          rw [(nn_lt h1 (show eN σ k / 16777216 < 2 ^ 31 by omega)).1, (nn_lt h2 (show eN σ k % 16777216 < 2 ^ 31 by omega)).1, show (nI (eN σ k / 16777216) = τ 0 34) = (nI (eN σ k / 16777216) = nI (tn (τ 0 34))) by rw [← h1], nI_eq (by omega) (tn_lt _)]
          exact ⟨fun z => absurd z hne, fun _ => ⟨fun g => hJ true (decide_eq_true (Or.inr (by omega))), fun g => ⟨fun g2 => hJ false (decide_eq_false (by rintro (z | z); exact hne z; omega)), fun g2 => ⟨fun g3 => hJ false (decide_eq_false (by rintro (z | z); exact hne z; omega)), fun g3 => hJ true (decide_eq_true (Or.inr (by omega)))⟩⟩⟩⟩
      · refine v_X10_nextChange_148 _ _ _ _ _ _ _ _ τ ?_
        rw [show nI k + nI 1 = nI (k + 1) from nI_add _ _, bI_0, bI_0]
        have hJ : ∀ (τ' : Sg) (any' : Int32) (o5 o6 o7 o8 : Option Value), fm [] [34, 35] σ τ' → nB σ τ' lo (k + 1) any' → ∃ n', n' < 10 * (zA + zB - k) + 5 ∧ iv_X10_nextChange [.ref 0, .int c, .int row] σ n' 5 [some (.ref 0), some (.int c), some (.int row), some (.int any'), some (.int (nI (k + 1))), o5, o6, o7, o8] [] τ' := fun τ' any' o5 o6 o7 o8 h1 h2 => ⟨10 * (zA + zB - (k + 1)) + 9, by omega, rfl, c, row, any', lo, k + 1, zA, zB, rfl, hlo, hA, hB, hzA, hzB, h1, h2, Or.inl ⟨rfl, by omega, rfl, o5, o6, o7, o8, rfl⟩⟩
        have hstay : (lo ≤ eN σ k → mM σ (eN σ k) ≠ kM σ (eN σ k) → any ≠ nI 0 ∧ bbM τ ≤ eN σ k) → nB σ τ lo (k + 1) any := by
          intro hs
          rcases id hnB with ⟨e, h⟩ | ⟨e, h1, h2, h3, h4, h5, h6, h7, h8⟩
          · refine Or.inl ⟨e, fun j hj hl => ?_⟩
            by_cases ej : j = k
            · rw [ej] at hl ⊢
              exact Classical.byContradiction (fun z => (hs hl z).1 e)
            · exact h j (by omega) hl
          · refine Or.inr ⟨e, h1, h2, h3, h4, h5, h6, h7, fun j hj hl hd => ?_⟩
            by_cases ej : j = k
            · rw [ej] at hl hd ⊢; exact (hs hl hd).2
            · exact h8 j (by omega) hl hd
        refine ⟨fun g => hJ τ any _ _ _ _ hf (hstay (fun z => absurd z (of_decide_eq_false g))), fun g => ⟨fun g2 => hJ τ any _ _ _ _ hf (hstay (fun _ _ => ?_)), fun g2 => ?_⟩⟩
        · have := of_decide_eq_false g2
          exact ⟨fun z => this (Or.inl z), Nat.le_of_not_lt (fun z => this (Or.inr z))⟩
        · have g : lo ≤ eN σ k := of_decide_eq_true (by simpa using g)
          have g2 : any = nI 0 ∨ eN σ k < bbM τ := of_decide_eq_true (show decide _ = true by rw [Bool.not_eq_false] at g2; exact g2)
          obtain ⟨hLt, em⟩ := LM_fm hL hf (by decide) (by decide)
          obtain ⟨hkt, ek⟩ := kOM_fm hk hf (by decide) (by decide)
          refine ⟨⟨_, _, rfl, hLt.2, _, _, rfl, hk1, rfl, hk3⟩, ?_⟩
          rintro x2 τ1 ⟨rfl, rfl⟩
          refine ⟨⟨_, _, rfl, hkt, _, _, rfl, hk1, rfl, hk3⟩, ?_⟩
          rintro x4 τ3 ⟨rfl, rfl⟩
          rw [em, ek, tn_nI (show eN σ k / 16777216 < 2 ^ 31 by omega), tn_nI (show eN σ k % 16777216 < 2 ^ 31 by omega), ← hsp]
          refine ⟨fun g3 => hJ _ (nI 1) _ _ _ _ (fm_up0 (fm_up0 hf (by decide)) (by decide)) (Or.inr ?_), fun g3 => hJ τ3 any _ _ _ _ hf (hstay (fun _ z => absurd g3 z))⟩
          have u34 : kp_up (kp_up τ3 0 34 (nI (eN σ k / 16777216))) 0 35 (nI (eN σ k % 16777216)) 0 34 = nI (eN σ k / 16777216) := by rw [up_n (by decide), up_s]
          have u35 : kp_up (kp_up τ3 0 34 (nI (eN σ k / 16777216))) 0 35 (nI (eN σ k % 16777216)) 0 35 = nI (eN σ k % 16777216) := up_s
          have ubb : bbM (kp_up (kp_up τ3 0 34 (nI (eN σ k / 16777216))) 0 35 (nI (eN σ k % 16777216))) = eN σ k := by
            unfold bbM
            rw [u34, u35, tn_nI (by omega), tn_nI (by omega)]; exact hsp.symm
          rw [ubb, u34, u35, tn_nI (show eN σ k / 16777216 < 2 ^ 31 by omega), tn_nI (show eN σ k % 16777216 < 2 ^ 31 by omega)]
          refine ⟨rfl, nn_nI (by omega), nn_nI (by omega), ⟨hk1, hk2⟩, hk1, hk3, g, g3, fun j hj hl hd => ?_⟩
          by_cases ej : j = k
          · rw [ej]; exact Nat.le_refl _
          · rcases id hnB with ⟨e, h⟩ | ⟨e, h1, h2, h3, h4, h5, h6, h7, h8⟩
            · exact absurd (h j (by omega) hl) hd
            · have := h8 j (by omega) hl hd
              rcases g2 with z | z
              · rw [e] at z; exact absurd z (by decide)
              · omega
