/-! the model's search -/
theorem meets_comm (o : Nat → Int32) (c d : Nat) : meets o c d = meets o d c := by unfold meets; exact Bool.or_comm _ _
theorem nn_mul {x y : Int32} (hx : nn x) (hy : nn y) : x * y = nI (tn x * tn y) := by
  have : x * y = nI (tn x) * nI (tn y) := by rw [← hx, ← hy]
  rw [this, pk_mul]
theorem nn_add {a : Nat} {x : Int32} (hx : nn x) : nI a + x = nI (a + tn x) := by
  have : nI a + x = nI a + nI (tn x) := by rw [← hx]
  rw [this, nI_add]
theorem sub_s1 {a b : Nat} (h : b < a) : a - b = (a - (b + 1)) + 1 := by omega
abbrev trM (σ : Sg) : Nat → Nat := fun j => tn (σ 19 j)
abbrev ofM (σ : Sg) : Nat → Nat := fun s => tn (σ 17 s)
abbrev PTM (σ : Sg) : Nat → Nat → Nat := fun i s => prc (σ 11) (σ 12) (σ 13) (σ 14) (tn (σ 15 i)) (tn (σ 17 s))
abbrev MTM (σ : Sg) : Nat → Nat → Bool := fun i j => meets (σ 1) (tn (σ 16 i)) (tn (σ 16 j))
def bsM (σ : Sg) : BS := if σ 0 33 = -1 then none else some (tn (σ 0 33), (List.range (nwM σ)).map fun i => tn (σ 17 (tn (σ 20 i))))
def bmOK (σ : Sg) : Prop := (σ 0 33 = -1 ∨ (nn (σ 0 33) ∧ tn (σ 0 33) ≤ 660000)) ∧ (σ 0 33 ≠ -1 → ∀ j, j < nwM σ → nn (σ 20 j) ∧ tn (σ 20 j) < noM σ)
def gmS (σ : Sg) (kk ss : Nat) : Prop := kk ≤ nwM σ ∧ ss ≤ 110000 * kk ∧ (∀ j, j < kk → nn (σ 19 j) ∧ trM σ j < noM σ) ∧ bmOK σ
def pr_X10_gives (d : Nat) : SPre := fun As σ => ∃ k sum : Int32, As = [.ref 0, .int k, .int sum] ∧ (asM σ ∧ cstM σ ∧ ctxOK (σ 1) (σ 0 2) ∧ ∃ kk ss : Nat, k = nI kk ∧ sum = nI ss ∧ nwM σ - kk < d ∧ gmS σ kk ss)
abbrev gvM (σ : Sg) (kk ss : Nat) : BS := gv (nwM σ) (noM σ) (PTM σ) (MTM σ) (ofM σ) (nwM σ - kk) kk ss (trM σ) (bsM σ)
def gmK (σ τ : Sg) (kk : Nat) : Prop := fm [19, 20] [33] σ τ ∧ (∀ j, j < kk → τ 19 j = σ 19 j) ∧ bmOK τ
def po_X10_gives : SPost := fun As σ _ τ => match As with
  | [.ref _, .int k, .int sum] => gmK σ τ (tn k) ∧ bsM τ = gvM σ (tn k) (tn sum)
  | _ => True
theorem fm_data {l s : List Nat} {σ τ : Sg} (h : fm l s σ τ) (hl : ∀ c ∈ [1, 11, 12, 13, 14, 15, 16, 17], c ∉ l) (hs : ∀ k ∈ [2, 10, 11], k ∉ s) : nwM τ = nwM σ ∧ noM τ = noM σ ∧ PTM τ = PTM σ ∧ MTM τ = MTM σ ∧ ofM τ = ofM σ := by
  refine ⟨?_, ?_, ?_, ?_, ?_⟩
  · unfold nwM; rw [h.2 10 (hs 10 (by decide))]
  · unfold noM; rw [h.2 11 (hs 11 (by decide))]
  · unfold PTM; rw [h.1 11 (by decide) (hl 11 (by decide)), h.1 12 (by decide) (hl 12 (by decide)), h.1 13 (by decide) (hl 13 (by decide)), h.1 14 (by decide) (hl 14 (by decide)), h.1 15 (by decide) (hl 15 (by decide)), h.1 17 (by decide) (hl 17 (by decide))]
  · unfold MTM; rw [h.1 1 (by decide) (hl 1 (by decide)), h.1 16 (by decide) (hl 16 (by decide))]
  · unfold ofM; rw [h.1 17 (by decide) (hl 17 (by decide))]
theorem bsM_congr {σ τ : Sg} (h1 : τ 0 33 = σ 0 33) (h2 : τ 0 10 = σ 0 10) (h3 : τ 20 = σ 20) (h4 : τ 17 = σ 17) : bsM τ = bsM σ := by
  unfold bsM nwM
  rw [h1, h2, h3, h4]
theorem PTM_le {σ : Sg} (ha : asM σ) (hc : cstM σ) {i s : Nat} (hi : i < nwM σ) (hs : s < noM σ) : PTM σ i s ≤ 110000 := by
  obtain ⟨a1, a2, a3, a4, a5, a6⟩ := ha
  have h1 := (hc.2 (tn (σ 15 i)) (a5 i hi).2.1)
  have h2 := (hc.1 (tn (σ 17 s)) (a6 s hs).2.1 (a6 s hs).2.2)
  show tn (σ 12 (tn (σ 15 i))) * tn (σ 11 (tn (σ 17 s))) + (if _ then _ else _) ≤ _
  have : tn (σ 12 (tn (σ 15 i))) * tn (σ 11 (tn (σ 17 s))) ≤ 1000 * 100 := Nat.mul_le_mul h1.1.2 h2.2
  have := h1.2.2.2
  split <;> omega
def ms_X10_gives (d : Nat) : List Me := [(182, 0, 9, 2, true, pr_X10_meet, po_X10_meet), (185, 0, 9, 2, true, pr_X10_breaks, po_X10_breaks), (188, 0, 9, 2, false, (pr_X10_gives d), po_X10_gives)]
theorem mk_X10_gives (d : Nat) (hih : kp_Met layM (d + 1) yX10_gives cX10_gives 6 none (pr_X10_gives d) po_X10_gives) : ∀ q ∈ ms_X10_gives d, kp_okM layM RX10 (d + 2) q := List.forall_mem_cons.mpr ⟨Or.inl ⟨1, yX10_meet, cX10_meet, 3, (some .boolean), c_X10_meet, by omega, by decide, rfl, lk_X10_182⟩, List.forall_mem_cons.mpr ⟨Or.inl ⟨0, yX10_breaks, cX10_breaks, 3, (some .boolean), c_X10_breaks, by omega, by decide, rfl, lk_X10_185⟩, List.forall_mem_cons.mpr ⟨Or.inl ⟨(d + 1), yX10_gives, cX10_gives, 6, none, hih, by omega, by decide, rfl, lk_X10_188⟩, fun _ h => absurd h List.not_mem_nil⟩⟩⟩
def tx_X10_gives : List Ent := [(0, .iload_n 1, 1, false, 0), (1, .aload_n 0, 1, false, 0), (2, .getfield 170, 3, false, 0), (5, .if_icmp .ne 54, 3, false, 0), (8, .aload_n 0, 1, false, 0), (9, .getfield 179, 3, false, 0), (12, .iconst (-1), 1, false, (-1)), (13, .if_icmp .eq 12, 3, false, 0), (16, .iload_n 2, 1, false, 0), (17, .aload_n 0, 1, false, 0), (18, .getfield 179, 3, false, 0), (21, .if_icmp .lt 4, 3, false, 0), (24, .return_, 1, false, 0), (25, .aload_n 0, 1, false, 0), (26, .iload_n 2, 1, false, 0), (27, .putfield 179, 3, false, 0), (30, .iconst 0, 1, false, nI 0), (31, .istore_n 3, 1, false, 0), (32, .iload_n 3, 1, true, 0), (33, .aload_n 0, 1, false, 0), (34, .getfield 170, 3, false, 0), (37, .if_icmp .ge 21, 3, false, 0), (40, .aload_n 0, 1, false, 0), (41, .getfield 74, 3, false, 0), (44, .iload_n 3, 1, false, 0), (45, .aload_n 0, 1, false, 0), (46, .getfield 71, 3, false, 0), (49, .iload_n 3, 1, false, 0), (50, .iaload, 1, false, 0), (51, .iastore, 1, false, 0), (52, .iinc 3 1, 3, false, nI 1), (55, .goto (-23), 3, false, 0), (58, .return_, 1, false, 0), (59, .iconst 0, 1, false, nI 0), (60, .istore_n 3, 1, false, 0), (61, .iload_n 3, 1, true, 0), (62, .aload_n 0, 1, false, 0), (63, .getfield 173, 3, false, 0), (66, .if_icmp .ge 152, 3, false, 0), (69, .iconst 1, 1, false, nI 1), (70, .istore 4, 2, false, 0), (72, .iconst 0, 1, false, nI 0), (73, .istore 5, 2, false, 0), (75, .iload 5, 2, true, 0), (77, .iload_n 1, 1, false, 0), (78, .if_icmp .ge 52, 3, false, 0), (81, .iload 4, 2, false, 0), (83, .ifCond .eq 47, 3, false, 0), (86, .aload_n 0, 1, false, 0), (87, .getfield 71, 3, false, 0), (90, .iload 5, 2, false, 0), (92, .iaload, 1, false, 0), (93, .iload_n 3, 1, false, 0), (94, .if_icmp .ne 23, 3, false, 0), (97, .aload_n 0, 1, false, 0), (98, .aload_n 0, 1, false, 0), (99, .getfield 62, 3, false, 0), (102, .iload 5, 2, false, 0), (104, .iaload, 1, false, 0), (105, .aload_n 0, 1, false, 0), (106, .getfield 62, 3, false, 0), (109, .iload_n 1, 1, false, 0), (110, .iaload, 1, false, 0), (111, .invokevirtual 182, 3, false, 0), (114, .ifCond .ne 7, 3, false, 0), (117, .iconst 1, 1, false, nI 1), (118, .goto 4, 3, false, 0), (121, .iconst 0, 1, false, nI 0), (122, .istore 4, 2, false, 0), (124, .iinc 5 1, 3, false, nI 1), (127, .goto (-52), 3, false, 0), (130, .iload 4, 2, true, 0), (132, .ifCond .ne 6, 3, false, 0), (135, .goto 77, 3, false, 0), (138, .aload_n 0, 1, false, 0), (139, .getfield 71, 3, false, 0), (142, .iload_n 1, 1, false, 0), (143, .iload_n 3, 1, false, 0), (144, .iastore, 1, false, 0), (145, .aload_n 0, 1, false, 0), (146, .iload_n 1, 1, false, 0), (147, .iconst 1, 1, false, nI 1), (148, .iadd, 1, false, 0), (149, .iload_n 2, 1, false, 0), (150, .aload_n 0, 1, false, 0), (151, .getfield 50, 3, false, 0), (154, .aload_n 0, 1, false, 0), (155, .getfield 59, 3, false, 0), (158, .iload_n 1, 1, false, 0), (159, .iaload, 1, false, 0), (160, .iaload, 1, false, 0), (161, .aload_n 0, 1, false, 0), (162, .getfield 47, 3, false, 0), (165, .aload_n 0, 1, false, 0), (166, .getfield 65, 3, false, 0), (169, .iload_n 3, 1, false, 0), (170, .iaload, 1, false, 0), (171, .iaload, 1, false, 0), (172, .imul, 1, false, 0), (173, .iadd, 1, false, 0), (174, .aload_n 0, 1, false, 0), (175, .aload_n 0, 1, false, 0), (176, .getfield 59, 3, false, 0), (179, .iload_n 1, 1, false, 0), (180, .iaload, 1, false, 0), (181, .aload_n 0, 1, false, 0), (182, .getfield 65, 3, false, 0), (185, .iload_n 3, 1, false, 0), (186, .iaload, 1, false, 0), (187, .invokevirtual 185, 3, false, 0), (190, .ifCond .eq 17, 3, false, 0), (193, .aload_n 0, 1, false, 0), (194, .getfield 56, 3, false, 0), (197, .aload_n 0, 1, false, 0), (198, .getfield 59, 3, false, 0), (201, .iload_n 1, 1, false, 0), (202, .iaload, 1, false, 0), (203, .iaload, 1, false, 0), (204, .goto 4, 3, false, 0), (207, .iconst 0, 1, false, nI 0), (208, .iadd, 1, false, 0), (209, .invokevirtual 188, 3, false, 0), (212, .iinc 3 1, 3, false, nI 1), (215, .goto (-154), 3, false, 0), (218, .return_, 1, false, 0)]
set_option maxRecDepth 100000 in
theorem tkx_X10_gives : kp_ok cX10_gives RX10 tx_X10_gives = true := by decide +kernel
set_option maxRecDepth 100000 in
theorem v_X10_gives (d : Nat) {J : Nat → Lcl → List Value → Sg → Prop} {Q : Int32 → Sg → Prop} (k sum : Int32) (σ : Sg) (h : (¬ k = (σ 0 10) → J 61 [some (.ref 0), some (.int k), some (.int sum), some (.int (nI 0)), none, none] [] σ) ∧ (k = (σ 0 10) → ((σ 0 33) = (-1) → J 32 [some (.ref 0), some (.int k), some (.int sum), some (.int (nI 0)), none, none] [] (kp_up σ 0 33 sum)) ∧ (¬ (σ 0 33) = (-1) → (sum < (σ 0 33) → J 32 [some (.ref 0), some (.int k), some (.int sum), some (.int (nI 0)), none, none] [] (kp_up σ 0 33 sum)) ∧ (¬ sum < (σ 0 33) → Q (nI 0) σ)))) : kp_T layM gl_X10 pl_X10 (ms_X10_gives d) tx_X10_gives (kp_rk none) J Q 130 tx_X10_gives (kp_en [.ref 0, .int k, .int sum] 6) [] σ := h
set_option maxRecDepth 100000 in
theorem v_X10_gives_32 (d : Nat) {J : Nat → Lcl → List Value → Sg → Prop} {Q : Int32 → Sg → Prop} (k sum i : Int32) (o4 o5 : Option Value) (σ : Sg) (h : (¬ i < (σ 0 10) → Q (nI 0) σ) ∧ (i < (σ 0 10) → vp_in i 6 ∧ (vp_in i 6 ∧ (J 32 [some (.ref 0), some (.int k), some (.int sum), some (.int (i + nI 1)), o4, o5] [] (kp_up σ 20 (i).toNatClampNeg (σ 19 (i).toNatClampNeg)))))) : kp_T1 layM gl_X10 pl_X10 (ms_X10_gives d) tx_X10_gives (kp_rk none) J Q 130 32 [some (.ref 0), some (.int k), some (.int sum), some (.int i), o4, o5] [] σ := h
set_option maxRecDepth 100000 in
theorem v_X10_gives_61 (d : Nat) {J : Nat → Lcl → List Value → Sg → Prop} {Q : Int32 → Sg → Prop} (k sum o : Int32) (o4 o5 : Option Value) (σ : Sg) (h : (¬ o < (σ 0 11) → Q (nI 0) σ) ∧ (o < (σ 0 11) → J 75 [some (.ref 0), some (.int k), some (.int sum), some (.int o), some (.int (nI 1)), some (.int (nI 0))] [] σ)) : kp_T1 layM gl_X10 pl_X10 (ms_X10_gives d) tx_X10_gives (kp_rk none) J Q 130 61 [some (.ref 0), some (.int k), some (.int sum), some (.int o), o4, o5] [] σ := h
set_option maxRecDepth 100000 in
theorem v_X10_gives_75 (d : Nat) {J : Nat → Lcl → List Value → Sg → Prop} {Q : Int32 → Sg → Prop} (k sum o is i : Int32) (σ : Sg) (h : (¬ i < k → J 130 [some (.ref 0), some (.int k), some (.int sum), some (.int o), some (.int is), some (.int i)] [] σ) ∧ (i < k → (is = (nI 0) → J 130 [some (.ref 0), some (.int k), some (.int sum), some (.int o), some (.int is), some (.int i)] [] σ) ∧ (¬ is = (nI 0) → vp_in i 6 ∧ ((¬ (σ 19 (i).toNatClampNeg) = o → J 75 [some (.ref 0), some (.int k), some (.int sum), some (.int o), some (.int (nI 1)), some (.int (i + nI 1))] [] σ) ∧ ((σ 19 (i).toNatClampNeg) = o → vp_in i 6 ∧ (vp_in k 6 ∧ (pr_X10_meet [.ref 0, .int (σ 16 (i).toNatClampNeg), .int (σ 16 (k).toNatClampNeg)] σ ∧ ∀ (x2 : Int32) (τ1 : Sg), po_X10_meet [.ref 0, .int (σ 16 (i).toNatClampNeg), .int (σ 16 (k).toNatClampNeg)] σ x2 τ1 → ((¬ x2 = (nI 0) → J 75 [some (.ref 0), some (.int k), some (.int sum), some (.int o), some (.int (nI 0)), some (.int (i + nI 1))] [] τ1) ∧ (x2 = (nI 0) → J 75 [some (.ref 0), some (.int k), some (.int sum), some (.int o), some (.int (nI 1)), some (.int (i + nI 1))] [] τ1))))))))) : kp_T1 layM gl_X10 pl_X10 (ms_X10_gives d) tx_X10_gives (kp_rk none) J Q 130 75 [some (.ref 0), some (.int k), some (.int sum), some (.int o), some (.int is), some (.int i)] [] σ := h
set_option maxRecDepth 100000 in
theorem v_X10_gives_130 (d : Nat) {J : Nat → Lcl → List Value → Sg → Prop} {Q : Int32 → Sg → Prop} (k sum o is i : Int32) (σ : Sg) (h : (¬ is = (nI 0) → vp_in k 6 ∧ (vp_in k 6 ∧ (vp_in ((kp_up σ 19 (k).toNatClampNeg o) 15 (k).toNatClampNeg) 40 ∧ (vp_in o 8 ∧ (vp_in ((kp_up σ 19 (k).toNatClampNeg o) 17 (o).toNatClampNeg) 241 ∧ (vp_in k 6 ∧ (vp_in o 8 ∧ (pr_X10_breaks [.ref 0, .int ((kp_up σ 19 (k).toNatClampNeg o) 15 (k).toNatClampNeg), .int ((kp_up σ 19 (k).toNatClampNeg o) 17 (o).toNatClampNeg)] (kp_up σ 19 (k).toNatClampNeg o) ∧ ∀ (x2 : Int32) (τ1 : Sg), po_X10_breaks [.ref 0, .int ((kp_up σ 19 (k).toNatClampNeg o) 15 (k).toNatClampNeg), .int ((kp_up σ 19 (k).toNatClampNeg o) 17 (o).toNatClampNeg)] (kp_up σ 19 (k).toNatClampNeg o) x2 τ1 → ((x2 = (nI 0) → (pr_X10_gives d) [.ref 0, .int (k + (nI 1)), .int ((sum + (((kp_up σ 19 (k).toNatClampNeg o) 12 ((kp_up σ 19 (k).toNatClampNeg o) 15 (k).toNatClampNeg).toNatClampNeg) * ((kp_up σ 19 (k).toNatClampNeg o) 11 ((kp_up σ 19 (k).toNatClampNeg o) 17 (o).toNatClampNeg).toNatClampNeg))) + (nI 0))] τ1 ∧ ∀ (τ3 : Sg), po_X10_gives [.ref 0, .int (k + (nI 1)), .int ((sum + (((kp_up σ 19 (k).toNatClampNeg o) 12 ((kp_up σ 19 (k).toNatClampNeg o) 15 (k).toNatClampNeg).toNatClampNeg) * ((kp_up σ 19 (k).toNatClampNeg o) 11 ((kp_up σ 19 (k).toNatClampNeg o) 17 (o).toNatClampNeg).toNatClampNeg))) + (nI 0))] τ1 (nI 0) τ3 → (J 61 [some (.ref 0), some (.int k), some (.int sum), some (.int (o + nI 1)), some (.int is), some (.int i)] [] τ3)) ∧ (¬ x2 = (nI 0) → vp_in k 6 ∧ (vp_in (τ1 15 (k).toNatClampNeg) 40 ∧ ((pr_X10_gives d) [.ref 0, .int (k + (nI 1)), .int ((sum + (((kp_up σ 19 (k).toNatClampNeg o) 12 ((kp_up σ 19 (k).toNatClampNeg o) 15 (k).toNatClampNeg).toNatClampNeg) * ((kp_up σ 19 (k).toNatClampNeg o) 11 ((kp_up σ 19 (k).toNatClampNeg o) 17 (o).toNatClampNeg).toNatClampNeg))) + (τ1 14 (τ1 15 (k).toNatClampNeg).toNatClampNeg))] τ1 ∧ ∀ (τ4 : Sg), po_X10_gives [.ref 0, .int (k + (nI 1)), .int ((sum + (((kp_up σ 19 (k).toNatClampNeg o) 12 ((kp_up σ 19 (k).toNatClampNeg o) 15 (k).toNatClampNeg).toNatClampNeg) * ((kp_up σ 19 (k).toNatClampNeg o) 11 ((kp_up σ 19 (k).toNatClampNeg o) 17 (o).toNatClampNeg).toNatClampNeg))) + (τ1 14 (τ1 15 (k).toNatClampNeg).toNatClampNeg))] τ1 (nI 0) τ4 → (J 61 [some (.ref 0), some (.int k), some (.int sum), some (.int (o + nI 1)), some (.int is), some (.int i)] [] τ4))))))))))))) ∧ (is = (nI 0) → J 61 [some (.ref 0), some (.int k), some (.int sum), some (.int (o + nI 1)), some (.int is), some (.int i)] [] σ)) : kp_T1 layM gl_X10 pl_X10 (ms_X10_gives d) tx_X10_gives (kp_rk none) J Q 130 130 [some (.ref 0), some (.int k), some (.int sum), some (.int o), some (.int is), some (.int i)] [] σ := h
abbrev iv_X10_gives (d : Nat) : List Value → Sg → Nat → Nat → Lcl → List Value → Sg → Prop := fun As σ n pc ls st τ => st = [] ∧ ∃ kk ss : Nat, As = [.ref 0, .int (nI kk), .int (nI ss)] ∧ nwM σ - kk < d + 1 ∧ gmS σ kk ss ∧ ((pc = 32 ∧ kk = nwM σ ∧ (σ 0 33 = -1 ∨ ss < tn (σ 0 33)) ∧ ∃ (i : Nat) (o4 o5 : Option Value), i ≤ nwM σ ∧ n = nwM σ - i ∧ ls = [some (.ref 0), some (.int (nI kk)), some (.int (nI ss)), some (.int (nI i)), o4, o5] ∧ fm [20] [33] σ τ ∧ τ 0 33 = nI ss ∧ ∀ j, j < i → τ 20 j = σ 19 j) ∨ (kk < nwM σ ∧ gmK σ τ kk ∧ ∃ o : Nat, o ≤ noM σ ∧ gvM σ kk ss = gvL (gvS (nwM σ) (noM σ) (PTM σ) (MTM σ) (ofM σ) (nwM σ - (kk + 1)) kk ss (trM σ)) (noM σ - o) o (bsM τ) ∧ ((pc = 61 ∧ n = 1000 * (noM σ - o) + 999 ∧ ∃ o4 o5 : Option Value, ls = [some (.ref 0), some (.int (nI kk)), some (.int (nI ss)), some (.int (nI o)), o4, o5]) ∨ (pc = 75 ∧ o < noM σ ∧ ∃ (is : Int32) (i : Nat), i ≤ kk ∧ n = 1000 * (noM σ - o) + 500 + (kk - i) ∧ ls = [some (.ref 0), some (.int (nI kk)), some (.int (nI ss)), some (.int (nI o)), some (.int is), some (.int (nI i))] ∧ ((is = nI 1 ∧ ∀ j, j < i → ¬ (trM σ j = o ∧ MTM σ kk j = true)) ∨ (is = nI 0 ∧ ∃ j, j < i ∧ (trM σ j = o ∧ MTM σ kk j = true)))) ∨ (pc = 130 ∧ o < noM σ ∧ ∃ w : Int32, n = 1000 * (noM σ - o) + 400 ∧ ls = [some (.ref 0), some (.int (nI kk)), some (.int (nI ss)), some (.int (nI o)), some (.int (bI (okT (MTM σ) (trM σ) kk o))), some (.int w)]))))
set_option maxRecDepth 100000 in
set_option maxHeartbeats 4000000 in
theorem c_X10_gives (d : Nat) (hih : kp_Met layM (d + 1) yX10_gives cX10_gives 6 none (pr_X10_gives d) po_X10_gives) : kp_Met layM (d + 2) yX10_gives cX10_gives 6 none (pr_X10_gives (d + 1)) po_X10_gives := by
  refine kp_met (N := 130) (by decide) tkx_X10_gives gk_X10 pk_X10 (mk_X10_gives d hih) rfl (iv_X10_gives d) ?_ ?_
  · rintro As σ ⟨k, sum, rfl, hp⟩
    refine ⟨⟨rfl, Nat.le_of_ble_eq_true rfl⟩, v_X10_gives d k sum σ ?_⟩
    obtain ⟨ha, hc, hx, kk, ss, rfl, rfl, hd, hg⟩ := hp
    obtain ⟨a1, a2, a3, a4, a5, a6⟩ := id ha
    obtain ⟨g1, g2, g3, g4⟩ := id hg
    have en : nwM σ = tn (σ 0 10) := rfl
    have ti : tn (nI kk) = kk := tn_nI (by omega)
    have ts : tn (nI ss) = ss := tn_nI (by omega)
    have hk10 : nI kk = σ 0 10 ↔ kk = nwM σ := by
      rw [show (nI kk = σ 0 10) = (nI kk = nI (tn (σ 0 10))) by rw [← a1], nI_eq (by omega) (tn_lt _)]
    rw [hk10]
    have hleaf : kk = nwM σ → (σ 0 33 = -1 ∨ ss < tn (σ 0 33)) → ∃ n, iv_X10_gives d [.ref 0, .int (nI kk), .int (nI ss)] σ n 32 [some (.ref 0), some (.int (nI kk)), some (.int (nI ss)), some (.int (nI 0)), none, none] [] (kp_up σ 0 33 (nI ss)) := fun h1 h2 => ⟨nwM σ, rfl, kk, ss, rfl, hd, hg, Or.inl ⟨rfl, h1, h2, 0, none, none, Nat.zero_le _, rfl, rfl, fm_up0 fm_rf (by decide), up_s, fun j hj => by omega⟩⟩
    refine ⟨fun h => ⟨1000 * (noM σ - 0) + 999, rfl, kk, ss, rfl, hd, hg, Or.inr ⟨by omega, ⟨fm_rf, fun _ _ => rfl, g4⟩, 0, Nat.zero_le _, ?_, Or.inl ⟨rfl, rfl, none, none, rfl⟩⟩⟩, fun h => ⟨fun h1 => hleaf h (Or.inl h1), fun h1 => ?_⟩⟩
    · unfold gvM
      rw [sub_s1 (Nat.lt_of_le_of_ne g1 h)]
      rfl
    · obtain ⟨n1, n2⟩ := g4.1.resolve_left h1
      rw [(nn_lt n1 (show ss < 2 ^ 31 by omega)).1]
      refine ⟨fun h2 => hleaf h (Or.inr h2), fun h2 => ⟨⟨fm_rf, fun _ _ => rfl, g4⟩, ?_⟩⟩
      rw [ti, ts]
      unfold gvM
      rw [show nwM σ - kk = 0 by omega]
      show bsM σ = lfT (nwM σ) (ofM σ) ss (trM σ) (bsM σ)
      unfold bsM
      rw [if_neg h1]
      show _ = if ss < tn (σ 0 33) then _ else _
      rw [if_neg h2]
  · rintro As σ ⟨k, sum, rfl, hp⟩ n pc ls st τ hI
    obtain ⟨ha, hc, hx, -⟩ := hp
    obtain ⟨rfl, kk, ss, hAs, hd, hg, hI⟩ := hI
    cases hAs
    obtain ⟨a1, a2, a3, a4, a5, a6⟩ := id ha
    obtain ⟨g1, g2, g3, g4⟩ := id hg
    have en : nwM σ = tn (σ 0 10) := rfl
    have eo : noM σ = tn (σ 0 11) := rfl
    have ti : tn (nI kk) = kk := tn_nI (by omega)
    have ts : tn (nI ss) = ss := tn_nI (by omega)
    rcases hI with ⟨rfl, hkk, hch, i, o4, o5, hi, rfl, rfl, hf, h33, hcp⟩ | ⟨hkk, hK, o, hon, hgv, hI⟩
    · have q10 : τ 0 10 = σ 0 10 := hf.2 10 (by decide)
      have q19 : τ 19 = σ 19 := hf.1 19 (by decide) (by decide)
      refine v_X10_gives_32 d _ _ _ o4 o5 τ ?_
      rw [q10, (nn_lt a1 (show i < 2 ^ 31 by omega)).1, nI_clamp (show i < 2 ^ 31 by omega), show nI i + nI 1 = nI (i + 1) from nI_add _ _, q19]
      refine ⟨fun g => ?_, fun g => ⟨(kp_in (by omega)).mpr (by omega), (kp_in (by omega)).mpr (by omega), nwM σ - (i + 1), by omega, rfl, kk, ss, rfl, hd, hg, Or.inl ⟨rfl, hkk, hch, i + 1, _, _, by omega, rfl, rfl, fm_up hf (by decide) (by decide), by rw [up_c (by decide)]; exact h33, fun j hj => ?_⟩⟩⟩
      · have hfm : fm [19, 20] [33] σ τ := fm_mono hf (by decide) (by decide)
        obtain ⟨f1, f2, f3, f4, f5⟩ := fm_data hfm (by decide) (by decide)
        have hall : ∀ j, j < nwM σ → τ 20 j = σ 19 j := fun j hj => hcp j (by omega)
        refine ⟨⟨hfm, fun j _ => by rw [q19], ?_, fun _ j hj => ?_⟩, ?_⟩
        · rw [h33, ts]; exact Or.inr ⟨nn_nI (by omega), by omega⟩
        · rw [f1] at hj
          rw [f2, hall j hj]; exact g3 j (by omega)
        · rw [ti, ts]
          unfold gvM
          rw [show nwM σ - kk = 0 by omega]
          show bsM τ = lfT (nwM σ) (ofM σ) ss (trM σ) (bsM σ)
          have ev : (List.range (nwM τ)).map (fun i => tn (τ 17 (tn (τ 20 i)))) = vcT (nwM σ) (ofM σ) (trM σ) := by
            rw [f1]
            exact List.map_congr_left (fun j hj => by rw [hall j (List.mem_range.mp hj), hf.1 17 (by decide) (by decide)])
          unfold bsM
          rw [if_neg (by rw [h33]; exact nI_m1 (by omega)), ev, h33, ts]
          rcases hch with z | z
          · rw [if_pos z]; rfl
          · by_cases e : σ 0 33 = -1
            · rw [if_pos e]; rfl
            · rw [if_neg e]
              show _ = if ss < tn (σ 0 33) then _ else _
              rw [if_pos z]
      · by_cases e : j = i
        · rw [e, up_s]
        · rw [up_n e]; exact hcp j (by omega)
    · obtain ⟨k1, k3, k4⟩ := id hK
      obtain ⟨f1, f2, f3, f4, f5⟩ := fm_data k1 (by decide) (by decide)
      have q10 : τ 0 10 = σ 0 10 := k1.2 10 (by decide)
      have q11 : τ 0 11 = σ 0 11 := k1.2 11 (by decide)
      have hinK : vp_in (nI kk) 6 := (kp_in (by omega)).mpr (by omega)
      have ck : (nI kk).toNatClampNeg = kk := nI_clamp (by omega)
      rcases hI with ⟨rfl, rfl, o4, o5, rfl⟩ | ⟨rfl, ho, is, i, hik, rfl, rfl, his⟩ | ⟨rfl, ho, w, rfl, rfl⟩
      · refine v_X10_gives_61 d _ _ _ o4 o5 τ ?_
        rw [q11, (nn_lt a3 (show o < 2 ^ 31 by omega)).1]
        refine ⟨fun g => ⟨by rw [ti]; exact hK, ?_⟩, fun g => ⟨1000 * (noM σ - o) + 500 + (kk - 0), by omega, rfl, kk, ss, rfl, hd, hg, Or.inr ⟨hkk, hK, o, hon, hgv, Or.inr (Or.inl ⟨rfl, g, nI 1, 0, Nat.zero_le _, rfl, rfl, Or.inl ⟨rfl, fun j hj => by omega⟩⟩)⟩⟩⟩
        rw [ti, ts, hgv, show noM σ - o = 0 by omega]; rfl
      · have ci : (nI i).toNatClampNeg = i := nI_clamp (by omega)
        refine v_X10_gives_75 d _ _ _ _ _ τ ?_
        rw [nI_ltI (by omega) (by omega), ci, ck, show nI i + nI 1 = nI (i + 1) from nI_add _ _]
        have hdone : ∀ b : Bool, is = bI b → okT (MTM σ) (trM σ) kk o = b → ∃ n', n' < 1000 * (noM σ - o) + 500 + (kk - i) ∧ iv_X10_gives d [.ref 0, .int (nI kk), .int (nI ss)] σ n' 130 [some (.ref 0), some (.int (nI kk)), some (.int (nI ss)), some (.int (nI o)), some (.int is), some (.int (nI i))] [] τ := fun b h1 h2 => ⟨1000 * (noM σ - o) + 400, by omega, rfl, kk, ss, rfl, hd, hg, Or.inr ⟨hkk, hK, o, hon, hgv, Or.inr (Or.inr ⟨rfl, ho, nI i, rfl, by rw [h2, h1]⟩)⟩⟩
        have hnext : ∀ is' : Int32, ((is' = nI 1 ∧ ∀ j, j < i + 1 → ¬ (trM σ j = o ∧ MTM σ kk j = true)) ∨ (is' = nI 0 ∧ ∃ j, j < i + 1 ∧ (trM σ j = o ∧ MTM σ kk j = true))) → i < kk → ∃ n', n' < 1000 * (noM σ - o) + 500 + (kk - i) ∧ iv_X10_gives d [.ref 0, .int (nI kk), .int (nI ss)] σ n' 75 [some (.ref 0), some (.int (nI kk)), some (.int (nI ss)), some (.int (nI o)), some (.int is'), some (.int (nI (i + 1)))] [] τ := fun is' h1 h2 => ⟨1000 * (noM σ - o) + 500 + (kk - (i + 1)), by omega, rfl, kk, ss, rfl, hd, hg, Or.inr ⟨hkk, hK, o, hon, hgv, Or.inr (Or.inl ⟨rfl, ho, is', i + 1, by omega, rfl, rfl, h1⟩)⟩⟩
        have hbad : (∃ j, j < i ∧ (trM σ j = o ∧ MTM σ kk j = true)) → okT (MTM σ) (trM σ) kk o = false := fun ⟨j, hj, hq⟩ => decide_eq_false (fun z => z j (by omega) hq)
        refine ⟨fun g => ?_, fun g => ⟨fun g2 => ?_, fun g2 => ?_⟩⟩
        · rcases his with ⟨e, h⟩ | ⟨e, h⟩
          · exact hdone true e (decide_eq_true (fun j hj => h j (by omega)))
          · exact hdone false e (hbad h)
        · rcases his with ⟨e, h⟩ | ⟨e, h⟩
          · rw [e] at g2; exact absurd g2 (by decide)
          · exact hdone false e (hbad h)
        · obtain ⟨e, h⟩ := his.resolve_right (fun z => g2 z.1)
          have hini : vp_in (nI i) 6 := (kp_in (by omega)).mpr (by omega)
          have heq : τ 19 i = nI o ↔ trM σ i = o := by
            rw [k3 i g, show (σ 19 i = nI o) = (nI (tn (σ 19 i)) = nI o) by rw [← (g3 i g).1], nI_eq (tn_lt _) (by omega)]
          rw [heq, k1.1 16 (by decide) (by decide)]
          refine ⟨hini, fun g3' => hnext _ (Or.inl ⟨rfl, fun j hj => ?_⟩) g, fun g3' => ⟨hini, hinK, ?_, ?_⟩⟩
          · by_cases ej : j = i
            · rw [ej]; exact fun z => g3' z.1
            · exact h j (by omega)
          · refine ⟨_, _, rfl, ?_, tn (σ 16 i), tn (σ 16 kk), (a5 i (by omega)).2.2.1, (a5 kk hkk).2.2.1, ?_, ?_⟩
            · rw [k1.1 1 (by decide) (by decide), k1.2 2 (by decide)]; exact hx
            · rw [k1.2 2 (by decide)]; exact (a5 i (by omega)).2.2.2
            · rw [k1.2 2 (by decide)]; exact (a5 kk hkk).2.2.2
          · rintro x2 τ1 ⟨rfl, rfl⟩
            rw [bI_0, k1.1 1 (by decide) (by decide)]
            have em : meets (σ 1) (tn (σ 16 i)) (tn (σ 16 kk)) = MTM σ kk i := meets_comm _ _ _
            rw [em]
            refine ⟨fun g4' => hnext _ (Or.inr ⟨rfl, i, by omega, g3', by simpa using g4'⟩) g, fun g4' => hnext _ (Or.inl ⟨rfl, fun j hj => ?_⟩) g⟩
            by_cases ej : j = i
            · rw [ej, g4']; exact fun z => by cases z.2
            · exact h j (by omega)
      · have co : (nI o).toNatClampNeg = o := nI_clamp (by omega)
        refine v_X10_gives_130 d _ _ _ _ _ τ ?_
        have hino : vp_in (nI o) 8 := (kp_in (by omega)).mpr (by omega)
        have hK2 : gmK σ (kp_up τ 19 kk (nI o)) kk := by
          refine ⟨fm_up k1 (by decide) (by decide), fun j hj => by rw [up_n (by omega)]; exact k3 j hj, ?_⟩
          unfold bmOK nwM noM at *
          simp (disch := decide) only [up_c, kp_up_eq, pk_us, pk_un]
          exact k4
        have hgo : ∀ (τ' : Sg) (o4 o5 : Option Value), gmK σ τ' kk → bsM τ' = gvS (nwM σ) (noM σ) (PTM σ) (MTM σ) (ofM σ) (nwM σ - (kk + 1)) kk ss (trM σ) o (bsM τ) → ∃ n', n' < 1000 * (noM σ - o) + 400 ∧ iv_X10_gives d [.ref 0, .int (nI kk), .int (nI ss)] σ n' 61 [some (.ref 0), some (.int (nI kk)), some (.int (nI ss)), some (.int (nI (o + 1))), o4, o5] [] τ' := by
          intro τ' o4 o5 hK' hb'
          refine ⟨1000 * (noM σ - (o + 1)) + 999, by omega, rfl, kk, ss, rfl, hd, hg, Or.inr ⟨hkk, hK', o + 1, by omega, ?_, Or.inl ⟨rfl, rfl, o4, o5, rfl⟩⟩⟩
          rw [hgv, hb', gvL_step ho]
        obtain ⟨y1, y2, y3, y4⟩ := a5 kk hkk
        obtain ⟨z1, z2, z3⟩ := a6 o ho
        obtain ⟨⟨u1, u2⟩, ⟨u3, u4⟩, u5, u6⟩ := hc.2 (tn (σ 15 kk)) y2
        obtain ⟨v1, v2⟩ := hc.1 (tn (σ 17 o)) z2 z3
        have hple := PTM_le ha hc hkk ho
        have q (c : Nat) (h1 : c ≠ 19) (h2 : c ≠ 0) (h3 : c ≠ 20) : kp_up τ 19 kk (nI o) c = σ c := by rw [up_c h1]; exact k1.1 c h2 (by simp [h1, h3])
        rw [ck, co, q 15 (by decide) (by decide) (by decide), q 17 (by decide) (by decide) (by decide), q 12 (by decide) (by decide) (by decide), q 11 (by decide) (by decide) (by decide), bI_0, show nI kk + nI 1 = nI (kk + 1) from nI_add _ _, show nI o + nI 1 = nI (o + 1) from nI_add _ _]
        have e1 : (σ 15 kk).toNatClampNeg = tn (σ 15 kk) := rfl
        have e2 : (σ 17 o).toNatClampNeg = tn (σ 17 o) := rfl
        rw [e1, e2, nn_mul u1 v1, nI_add]
        have hrec : ∀ p : Nat, p = PTM σ kk o → okT (MTM σ) (trM σ) kk o = true → (pr_X10_gives d [.ref 0, .int (nI (kk + 1)), .int (nI (ss + p))] (kp_up τ 19 kk (nI o)) ∧ ∀ τ3 : Sg, po_X10_gives [.ref 0, .int (nI (kk + 1)), .int (nI (ss + p))] (kp_up τ 19 kk (nI o)) (nI 0) τ3 → ∃ n', n' < 1000 * (noM σ - o) + 400 ∧ iv_X10_gives d [.ref 0, .int (nI kk), .int (nI ss)] σ n' 61 [some (.ref 0), some (.int (nI kk)), some (.int (nI ss)), some (.int (nI (o + 1))), some (.int (bI (okT (MTM σ) (trM σ) kk o))), some (.int w)] [] τ3) := by
          rintro p rfl hok
          obtain ⟨d1, d2, d3, d4, d5⟩ := fm_data hK2.1 (by decide) (by decide)
          have htr : ∀ j, j < kk + 1 → nn (kp_up τ 19 kk (nI o) 19 j) ∧ tn (kp_up τ 19 kk (nI o) 19 j) < noM σ ∧ tn (kp_up τ 19 kk (nI o) 19 j) = updN (trM σ) kk o j := fun j hj => by
            unfold updN
            by_cases e : j = kk
            · rw [e, up_s, tn_nI (by omega), if_pos rfl]
              exact ⟨nn_nI (by omega), ho, rfl⟩
            · rw [up_n e, k3 j (by omega), if_neg e]
              exact ⟨(g3 j (by omega)).1, (g3 j (by omega)).2, rfl⟩
          refine ⟨⟨_, _, rfl, asM_fm ha hK2.1 (by decide) (by decide), cstM_fm hc hK2.1 (by decide), ?_, kk + 1, ss + PTM σ kk o, rfl, rfl, by rw [d1]; omega, by rw [d1]; omega, by omega, fun j hj => ?_, hK2.2.2⟩, ?_⟩
          · rw [q 1 (by decide) (by decide) (by decide), hK2.1.2 2 (by decide)]; exact hx
          · rw [d2]; exact ⟨(htr j hj).1, (htr j hj).2.1⟩
          · rintro τ3 ⟨⟨p1, p2, p3⟩, p4⟩
            rw [tn_nI (show kk + 1 < 2 ^ 31 by omega)] at p2 p4
            rw [tn_nI (show ss + PTM σ kk o < 2 ^ 31 by omega)] at p4
            refine hgo τ3 _ _ ⟨fm_tr hK2.1 p1, fun j hj => (p2 j (by omega)).trans (hK2.2.1 j hj), p3⟩ ?_
            rw [p4]
            unfold gvM gvS
            rw [if_pos hok, d1, d2, d3, d4, d5, bsM_congr (σ := τ) (by rw [up_c (by decide)]) (by rw [up_c (by decide)]) (by rw [up_c (by decide)]) (by rw [up_c (by decide)])]
            exact gv_congr (fun _ _ _ _ => rfl) (fun _ _ _ _ => rfl) (fun _ _ => rfl) _ (kk + 1) _ _ _ _ (by omega) (fun j hj => ⟨(htr j hj).2.2, (htr j hj).2.1⟩)
        refine ⟨fun g => ⟨hinK, hinK, by rw [y1]; exact (kp_in (tn_lt _)).mpr y2, hino, by rw [z1]; exact (kp_in (tn_lt _)).mpr (by omega), hinK, hino, ⟨_, _, rfl, ?_, tn (σ 15 kk), tn (σ 17 o), y1, y2, z1, tn_lt _⟩, ?_⟩, fun g => hgo τ _ _ hK (by unfold gvS; rw [if_neg (by rw [g]; decide)])⟩
        · rw [q 13 (by decide) (by decide) (by decide)]
          exact fun c hc' => (hc.2 c hc').2.1.1
        · have hok : okT (MTM σ) (trM σ) kk o = true := by simpa using g
          rintro x2 τ1 ⟨rfl, rfl⟩
          rw [q 13 (by decide) (by decide) (by decide), bI_0, q 15 (by decide) (by decide) (by decide), q 14 (by decide) (by decide) (by decide), e1, nn_add u5, nI_add]
          refine ⟨fun g5 => ?_, fun g5 => ⟨hinK, by rw [y1]; exact (kp_in (tn_lt _)).mpr y2, ?_⟩⟩
          · have := hrec (tn (σ 12 (tn (σ 15 kk))) * tn (σ 11 (tn (σ 17 o)))) (by unfold PTM prc; rw [if_neg (by rw [g5]; decide)]; rfl) hok
            exact this
          · have := hrec (tn (σ 12 (tn (σ 15 kk))) * tn (σ 11 (tn (σ 17 o))) + tn (σ 14 (tn (σ 15 kk)))) (by unfold PTM prc; rw [if_pos (by simpa using g5)]) hok
            rw [← Nat.add_assoc] at this
            exact this
theorem cc_gives : ∀ d, kp_Met layM (d + 1) yX10_gives cX10_gives 6 none (pr_X10_gives d) po_X10_gives
  | 0 => by
    intro l D cI cZ cR ad sz As σ h
    obtain ⟨i, sum, -, -, -, -, ii, ss, -, -, h, -⟩ := h
    exact absurd h (Nat.not_lt_zero _)
  | d + 1 => c_X10_gives d (cc_gives d)
