abbrev dfA (σ : Sg) : Nat → Nat := fun i => tn (σ 5 i)
abbrev dfB (σ : Sg) : Nat → Nat := fun i => tn (σ 8 i)
abbrev mC (σ : Sg) : Nat → Int32 := mpC (σ 5) (σ 6) (σ 4 2)
abbrev kC (σ : Sg) : Nat → Int32 := mpC (σ 8) (σ 9) (σ 7 2)
abbrev dfL (zA zB f m t s : Nat) (o8 o9 o10 : Option Value) : Lcl := [some (.ref 4), some (.ref 7), some (.ref 10), some (.int (nI f)), some (.int (nI m)), some (.int (nI t)), some (.int (nI (zA + zB))), some (.int (nI s)), o8, o9, o10]
def dfInv (σ : Sg) (n pc : Nat) (ls : Lcl) (τ : Sg) : Prop := ∃ (zA zB f m t s : Nat) (o8 o9 o10 : Option Value), ls = dfL zA zB f m t s o8 o9 o10 ∧ σ 4 2 = nI zA ∧ σ 7 2 = nI zB ∧ zA ≤ 120 ∧ zB ≤ 120 ∧ fr [10] σ τ ∧ s ≤ m + t ∧ m ≤ zA ∧ t ≤ zB ∧
  ((pc = 22 ∧ n = 10 * (zA + zB - s) + 9 ∧ f ≤ s ∧ df_I (dfA σ) zA (dfB σ) zB (mC σ) (kC σ) (τ 10) f m t) ∨
   (pc = 47 ∧ n = 10 * (zA + zB - s) + 8 ∧ f ≤ s ∧ s < zA + zB ∧ (m < zA ∨ t < zB) ∧ df_I (dfA σ) zA (dfB σ) zB (mC σ) (kC σ) (τ 10) f m t) ∨
   (pc = 89 ∧ n = 10 * (zA + zB - s) + 7 ∧ f ≤ s ∧ s < zA + zB ∧ (m < zA ∨ t < zB) ∧ df_I (dfA σ) zA (dfB σ) zB (mC σ) (kC σ) (τ 10) f m t ∧ o8 = some (.int (bI (df_hm (dfA σ) zA (dfB σ) zB m t)))) ∨
   (pc = 131 ∧ n = 10 * (zA + zB - s) + 6 ∧ f ≤ s ∧ s < zA + zB ∧ (m < zA ∨ t < zB) ∧ df_I (dfA σ) zA (dfB σ) zB (mC σ) (kC σ) (τ 10) f m t ∧ o8 = some (.int (bI (df_hm (dfA σ) zA (dfB σ) zB m t))) ∧ o9 = some (.int (bI (df_ht (dfA σ) zA (dfB σ) zB m t)))) ∨
   (pc = 165 ∧ n = 10 * (zA + zB - s) + 5 ∧ f ≤ s ∧ s < zA + zB ∧ (m < zA ∨ t < zB) ∧ df_I (dfA σ) zA (dfB σ) zB (mC σ) (kC σ) (τ 10) f m t ∧ o8 = some (.int (bI (df_hm (dfA σ) zA (dfB σ) zB m t))) ∧ o9 = some (.int (bI (df_ht (dfA σ) zA (dfB σ) zB m t))) ∧ o10 = some (.int (bI (df_hm (dfA σ) zA (dfB σ) zB m t && df_ht (dfA σ) zA (dfB σ) zB m t && decide (σ 6 m = σ 9 t))))) ∨
   (pc = 204 ∧ n = 10 * (zA + zB - s) + 4 ∧ f ≤ s + 1 ∧ s < zA + zB ∧ (m < zA ∨ t < zB) ∧ df_I (dfA σ) zA (dfB σ) zB (mC σ) (kC σ) (τ 10) f (if df_hm (dfA σ) zA (dfB σ) zB m t = true then m + 1 else m) (if df_ht (dfA σ) zA (dfB σ) zB m t = true then t + 1 else t) ∧ o8 = some (.int (bI (df_hm (dfA σ) zA (dfB σ) zB m t))) ∧ o9 = some (.int (bI (df_ht (dfA σ) zA (dfB σ) zB m t))) ∧ ∃ w, o10 = some (.int w)))
def pr_X1_differences : SPre := fun As σ => As = [.ref 4, .ref 7, .ref 10] ∧ (bOK (σ 5) (σ 6) (σ 4 2) ∧ bOK (σ 8) (σ 9) (σ 7 2))
def po_X1_differences : SPost := fun As σ r τ => match As with
  | [.ref _, .ref _, .ref _] => (fr [10] σ τ ∧ ∃ f : Nat, f ≤ 240 ∧ r = nI f ∧ isD (τ 10) f (mC σ) (kC σ))
  | _ => True
def ms_X1_differences : List Me := []
theorem mk_X1_differences : ∀ q ∈ ms_X1_differences, kp_okM layC RX1 0 q := fun _ h => absurd h List.not_mem_nil
def tx_X1_differences : List Ent := [(0, .iconst 0, 1, false, nI 0), (1, .istore_n 3, 1, false, 0), (2, .iconst 0, 1, false, nI 0), (3, .istore 4, 2, false, 0), (5, .iconst 0, 1, false, nI 0), (6, .istore 5, 2, false, 0), (8, .aload_n 0, 1, false, 0), (9, .getfield 18, 3, false, 0), (12, .aload_n 1, 1, false, 0), (13, .getfield 18, 3, false, 0), (16, .iadd, 1, false, 0), (17, .istore 6, 2, false, 0), (19, .iconst 0, 1, false, nI 0), (20, .istore 7, 2, false, 0), (22, .iload 7, 2, true, 0), (24, .iload 6, 2, false, 0), (26, .if_icmp .ge 214, 3, false, 0), (29, .iload 4, 2, false, 0), (31, .aload_n 0, 1, false, 0), (32, .getfield 18, 3, false, 0), (35, .if_icmp .lt 12, 3, false, 0), (38, .iload 5, 2, false, 0), (40, .aload_n 1, 1, false, 0), (41, .getfield 18, 3, false, 0), (44, .if_icmp .ge 196, 3, false, 0), (47, .iload 4, 2, true, 0), (49, .aload_n 0, 1, false, 0), (50, .getfield 18, 3, false, 0), (53, .if_icmp .ge 33, 3, false, 0), (56, .iload 5, 2, false, 0), (58, .aload_n 1, 1, false, 0), (59, .getfield 18, 3, false, 0), (62, .if_icmp .ge 20, 3, false, 0), (65, .aload_n 0, 1, false, 0), (66, .getfield 9, 3, false, 0), (69, .iload 4, 2, false, 0), (71, .iaload, 1, false, 0), (72, .aload_n 1, 1, false, 0), (73, .getfield 9, 3, false, 0), (76, .iload 5, 2, false, 0), (78, .iaload, 1, false, 0), (79, .if_icmp .gt 7, 3, false, 0), (82, .iconst 1, 1, false, nI 1), (83, .goto 4, 3, false, 0), (86, .iconst 0, 1, false, nI 0), (87, .istore 8, 2, false, 0), (89, .iload 5, 2, true, 0), (91, .aload_n 1, 1, false, 0), (92, .getfield 18, 3, false, 0), (95, .if_icmp .ge 33, 3, false, 0), (98, .iload 4, 2, false, 0), (100, .aload_n 0, 1, false, 0), (101, .getfield 18, 3, false, 0), (104, .if_icmp .ge 20, 3, false, 0), (107, .aload_n 1, 1, false, 0), (108, .getfield 9, 3, false, 0), (111, .iload 5, 2, false, 0), (113, .iaload, 1, false, 0), (114, .aload_n 0, 1, false, 0), (115, .getfield 9, 3, false, 0), (118, .iload 4, 2, false, 0), (120, .iaload, 1, false, 0), (121, .if_icmp .gt 7, 3, false, 0), (124, .iconst 1, 1, false, nI 1), (125, .goto 4, 3, false, 0), (128, .iconst 0, 1, false, nI 0), (129, .istore 9, 2, false, 0), (131, .iload 8, 2, true, 0), (133, .ifCond .eq 29, 3, false, 0), (136, .iload 9, 2, false, 0), (138, .ifCond .eq 24, 3, false, 0), (141, .aload_n 0, 1, false, 0), (142, .getfield 15, 3, false, 0), (145, .iload 4, 2, false, 0), (147, .iaload, 1, false, 0), (148, .aload_n 1, 1, false, 0), (149, .getfield 15, 3, false, 0), (152, .iload 5, 2, false, 0), (154, .iaload, 1, false, 0), (155, .if_icmp .ne 7, 3, false, 0), (158, .iconst 1, 1, false, nI 1), (159, .goto 4, 3, false, 0), (162, .iconst 0, 1, false, nI 0), (163, .istore 10, 2, false, 0), (165, .iload 10, 2, true, 0), (167, .ifCond .ne 37, 3, false, 0), (170, .iload_n 3, 1, false, 0), (171, .aload_n 2, 1, false, 0), (172, .arraylength, 1, false, 0), (173, .if_icmp .ge 31, 3, false, 0), (176, .aload_n 2, 1, false, 0), (177, .iload_n 3, 1, false, 0), (178, .iload 8, 2, false, 0), (180, .ifCond .eq 13, 3, false, 0), (183, .aload_n 0, 1, false, 0), (184, .getfield 9, 3, false, 0), (187, .iload 4, 2, false, 0), (189, .iaload, 1, false, 0), (190, .goto 10, 3, false, 0), (193, .aload_n 1, 1, false, 0), (194, .getfield 9, 3, false, 0), (197, .iload 5, 2, false, 0), (199, .iaload, 1, false, 0), (200, .iastore, 1, false, 0), (201, .iinc 3 1, 3, false, nI 1), (204, .iload 4, 2, true, 0), (206, .iload 8, 2, false, 0), (208, .ifCond .eq 7, 3, false, 0), (211, .iconst 1, 1, false, nI 1), (212, .goto 4, 3, false, 0), (215, .iconst 0, 1, false, nI 0), (216, .iadd, 1, false, 0), (217, .istore 4, 2, false, 0), (219, .iload 5, 2, false, 0), (221, .iload 9, 2, false, 0), (223, .ifCond .eq 7, 3, false, 0), (226, .iconst 1, 1, false, nI 1), (227, .goto 4, 3, false, 0), (230, .iconst 0, 1, false, nI 0), (231, .iadd, 1, false, 0), (232, .istore 5, 2, false, 0), (234, .iinc 7 1, 3, false, nI 1), (237, .goto (-215), 3, false, 0), (240, .iload_n 3, 1, false, 0), (241, .ireturn, 1, false, 0)]
set_option maxRecDepth 100000 in
theorem tkx_X1_differences : kp_ok cX1_differences RX1 tx_X1_differences = true := by decide +kernel
set_option maxRecDepth 100000 in
theorem v_X1_differences {J : Nat → Lcl → List Value → Sg → Prop} {Q : Int32 → Sg → Prop}  (σ : Sg) (h : J 22 [some (.ref 4), some (.ref 7), some (.ref 10), some (.int (nI 0)), some (.int (nI 0)), some (.int (nI 0)), some (.int ((σ 4 2) + (σ 7 2))), some (.int (nI 0)), none, none, none] [] σ) : kp_T layC gl_X1 pl_X1 (ms_X1_differences) tx_X1_differences (kp_rk (some .int)) J Q 130 tx_X1_differences (kp_en [.ref 4, .ref 7, .ref 10] 11) [] σ := h
set_option maxRecDepth 100000 in
theorem v_X1_differences_22 {J : Nat → Lcl → List Value → Sg → Prop} {Q : Int32 → Sg → Prop} (f m t most s : Int32) (o8 o9 o10 : Option Value) (σ : Sg) (h : (¬ s < most → Q f σ) ∧ (s < most → (m < (σ 4 2) → J 47 [some (.ref 4), some (.ref 7), some (.ref 10), some (.int f), some (.int m), some (.int t), some (.int most), some (.int s), o8, o9, o10] [] σ) ∧ (¬ m < (σ 4 2) → (¬ t < (σ 7 2) → Q f σ) ∧ (t < (σ 7 2) → J 47 [some (.ref 4), some (.ref 7), some (.ref 10), some (.int f), some (.int m), some (.int t), some (.int most), some (.int s), o8, o9, o10] [] σ)))) : kp_T1 layC gl_X1 pl_X1 (ms_X1_differences) tx_X1_differences (kp_rk (some .int)) J Q 130 22 [some (.ref 4), some (.ref 7), some (.ref 10), some (.int f), some (.int m), some (.int t), some (.int most), some (.int s), o8, o9, o10] [] σ := h
set_option maxRecDepth 100000 in
theorem v_X1_differences_47 {J : Nat → Lcl → List Value → Sg → Prop} {Q : Int32 → Sg → Prop} (f m t most s : Int32) (o8 o9 o10 : Option Value) (σ : Sg) (h : (¬ m < (σ 4 2) → J 89 [some (.ref 4), some (.ref 7), some (.ref 10), some (.int f), some (.int m), some (.int t), some (.int most), some (.int s), some (.int (nI 0)), o9, o10] [] σ) ∧ (m < (σ 4 2) → (¬ t < (σ 7 2) → J 89 [some (.ref 4), some (.ref 7), some (.ref 10), some (.int f), some (.int m), some (.int t), some (.int most), some (.int s), some (.int (nI 1)), o9, o10] [] σ) ∧ (t < (σ 7 2) → vp_in m 120 ∧ (vp_in t 120 ∧ (((σ 8 (t).toNatClampNeg) < (σ 5 (m).toNatClampNeg) → J 89 [some (.ref 4), some (.ref 7), some (.ref 10), some (.int f), some (.int m), some (.int t), some (.int most), some (.int s), some (.int (nI 0)), o9, o10] [] σ) ∧ (¬ (σ 8 (t).toNatClampNeg) < (σ 5 (m).toNatClampNeg) → J 89 [some (.ref 4), some (.ref 7), some (.ref 10), some (.int f), some (.int m), some (.int t), some (.int most), some (.int s), some (.int (nI 1)), o9, o10] [] σ)))))) : kp_T1 layC gl_X1 pl_X1 (ms_X1_differences) tx_X1_differences (kp_rk (some .int)) J Q 130 47 [some (.ref 4), some (.ref 7), some (.ref 10), some (.int f), some (.int m), some (.int t), some (.int most), some (.int s), o8, o9, o10] [] σ := h
set_option maxRecDepth 100000 in
theorem v_X1_differences_89 {J : Nat → Lcl → List Value → Sg → Prop} {Q : Int32 → Sg → Prop} (f m t most s hm : Int32) (o9 o10 : Option Value) (σ : Sg) (h : (¬ t < (σ 7 2) → J 131 [some (.ref 4), some (.ref 7), some (.ref 10), some (.int f), some (.int m), some (.int t), some (.int most), some (.int s), some (.int hm), some (.int (nI 0)), o10] [] σ) ∧ (t < (σ 7 2) → (¬ m < (σ 4 2) → J 131 [some (.ref 4), some (.ref 7), some (.ref 10), some (.int f), some (.int m), some (.int t), some (.int most), some (.int s), some (.int hm), some (.int (nI 1)), o10] [] σ) ∧ (m < (σ 4 2) → vp_in t 120 ∧ (vp_in m 120 ∧ (((σ 5 (m).toNatClampNeg) < (σ 8 (t).toNatClampNeg) → J 131 [some (.ref 4), some (.ref 7), some (.ref 10), some (.int f), some (.int m), some (.int t), some (.int most), some (.int s), some (.int hm), some (.int (nI 0)), o10] [] σ) ∧ (¬ (σ 5 (m).toNatClampNeg) < (σ 8 (t).toNatClampNeg) → J 131 [some (.ref 4), some (.ref 7), some (.ref 10), some (.int f), some (.int m), some (.int t), some (.int most), some (.int s), some (.int hm), some (.int (nI 1)), o10] [] σ)))))) : kp_T1 layC gl_X1 pl_X1 (ms_X1_differences) tx_X1_differences (kp_rk (some .int)) J Q 130 89 [some (.ref 4), some (.ref 7), some (.ref 10), some (.int f), some (.int m), some (.int t), some (.int most), some (.int s), some (.int hm), o9, o10] [] σ := h
set_option maxRecDepth 100000 in
theorem v_X1_differences_131 {J : Nat → Lcl → List Value → Sg → Prop} {Q : Int32 → Sg → Prop} (f m t most s hm ht : Int32) (o10 : Option Value) (σ : Sg) (h : (hm = (nI 0) → J 165 [some (.ref 4), some (.ref 7), some (.ref 10), some (.int f), some (.int m), some (.int t), some (.int most), some (.int s), some (.int hm), some (.int ht), some (.int (nI 0))] [] σ) ∧ (¬ hm = (nI 0) → (ht = (nI 0) → J 165 [some (.ref 4), some (.ref 7), some (.ref 10), some (.int f), some (.int m), some (.int t), some (.int most), some (.int s), some (.int hm), some (.int ht), some (.int (nI 0))] [] σ) ∧ (¬ ht = (nI 0) → vp_in m 120 ∧ (vp_in t 120 ∧ ((¬ (σ 6 (m).toNatClampNeg) = (σ 9 (t).toNatClampNeg) → J 165 [some (.ref 4), some (.ref 7), some (.ref 10), some (.int f), some (.int m), some (.int t), some (.int most), some (.int s), some (.int hm), some (.int ht), some (.int (nI 0))] [] σ) ∧ ((σ 6 (m).toNatClampNeg) = (σ 9 (t).toNatClampNeg) → J 165 [some (.ref 4), some (.ref 7), some (.ref 10), some (.int f), some (.int m), some (.int t), some (.int most), some (.int s), some (.int hm), some (.int ht), some (.int (nI 1))] [] σ)))))) : kp_T1 layC gl_X1 pl_X1 (ms_X1_differences) tx_X1_differences (kp_rk (some .int)) J Q 130 131 [some (.ref 4), some (.ref 7), some (.ref 10), some (.int f), some (.int m), some (.int t), some (.int most), some (.int s), some (.int hm), some (.int ht), o10] [] σ := h
set_option maxRecDepth 100000 in
theorem v_X1_differences_165 {J : Nat → Lcl → List Value → Sg → Prop} {Q : Int32 → Sg → Prop} (f m t most s hm ht al : Int32) (σ : Sg) (h : (¬ al = (nI 0) → J 204 [some (.ref 4), some (.ref 7), some (.ref 10), some (.int f), some (.int m), some (.int t), some (.int most), some (.int s), some (.int hm), some (.int ht), some (.int al)] [] σ) ∧ (al = (nI 0) → (¬ f < (nI 240) → J 204 [some (.ref 4), some (.ref 7), some (.ref 10), some (.int f), some (.int m), some (.int t), some (.int most), some (.int s), some (.int hm), some (.int ht), some (.int al)] [] σ) ∧ (f < (nI 240) → (hm = (nI 0) → vp_in t 120 ∧ (vp_in f 240 ∧ (J 204 [some (.ref 4), some (.ref 7), some (.ref 10), some (.int (f + nI 1)), some (.int m), some (.int t), some (.int most), some (.int s), some (.int hm), some (.int ht), some (.int al)] [] (kp_up σ 10 (f).toNatClampNeg (σ 8 (t).toNatClampNeg))))) ∧ (¬ hm = (nI 0) → vp_in m 120 ∧ (vp_in f 240 ∧ (J 204 [some (.ref 4), some (.ref 7), some (.ref 10), some (.int (f + nI 1)), some (.int m), some (.int t), some (.int most), some (.int s), some (.int hm), some (.int ht), some (.int al)] [] (kp_up σ 10 (f).toNatClampNeg (σ 5 (m).toNatClampNeg)))))))) : kp_T1 layC gl_X1 pl_X1 (ms_X1_differences) tx_X1_differences (kp_rk (some .int)) J Q 130 165 [some (.ref 4), some (.ref 7), some (.ref 10), some (.int f), some (.int m), some (.int t), some (.int most), some (.int s), some (.int hm), some (.int ht), some (.int al)] [] σ := h
set_option maxRecDepth 100000 in
theorem v_X1_differences_204 {J : Nat → Lcl → List Value → Sg → Prop} {Q : Int32 → Sg → Prop} (f m t most s hm ht al : Int32) (σ : Sg) (h : (hm = (nI 0) → (ht = (nI 0) → J 22 [some (.ref 4), some (.ref 7), some (.ref 10), some (.int f), some (.int (m + (nI 0))), some (.int (t + (nI 0))), some (.int most), some (.int (s + nI 1)), some (.int hm), some (.int ht), some (.int al)] [] σ) ∧ (¬ ht = (nI 0) → J 22 [some (.ref 4), some (.ref 7), some (.ref 10), some (.int f), some (.int (m + (nI 0))), some (.int (t + (nI 1))), some (.int most), some (.int (s + nI 1)), some (.int hm), some (.int ht), some (.int al)] [] σ)) ∧ (¬ hm = (nI 0) → (ht = (nI 0) → J 22 [some (.ref 4), some (.ref 7), some (.ref 10), some (.int f), some (.int (m + (nI 1))), some (.int (t + (nI 0))), some (.int most), some (.int (s + nI 1)), some (.int hm), some (.int ht), some (.int al)] [] σ) ∧ (¬ ht = (nI 0) → J 22 [some (.ref 4), some (.ref 7), some (.ref 10), some (.int f), some (.int (m + (nI 1))), some (.int (t + (nI 1))), some (.int most), some (.int (s + nI 1)), some (.int hm), some (.int ht), some (.int al)] [] σ))) : kp_T1 layC gl_X1 pl_X1 (ms_X1_differences) tx_X1_differences (kp_rk (some .int)) J Q 130 204 [some (.ref 4), some (.ref 7), some (.ref 10), some (.int f), some (.int m), some (.int t), some (.int most), some (.int s), some (.int hm), some (.int ht), some (.int al)] [] σ := h
abbrev iv_X1_differences : List Value → Sg → Nat → Nat → Lcl → List Value → Sg → Prop := fun As σ n pc ls st τ => st = [] ∧ As = [.ref 4, .ref 7, .ref 10] ∧ dfInv σ n pc ls τ
set_option maxRecDepth 100000 in
set_option maxHeartbeats 4000000 in
theorem c_X1_differences : kp_Met layC 0 yX1_differences cX1_differences 11 (some .int) (pr_X1_differences) (po_X1_differences) := by
  refine kp_met (N := 130) (by decide) tkx_X1_differences gk_X1 pk_X1 (mk_X1_differences) rfl (iv_X1_differences) ?_ ?_
  · rintro As σ ⟨rfl, hp⟩
    refine ⟨⟨rfl, Nat.le_of_ble_eq_true rfl⟩, v_X1_differences σ ?_⟩
    obtain ⟨⟨zA, hA, h1, h2, h3⟩, ⟨zB, hB, g1, g2, g3⟩⟩ := hp
    refine ⟨10 * (zA + zB - 0) + 9, rfl, rfl, zA, zB, 0, 0, 0, 0, none, none, none, by rw [hA, hB, nI_add], hA, hB, h1, g1, fr_rf, by omega, by omega, by omega, Or.inl ⟨rfl, rfl, by omega, by omega, by omega, fun i j hi => by omega, fun i j _ _ hj => by omega, fun i hi => by omega, fun i j _ hj => by omega, fun k hk => ?_⟩⟩
    rcases hk with ⟨p, hp, -⟩ | ⟨p, hp, -⟩ <;> omega
  · rintro As σ ⟨rfl, hp⟩ n pc ls st τ hI
    obtain ⟨hbA, hbB⟩ := hp
    obtain ⟨rfl, hAs, zA, zB, f, m, t, s, o8, o9, o10, rfl, hA, hB, hzA, hzB, hfr, hs, hm, ht, hI⟩ := hI
    clear hAs
    have q4 : τ 4 = σ 4 := hfr 4 (by decide)
    have q5 : τ 5 = σ 5 := hfr 5 (by decide)
    have q6 : τ 6 = σ 6 := hfr 6 (by decide)
    have q7 : τ 7 = σ 7 := hfr 7 (by decide)
    have q8 : τ 8 = σ 8 := hfr 8 (by decide)
    have q9 : τ 9 = σ 9 := hfr 9 (by decide)
    obtain ⟨zA', eA, hzA', hcA, hsA⟩ := id hbA
    obtain ⟨zB', eB, hzB', hcB, hsB⟩ := id hbB
    have : zA' = zA := (nI_eq (by omega) (by omega)).mp (eA.symm.trans hA)
    subst this
    have : zB' = zB := (nI_eq (by omega) (by omega)).mp (eB.symm.trans hB)
    subst this
    have hAm : ∀ i, i < zA' → (mC σ (dfA σ i) = σ 6 i ∧ mC σ (dfA σ i) ≠ -1) := fun i hi => by
      have e : mC σ (dfA σ i) = σ 6 i := by
        have hb2 := hbA
        rw [hA] at hb2
        show mpC (σ 5) (σ 6) (σ 4 2) (tn (σ 5 i)) = σ 6 i
        rw [hA]
        exact mpC_at hb2 hzA hi
      obtain ⟨v, hv, ev⟩ := (hcA i hi).2.2
      exact ⟨e, by rw [e, ev]; exact nI_m1 (by omega)⟩
    have hBm : ∀ i, i < zB' → (kC σ (dfB σ i) = σ 9 i ∧ kC σ (dfB σ i) ≠ -1) := fun i hi => by
      have e : kC σ (dfB σ i) = σ 9 i := by
        have hb2 := hbB
        rw [hB] at hb2
        show mpC (σ 8) (σ 9) (σ 7 2) (tn (σ 8 i)) = σ 9 i
        rw [hB]
        exact mpC_at hb2 hzB hi
      obtain ⟨v, hv, ev⟩ := (hcB i hi).2.2
      exact ⟨e, by rw [e, ev]; exact nI_m1 (by omega)⟩
    have hMn : ∀ k, (∀ i, i < zA' → dfA σ i ≠ k) → mC σ k = -1 := fun k h => by
      show mpC (σ 5) (σ 6) (σ 4 2) k = -1
      rw [hA]; exact mpC_none hzA h
    have hKn : ∀ k, (∀ i, i < zB' → dfB σ i ≠ k) → kC σ k = -1 := fun k h => by
      show mpC (σ 8) (σ 9) (σ 7 2) k = -1
      rw [hB]; exact mpC_none hzB h
    have ea : dfA σ m = tn (σ 5 m) := rfl
    have eb : dfB σ t = tn (σ 8 t) := rfl
    rcases hI with ⟨rfl, rfl, hfs, hdf⟩ | ⟨rfl, rfl, hfs, hsz, hmt, hdf⟩ | ⟨rfl, rfl, hfs, hsz, hmt, hdf, rfl⟩ | ⟨rfl, rfl, hfs, hsz, hmt, hdf, rfl, rfl⟩ | ⟨rfl, rfl, hfs, hsz, hmt, hdf, rfl, rfl, rfl⟩ | ⟨rfl, rfl, hfs, hsz, hmt, hdf, rfl, rfl, w, rfl⟩
    · refine v_X1_differences_22 _ _ _ _ _ o8 o9 o10 τ ?_
      rw [q4, q7, hA, hB, nI_ltI (by omega) (by omega), nI_ltI (by omega) (by omega), nI_ltI (by omega) (by omega)]
      have hfin : zA' ≤ m → zB' ≤ t → po_X1_differences [.ref 4, .ref 7, .ref 10] σ (nI f) τ := by
        intro a1 a2
        obtain ⟨-, -, -, -, d5, d6, d7⟩ := hdf
        refine ⟨hfr, f, by omega, rfl, fun i hi => (d5 i hi).1, d6, fun k => ?_⟩
        by_cases hk : df_P (dfA σ) m (dfB σ) t k
        · exact d7 k hk
        · have e1 : mC σ k = -1 := hMn k (fun i hi e => hk (Or.inl ⟨i, by omega, e⟩))
          have e2 : kC σ k = -1 := hKn k (fun i hi e => hk (Or.inr ⟨i, by omega, e⟩))
          refine ⟨fun z => absurd (e1.trans e2.symm) z, fun ⟨i, hi, e⟩ => absurd ?_ hk⟩
          rw [← e]; exact (d5 i hi).2
      refine ⟨fun a1 => hfin (by omega) (by omega), fun a1 => ⟨fun a2 => ⟨10 * (zA' + zB' - s) + 8, by omega, rfl, rfl, zA', zB', f, m, t, s, o8, o9, o10, rfl, hA, hB, hzA, hzB, hfr, hs, hm, ht, Or.inr (Or.inl ⟨rfl, rfl, hfs, a1, Or.inl a2, hdf⟩)⟩, fun a2 => ⟨fun a3 => hfin (by omega) (by omega), fun a3 => ⟨10 * (zA' + zB' - s) + 8, by omega, rfl, rfl, zA', zB', f, m, t, s, o8, o9, o10, rfl, hA, hB, hzA, hzB, hfr, hs, hm, ht, Or.inr (Or.inl ⟨rfl, rfl, hfs, a1, Or.inr a3, hdf⟩)⟩⟩⟩⟩
    · refine v_X1_differences_47 _ _ _ _ _ o8 o9 o10 τ ?_
      have hgo : ∀ b : Bool, b = df_hm (dfA σ) zA' (dfB σ) zB' m t → ∃ n', n' < 10 * (zA' + zB' - s) + 8 ∧ ([] : List Value) = [] ∧ ([.ref 4, .ref 7, .ref 10] : List Value) = [.ref 4, .ref 7, .ref 10] ∧ dfInv σ n' 89 (dfL zA' zB' f m t s (some (.int (bI b))) o9 o10) τ := by
        rintro b rfl
        exact ⟨10 * (zA' + zB' - s) + 7, by omega, rfl, rfl, zA', zB', f, m, t, s, _, o9, o10, rfl, hA, hB, hzA, hzB, hfr, hs, hm, ht, Or.inr (Or.inr (Or.inl ⟨rfl, rfl, hfs, hsz, hmt, hdf, rfl⟩))⟩
      rw [q4, q7, hA, hB, nI_ltI (by omega) (by omega), nI_ltI (by omega) (by omega)]
      refine ⟨fun a1 => hgo false (decide_eq_false (by omega)).symm, fun a1 => ⟨fun a2 => hgo true (decide_eq_true (by omega)).symm, fun a2 => ⟨(kp_in (by omega)).mpr (by omega), (kp_in (by omega)).mpr (by omega), ?_⟩⟩⟩
      rw [nI_clamp (show m < 2 ^ 31 by omega), nI_clamp (show t < 2 ^ 31 by omega), q5, q8, (hcA m a1).1, (hcB t a2).1, nI_ltI (tn_lt _) (tn_lt _)]
      exact ⟨fun a3 => hgo false (decide_eq_false (fun z => by have := z.2.resolve_left (by omega); omega)).symm, fun a3 => hgo true (decide_eq_true ⟨a1, Or.inr (by omega)⟩).symm⟩
    · refine v_X1_differences_89 _ _ _ _ _ _ o9 o10 τ ?_
      have hgo : ∀ b : Bool, b = df_ht (dfA σ) zA' (dfB σ) zB' m t → ∃ n', n' < 10 * (zA' + zB' - s) + 7 ∧ ([] : List Value) = [] ∧ ([.ref 4, .ref 7, .ref 10] : List Value) = [.ref 4, .ref 7, .ref 10] ∧ dfInv σ n' 131 (dfL zA' zB' f m t s (some (.int (bI (df_hm (dfA σ) zA' (dfB σ) zB' m t)))) (some (.int (bI b))) o10) τ := by
        rintro b rfl
        exact ⟨10 * (zA' + zB' - s) + 6, by omega, rfl, rfl, zA', zB', f, m, t, s, _, _, o10, rfl, hA, hB, hzA, hzB, hfr, hs, hm, ht, Or.inr (Or.inr (Or.inr (Or.inl ⟨rfl, rfl, hfs, hsz, hmt, hdf, rfl, rfl⟩)))⟩
      rw [q4, q7, hA, hB, nI_ltI (by omega) (by omega), nI_ltI (by omega) (by omega)]
      refine ⟨fun a1 => hgo false (decide_eq_false (by omega)).symm, fun a1 => ⟨fun a2 => hgo true (decide_eq_true (by omega)).symm, fun a2 => ⟨(kp_in (by omega)).mpr (by omega), (kp_in (by omega)).mpr (by omega), ?_⟩⟩⟩
      rw [nI_clamp (show m < 2 ^ 31 by omega), nI_clamp (show t < 2 ^ 31 by omega), q5, q8, (hcA m a2).1, (hcB t a1).1, nI_ltI (tn_lt _) (tn_lt _)]
      exact ⟨fun a3 => hgo false (decide_eq_false (fun z => by have := z.2.resolve_left (by omega); omega)).symm, fun a3 => hgo true (decide_eq_true ⟨a1, Or.inr (by omega)⟩).symm⟩
    · refine v_X1_differences_131 _ _ _ _ _ _ _ o10 τ ?_
      have hgo : ∀ b : Bool, b = (df_hm (dfA σ) zA' (dfB σ) zB' m t && df_ht (dfA σ) zA' (dfB σ) zB' m t && decide (σ 6 m = σ 9 t)) → ∃ n', n' < 10 * (zA' + zB' - s) + 6 ∧ ([] : List Value) = [] ∧ ([.ref 4, .ref 7, .ref 10] : List Value) = [.ref 4, .ref 7, .ref 10] ∧ dfInv σ n' 165 (dfL zA' zB' f m t s (some (.int (bI (df_hm (dfA σ) zA' (dfB σ) zB' m t)))) (some (.int (bI (df_ht (dfA σ) zA' (dfB σ) zB' m t)))) (some (.int (bI b)))) τ := by
        rintro b rfl
        exact ⟨10 * (zA' + zB' - s) + 5, by omega, rfl, rfl, zA', zB', f, m, t, s, _, _, _, rfl, hA, hB, hzA, hzB, hfr, hs, hm, ht, Or.inr (Or.inr (Or.inr (Or.inr (Or.inl ⟨rfl, rfl, hfs, hsz, hmt, hdf, rfl, rfl, rfl⟩))))⟩
      rw [bI_0, bI_0]
      refine ⟨fun a1 => hgo false (by rw [a1]; rfl), fun a1 => ⟨fun a2 => hgo false (by rw [a2]; simp), fun a2 => ?_⟩⟩
      have a1 : df_hm (dfA σ) zA' (dfB σ) zB' m t = true := by simpa using a1
      have a2 : df_ht (dfA σ) zA' (dfB σ) zB' m t = true := by simpa using a2
      have b1 := of_decide_eq_true a1
      have b2 := of_decide_eq_true a2
      refine ⟨(kp_in (by omega)).mpr (by omega), (kp_in (by omega)).mpr (by omega), ?_⟩
      rw [nI_clamp (show m < 2 ^ 31 by omega), nI_clamp (show t < 2 ^ 31 by omega), q6, q9]
      exact ⟨fun a3 => hgo false (by rw [decide_eq_false a3]; simp), fun a3 => hgo true (by rw [a1, a2, decide_eq_true a3]; rfl)⟩
    · refine v_X1_differences_165 _ _ _ _ _ _ _ _ τ ?_
      have hgo : ∀ (f' : Nat) (τ' : Sg) (b : Int32), fr [10] σ τ' → f' ≤ s + 1 → df_I (dfA σ) zA' (dfB σ) zB' (mC σ) (kC σ) (τ' 10) f' (if df_hm (dfA σ) zA' (dfB σ) zB' m t = true then m + 1 else m) (if df_ht (dfA σ) zA' (dfB σ) zB' m t = true then t + 1 else t) → ∃ n', n' < 10 * (zA' + zB' - s) + 5 ∧ ([] : List Value) = [] ∧ ([.ref 4, .ref 7, .ref 10] : List Value) = [.ref 4, .ref 7, .ref 10] ∧ dfInv σ n' 204 (dfL zA' zB' f' m t s (some (.int (bI (df_hm (dfA σ) zA' (dfB σ) zB' m t)))) (some (.int (bI (df_ht (dfA σ) zA' (dfB σ) zB' m t)))) (some (.int b))) τ' := by
        intro f' τ' b hfr' hf' hd'
        exact ⟨10 * (zA' + zB' - s) + 4, by omega, rfl, rfl, zA', zB', f', m, t, s, _, _, _, rfl, hA, hB, hzA, hzB, hfr', hs, hm, ht, Or.inr (Or.inr (Or.inr (Or.inr (Or.inr ⟨rfl, rfl, hf', hsz, hmt, hd', rfl, rfl, b, rfl⟩))))⟩
      rw [bI_0, bI_0, nI_ltI (by omega) (by omega)]
      refine ⟨fun a1 => ?_, fun a1 => ⟨fun a2 => by omega, fun a2 => ⟨fun a3 => ?_, fun a3 => ?_⟩⟩⟩
      · have a1 : (df_hm (dfA σ) zA' (dfB σ) zB' m t && df_ht (dfA σ) zA' (dfB σ) zB' m t && decide (σ 6 m = σ 9 t)) = true := by rw [Bool.not_eq_false] at a1; exact a1
        obtain ⟨a1, a4⟩ := kp_and2 a1
        obtain ⟨a1, a2⟩ := kp_and2 a1
        have b1 := of_decide_eq_true a1
        have b2 := of_decide_eq_true a2
        have he : dfA σ m = dfB σ t := by omega
        refine hgo f τ _ hfr (by omega) ?_
        rw [if_pos a1, if_pos a2]
        exact df_both hsA hsB (tn_lt _) hdf a1 a2 (Or.inl ⟨by rw [(hAm m b1.1).1, he, (hBm t b2.1).1]; exact of_decide_eq_true a4, rfl, rfl⟩)
      · have a2' := df_one hmt a3
        have b2 := of_decide_eq_true a2'
        have b3 := of_decide_eq_false a3
        refine ⟨(kp_in (by omega)).mpr (by omega), (kp_in (by omega)).mpr a2, ?_⟩
        rw [nI_clamp (show t < 2 ^ 31 by omega), nI_clamp (show f < 2 ^ 31 by omega), nI_add, q8, (hcB t b2.1).1]
        refine hgo (f + 1) _ _ (fr_up hfr (by decide)) (by omega) ?_
        rw [if_neg (by rw [a3]; decide), if_pos a2', kp_up_eq]
        refine df_their hsA hsB (tn_lt _) hdf a3 a2' ?_
        have e1 : mC σ (dfB σ t) = -1 := hMn _ (fun i hi e => by
          by_cases z : i < m
          · have := hdf.2.2.1 i t z (by omega) b2.1; omega
          · have z1 : dfB σ t < dfA σ m := by omega
            by_cases z2 : i = m
            · subst z2; omega
            · have := hsA m i (by omega) hi; have ei : dfA σ i = tn (σ 5 i) := rfl; omega)
        rw [e1]
        exact fun z => (hBm t b2.1).2 z.symm
      · have a3 : df_hm (dfA σ) zA' (dfB σ) zB' m t = true := by simpa using a3
        have b3 := of_decide_eq_true a3
        refine ⟨(kp_in (by omega)).mpr (by omega), (kp_in (by omega)).mpr a2, ?_⟩
        rw [nI_clamp (show m < 2 ^ 31 by omega), nI_clamp (show f < 2 ^ 31 by omega), nI_add, q5, (hcA m b3.1).1]
        refine hgo (f + 1) _ _ (fr_up hfr (by decide)) (by omega) ?_
        rw [if_pos a3, kp_up_eq]
        by_cases a4 : df_ht (dfA σ) zA' (dfB σ) zB' m t = true
        · rw [if_pos a4]
          have b4 := of_decide_eq_true a4
          have he : dfA σ m = dfB σ t := by omega
          refine df_both hsA hsB (tn_lt _) hdf a3 a4 (Or.inr ⟨?_, rfl, rfl⟩)
          rw [(hAm m b3.1).1, he, (hBm t b4.1).1]
          rw [a3, a4] at a1
          exact of_decide_eq_false (by simpa using a1)
        · rw [if_neg a4]
          have a4 : df_ht (dfA σ) zA' (dfB σ) zB' m t = false := by simpa using a4
          have b4 := of_decide_eq_false a4
          refine df_mine hsA hsB (tn_lt _) hdf a3 a4 ?_
          have e1 : kC σ (dfA σ m) = -1 := hKn _ (fun i hi e => by
            by_cases z : i < t
            · have := hdf.2.2.2.1 m i (by omega) b3.1 z; omega
            · have z1 : dfA σ m < dfB σ t := by omega
              by_cases z2 : i = t
              · subst z2; omega
              · have := hsB t i (by omega) hi; have ei : dfB σ i = tn (σ 8 i) := rfl; omega)
          rw [e1]
          exact (hAm m b3.1).2
    · refine v_X1_differences_204 _ _ _ _ _ _ _ _ τ ?_
      have hgo : ∀ (m' t' : Nat), m' ≤ zA' → t' ≤ zB' → s + 1 ≤ m' + t' → df_I (dfA σ) zA' (dfB σ) zB' (mC σ) (kC σ) (τ 10) f m' t' → ∃ n', n' < 10 * (zA' + zB' - s) + 4 ∧ ([] : List Value) = [] ∧ ([.ref 4, .ref 7, .ref 10] : List Value) = [.ref 4, .ref 7, .ref 10] ∧ dfInv σ n' 22 (dfL zA' zB' f m' t' (s + 1) (some (.int (bI (df_hm (dfA σ) zA' (dfB σ) zB' m t)))) (some (.int (bI (df_ht (dfA σ) zA' (dfB σ) zB' m t)))) (some (.int w))) τ := by
        intro m' t' h1 h2 h3 h4
        exact ⟨10 * (zA' + zB' - (s + 1)) + 9, by omega, rfl, rfl, zA', zB', f, m', t', s + 1, _, _, _, rfl, hA, hB, hzA, hzB, hfr, h3, h1, h2, Or.inl ⟨rfl, rfl, hfs, h4⟩⟩
      rw [bI_0, bI_0, nI_add, nI_add, nI_add, nI_add, nI_add]
      refine ⟨fun a1 => ⟨fun a2 => ?_, fun a2 => ?_⟩, fun a1 => ⟨fun a2 => ?_, fun a2 => ?_⟩⟩
      · have := df_one hmt a1
        rw [a2] at this; cases this
      · have a2 : df_ht (dfA σ) zA' (dfB σ) zB' m t = true := by simpa using a2
        have b2 := of_decide_eq_true a2
        rw [if_neg (by rw [a1]; decide), if_pos a2] at hdf
        exact hgo m (t + 1) (by omega) (by omega) (by omega) hdf
      · have a1 : df_hm (dfA σ) zA' (dfB σ) zB' m t = true := by simpa using a1
        have b1 := of_decide_eq_true a1
        rw [if_pos a1, if_neg (by rw [a2]; decide)] at hdf
        exact hgo (m + 1) t (by omega) (by omega) (by omega) hdf
      · have a1 : df_hm (dfA σ) zA' (dfB σ) zB' m t = true := by simpa using a1
        have a2 : df_ht (dfA σ) zA' (dfB σ) zB' m t = true := by simpa using a2
        have b1 := of_decide_eq_true a1
        have b2 := of_decide_eq_true a2
        rw [if_pos a1, if_pos a2] at hdf
        exact hgo (m + 1) (t + 1) (by omega) (by omega) (by omega) hdf
