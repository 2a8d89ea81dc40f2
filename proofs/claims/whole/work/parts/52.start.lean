/-! THE LAW, from its entry -/
set_option maxRecDepth 100000 in
theorem ks_init : (Cond.code yX9_init cX9_init 1 none ∈ kp_tb ∧ Cond.initialized RX9 ∈ kp_tb ∧ Cond.methodLink RL 15 yX9_init ∈ kp_tb ∧ Cond.instanceMethod yX9_init ∈ kp_tb ∧ Cond.classLink RL 8 RX9 ∈ kp_tb ∧ Cond.instantiable RX9 8 ∈ kp_tb) ∧ (Cond.code yX10_init cX10_init 2 none ∈ kp_tb ∧ Cond.initialized RX10 ∈ kp_tb ∧ Cond.methodLink RL 18 yX10_init ∈ kp_tb ∧ Cond.instanceMethod yX10_init ∈ kp_tb ∧ Cond.classLink RL 16 RX10 ∈ kp_tb ∧ Cond.instantiable RX10 36 ∈ kp_tb) := by decide +kernel
theorem ki_blind {D : va_G} {cI cZ : ClassId} {h0 sz ci : Nat} {fs : List Value} : FrameBlind (ki_P D cI cZ h0 sz ci fs) := by
  intro a U g mk q
  obtain ⟨q0, q1, qP, qK, qD⟩ := q
  exact ⟨q0, q1, qP, va_K.moved (u := U) (U := U.calling g mk a) (Vm.Alike.refl U.vm) qK, qD⟩
theorem ko_blind {D : va_G} {cI cZ : ClassId} {h0 sz ci : Nat} {fs : List Value} : FrameBlind (ki_PO D cI cZ h0 sz ci fs) := by
  intro a U g mk q
  obtain ⟨q0, q1, qP, qK, qO, qD⟩ := q
  exact ⟨q0, q1, qP, va_K.moved (u := U) (U := U.calling g mk a) (Vm.Alike.refl U.vm) qK, ki_over (u := U) (U := U.calling g mk a) (Vm.Alike.refl U.vm) qO, qD⟩
theorem ks_app {A : Nat → Prop} {w1 w2 w3 : va_W} (h : va_D A ((w1 ++ w2) ++ w3)) : (∀ (i j : Nat) (p q : Nat × va_E), w1[i]? = some p → w2[j]? = some q → p.1 ≠ q.1) ∧ (∀ (i j : Nat) (p q : Nat × va_E), w1[i]? = some p → w3[j]? = some q → p.1 ≠ q.1) ∧ (∀ (i j : Nat) (p q : Nat × va_E), w2[i]? = some p → w3[j]? = some q → p.1 ≠ q.1) := by
  have g1 : ∀ (i : Nat) (p : Nat × va_E), w1[i]? = some p → i < w1.length ∧ ((w1 ++ w2) ++ w3)[i]? = some p := fun i p hp => by
    have hl := (List.getElem?_eq_some_iff.mp hp).1
    exact ⟨hl, by rw [List.getElem?_append_left (by rw [List.length_append]; omega), List.getElem?_append_left hl]; exact hp⟩
  have g2 : ∀ (i : Nat) (p : Nat × va_E), w2[i]? = some p → i < w2.length ∧ ((w1 ++ w2) ++ w3)[w1.length + i]? = some p := fun i p hp => by
    have hl := (List.getElem?_eq_some_iff.mp hp).1
    exact ⟨hl, by rw [List.getElem?_append_left (by rw [List.length_append]; omega), List.getElem?_append_right (by omega), show w1.length + i - w1.length = i by omega]; exact hp⟩
  have g3 : ∀ (i : Nat) (p : Nat × va_E), w3[i]? = some p → ((w1 ++ w2) ++ w3)[w1.length + w2.length + i]? = some p := fun i p hp => by
    rw [List.getElem?_append_right (by rw [List.length_append]; omega), List.length_append, show w1.length + w2.length + i - (w1.length + w2.length) = i by omega]; exact hp
  refine ⟨fun i j p q h1 h2 z => ?_, fun i j p q h1 h2 z => ?_, fun i j p q h1 h2 z => ?_⟩
  · have := h.1 _ _ _ _ (g1 i p h1).2 (g2 j q h2).2 z
    have := (g1 i p h1).1
    omega
  · have := h.1 _ _ _ _ (g1 i p h1).2 (g3 j q h2) z
    have := (g1 i p h1).1
    omega
  · have := h.1 _ _ _ _ (g2 i p h1).2 (g3 j q h2) z
    have := (g2 i p h1).1
    omega
theorem ks_len {ad : Nat → Nat} {cI cZ cR : ClassId} {lay : List Ds} {σ : Sg} {i : Nat} (h : i < lay.length) : ∃ e : va_E, (kp_w ad cI cZ cR lay σ)[i]? = some (ad i, e) :=
  ⟨_, kp_w_at (List.getElem?_eq_getElem h)⟩
theorem layC_len {aC : Nat → Nat} {cI cZ cR : ClassId} : (kp_w aC cI cZ cR layC sg0).length = 40 := by rw [kp_w, List.length_mapIdx]; rfl
theorem layM_len {aM : Nat → Nat} {cI cZ cR : ClassId} : (kp_w aM cI cZ cR layM tg0).length = 21 := by rw [kp_w, List.length_mapIdx]; rfl
section ST
variable {p : Program} {l : Launch} {e : Env} {s : State} {m : MethodId} {below : List Frame} {meth : Method} {c : Code} {b L : Nat} {xs : Nat → Int32}
set_option maxHeartbeats 4000000 in
set_option maxRecDepth 100000 in
theorem whole_start (hlt : l.stackTraces = false) (hL : L ≤ 2048) (C0 : lw_At p s m meth c b L xs) : W p l e room_1 s m #[Value.ref b] below meth c s.heap [] 0 0 (lw_Z below #[Value.ref b] s) (entryFrame m ([Value.ref b] : List Value).toArray 7) := by
  obtain ⟨hx, hb, hr, hml, hown, htsA, hX, hbl, hlocks, hgv⟩ := id C0
  have hts : ∀ w ∈ kp_tb, w.before #[Value.ref b] s = true := fun w hw => htsA w (kp_tb_good w hw).1
  have hown : s.vm.findClass RL = some m.cls := hown
  have hA : ∀ q : Nat, s.heap.size ≤ q → ll_A s q := fun _ h => h
  obtain ⟨D, cI, cZ, hK⟩ := ks_K htsA
  obtain ⟨s1, s2, hZ⟩ := ks_Z htsA hgv
  have hnw := ks_nw htsA
  have hov : va_AOA .int s := htsA _ ks_over
  obtain ⟨⟨c1, c2, c3, c4, c5, c6⟩, k1, k2, k3, k4, k5, k6⟩ := ks_init
  have hS : va_S (ll_A s) s.heap s.heap [] := va_S.rf
  have hP : va_P D vwCl [] s.heap := fun k q h => by simp at h
  have hD : va_D (ll_A s) [] := ⟨fun i j p q h => by simp at h, fun k q h => by simp at h⟩
  have hl := lv_entry ([.ref b]) (n := 7) (Nat.le_of_ble_eq_true rfl)
  rw [lg_entry_eq]
  generalize (lg_sl ([.ref b]) ++ List.replicate (7 - (lg_sl ([.ref b])).length) Slot.unset).toArray = ls at hl ⊢
  have hl : lv_has ls 7 [(0, .ref b)] := hl
  refine va_new (ci := 8) (fs := [.null, .null, .null, .null, .null, .null, .null, .null]) (C := RX9) (T := TX9) (N := 8) hx hb hts kp_u8 tyX9 tyX9_ok hown (hts _ c5) (hts _ c6) (hts _ c2) hK hP hD hS hA rfl (fun j hj => by match j, hj with | 0, _ => rfl | 1, _ => rfl | 2, _ => rfl | 3, _ => rfl | 4, _ => rfl | 5, _ => rfl | 6, _ => rfl | 7, _ => rfl | j + 8, h => omega) (Nat.le_of_ble_eq_true rfl) (Nat.le_of_ble_eq_true rfl) dL_law_0 (fun q0 H hP hD hS => ?_)
  have hP : va_P D vwCl [(q0, .inr (8, [.null, .null, .null, .null, .null, .null, .null, .null]))] H := hP
  have hD : va_D (ll_A s) [(q0, .inr (8, [.null, .null, .null, .null, .null, .null, .null, .null]))] := hD
  refine lv_dup hx hb dL_law_3 rfl ?_
  have hFc := va_free (wc := [(q0, .inr (8, [.null, .null, .null, .null, .null, .null, .null, .null]))]) hD hS hA [0] rfl
  refine va_callv (va_runI (As := []) (rest := [.ref q0]) ⟨hx, hb, hml, hown, hts⟩ (n_X9 l D cI cZ q0 H.size) (cwI 0 hts (kp_GI (fun _ h => h) (kp_ws_in c1)) rfl rfl rfl (hts _ c2) (hts _ c3) (hts _ c4) rfl (by decide +kernel) ⟨(Nat.le_of_ble_eq_true rfl), (Nat.le_of_ble_eq_true rfl)⟩) ⟨ko_blind, fun U hU hW => ⟨rfl, by rw [hU], by rw [hU]; exact hP, va_K.moved hW.alike hK, ki_over hW.alike hov, hD.weaken (fun _ _ _ _ => trivial)⟩⟩ rfl rfl hl.1 rfl (lv_room (show 1 ≤ 8 by decide)) dL_law_4 ⟨(Nat.le_of_ble_eq_true rfl), (Nat.le_of_ble_eq_true rfl)⟩) hS (fun q _ h => hFc q h) hFc (fun u t H1 locs ht hvm hw hB hz1 hk1 hS => ?_)
  obtain ⟨q5, q5_9, q7_9_9, q16_9, q7_20_9, q15_20_9, q16, q7_20, q15_20, q30, q36, q7_40, q16_40, q25_40, q47, q8_51, q17_51, q58, q8_62, q39_62, q68_62, q76_62, q69, q7_73, q15_73, q28_73, q51_73, q59_73, q69_73, q79_73, q87_73, r_73, cR_73, q80, q7_84, hP1, hK1, hD1⟩ := hB
  rw [ht] at hP1
  have hK := va_K.moved hvm.symm hK1
  obtain ⟨aC, hC0, hwC⟩ := ks_wC q0 q5 q5_9 q7_9_9 q16_9 q7_20_9 q15_20_9 q16 q7_20 q15_20 q30 q36 q7_40 q16_40 q25_40 q47 q8_51 q17_51 q58 q8_62 q39_62 q68_62 q76_62 q69 q7_73 q15_73 q28_73 q51_73 q59_73 q69_73 q79_73 q87_73 q80 q7_84 r_73 cI cZ cR_73
  rw [hwC] at hP1 hD1
  have hPC := hP1
  have hDC : va_D (ll_A s) (kp_w aC cI cZ cR_73 layC sg0) := hD1.weaken (fun _ _ _ h => hFc _ h)
  clear hP1 hD1 hk1 hwC hP hD hFc hz1
  generalize H1 = H at hPC hS ⊢
  refine lv_astore_n (lv' := [(1, .ref q0), (0, .ref b)]) hx hb dL_law_7 rfl hl (by decide) rfl (fun ls hl => ?_)
  refine va_new (ci := 9) (fs := [.int 0, .null, .int 0, .int 0, .int 0, .int 0, .int 0, .int 0, .int 0, .int 0, .int 0, .int 0, .null, .null, .null, .null, .null, .null, .null, .null, .null, .int 0, .null, .null, .null, .null, .null, .null, .null, .null, .int 0, .null, .null, .int 0, .int 0, .int 0]) (C := RX10) (T := TX10) (N := 36) hx hb hts kp_u9 tyX10 tyX10_ok hown (hts _ k5) (hts _ k6) (hts _ k2) hK hPC hDC hS hA rfl (fun j hj => by match j, hj with | 0, _ => rfl | 1, _ => rfl | 2, _ => rfl | 3, _ => rfl | 4, _ => rfl | 5, _ => rfl | 6, _ => rfl | 7, _ => rfl | 8, _ => rfl | 9, _ => rfl | 10, _ => rfl | 11, _ => rfl | 12, _ => rfl | 13, _ => rfl | 14, _ => rfl | 15, _ => rfl | 16, _ => rfl | 17, _ => rfl | 18, _ => rfl | 19, _ => rfl | 20, _ => rfl | 21, _ => rfl | 22, _ => rfl | 23, _ => rfl | 24, _ => rfl | 25, _ => rfl | 26, _ => rfl | 27, _ => rfl | 28, _ => rfl | 29, _ => rfl | 30, _ => rfl | 31, _ => rfl | 32, _ => rfl | 33, _ => rfl | 34, _ => rfl | 35, _ => rfl | j + 36, h => omega) (Nat.le_of_ble_eq_true rfl) (Nat.le_of_ble_eq_true rfl) dL_law_8 (fun q1 H hP hD hS => ?_)
  refine lv_dup hx hb dL_law_11 rfl ?_
  have hle := layC_len (aC := aC) (cI := cI) (cZ := cZ) (cR := cR_73)
  have hPq : va_P D vwCl [(q1, .inr (9, [.int 0, .null, .int 0, .int 0, .int 0, .int 0, .int 0, .int 0, .int 0, .int 0, .int 0, .int 0, .null, .null, .null, .null, .null, .null, .null, .null, .null, .int 0, .null, .null, .null, .null, .null, .null, .null, .null, .int 0, .null, .null, .int 0, .int 0, .int 0]))] H := fun k q hk => hP (40 + k) q (by rw [List.getElem?_append_right (by rw [hle]; omega), hle, show 40 + k - 40 = k by omega]; exact hk)
  have hDq : va_D (ll_A s) [(q1, .inr (9, [.int 0, .null, .int 0, .int 0, .int 0, .int 0, .int 0, .int 0, .int 0, .int 0, .int 0, .int 0, .null, .null, .null, .null, .null, .null, .null, .null, .null, .int 0, .null, .null, .null, .null, .null, .null, .null, .null, .int 0, .null, .null, .int 0, .int 0, .int 0]))] := ⟨fun i j p q h1 h2 h3 => by
      have e1 := (List.getElem?_eq_some_iff.mp h1).1
      have e2 := (List.getElem?_eq_some_iff.mp h2).1
      simp only [List.length_cons, List.length_nil] at e1 e2
      omega, fun k q hk => hD.2 (40 + k) q (by rw [List.getElem?_append_right (by rw [hle]; omega), hle, show 40 + k - 40 = k by omega]; exact hk)⟩
  have hPC : va_P D vwCl (kp_w aC cI cZ cR_73 layC sg0) H := fun k q hk => hP k q (by rw [List.getElem?_append_left (List.getElem?_eq_some_iff.mp hk).1]; exact hk)
  have hne1 : ∀ (i : Nat) (p : Nat × va_E), (kp_w aC cI cZ cR_73 layC sg0)[i]? = some p → p.1 ≠ q1 := fun i p hp z => by
    have hi := (List.getElem?_eq_some_iff.mp hp).1
    have := hD.1 i 40 p (q1, .inr (9, [.int 0, .null, .int 0, .int 0, .int 0, .int 0, .int 0, .int 0, .int 0, .int 0, .int 0, .int 0, .null, .null, .null, .null, .null, .null, .null, .null, .null, .int 0, .null, .null, .null, .null, .null, .null, .null, .null, .int 0, .null, .null, .int 0, .int 0, .int 0])) (by rw [List.getElem?_append_left hi]; exact hp) (by rw [List.getElem?_append_right (by rw [hle]; omega), hle]; rfl) z
    rw [hle] at hi
    omega
  have hFc := va_free (wc := [(q1, .inr (9, [.int 0, .null, .int 0, .int 0, .int 0, .int 0, .int 0, .int 0, .int 0, .int 0, .int 0, .int 0, .null, .null, .null, .null, .null, .null, .null, .null, .null, .int 0, .null, .null, .null, .null, .null, .null, .null, .null, .int 0, .null, .null, .int 0, .int 0, .int 0]))]) hDq hS hA [0] rfl
  have hKi : va_K D vwCl (ki_ty cI cZ) s := hK.sub [0, 1] rfl
  refine va_callv (va_runI (As := []) (rest := [.ref q1]) ⟨hx, hb, hml, hown, hts⟩ (n_X10 l D cI cZ q1 H.size) (cwI 0 hts (kp_GI (fun _ h => h) (kp_ws_in k1)) rfl rfl rfl (hts _ k2) (hts _ k3) (hts _ k4) rfl (by decide +kernel) ⟨(Nat.le_of_ble_eq_true rfl), (Nat.le_of_ble_eq_true rfl)⟩) ⟨ki_blind, fun U hU hW => ⟨rfl, by rw [hU], by rw [hU]; exact hPq, va_K.moved hW.alike hKi, hDq.weaken (fun _ _ _ _ => trivial)⟩⟩ rfl rfl hl.1 rfl (lv_room (show 1 ≤ 8 by decide)) dL_law_12 ⟨(Nat.le_of_ble_eq_true rfl), (Nat.le_of_ble_eq_true rfl)⟩) hS (fun q _ h => hFc q h) hFc (fun u t H1 locs ht hvm hw hB hz1 hk1 hS => ?_)
  obtain ⟨q7, q26, q34, q42, q50, q58, q66, q74, q83, q92, q101, q109, q117, q125, q133, q141, q149, q157, q165, q173, hP1, -, hD1⟩ := hB
  rw [ht] at hP1
  obtain ⟨aM, hM0, hwM⟩ := ks_wM q1 q7 q26 q34 q42 q50 q58 q66 q74 q83 q92 q101 q109 q117 q125 q133 q141 q149 q157 q165 q173 cI cZ cR_73
  rw [hwM] at hP1 hD1
  have hPC1 : va_P D vwCl (kp_w aC cI cZ cR_73 layC sg0) H1 := kl_keep hPC (fun i j p q h1 h2 z => by
      have e1 := (List.getElem?_eq_some_iff.mp h1).1
      simp only [List.length_cons, List.length_nil] at e1
      have : i = 0 := by omega
      subst this
      cases h1
      exact hne1 j q h2 z.symm) hk1
  have hPM := hP1
  have hDM : va_D (ll_A s) (kp_w aM cI cZ cR_73 layM tg0) := hD1.weaken (fun _ _ _ h => hFc _ h)
  have hDb : va_D (ll_A s) (kp_w aC cI cZ cR_73 layC sg0 ++ kp_w aM cI cZ cR_73 layM tg0) := hDC.app hDM (fun i j p q h1 h2 z => by
    rcases hD1.2 j q h2 with ⟨k, e9, h9⟩ | h9
    · have e1 := (List.getElem?_eq_some_iff.mp h9).1
      simp only [List.length_cons, List.length_nil] at e1
      have : k = 0 := by omega
      subst this
      have e2 : q1 = q.1 := congrArg Prod.fst (Option.some.inj h9)
      exact hne1 i p h1 (by rw [z, ← e2])
    · have := vx_lt hPC h1
      rw [z] at this
      omega)
  have hPb := hPC1.app hPM
  clear hP1 hD1 hk1 hwM hP hD hFc hz1 hPq hDq hne1 hPC hPC1 hPM
  generalize H1 = H at hPb hS ⊢
  refine lv_astore_n (lv' := [(2, .ref q1), (1, .ref q0), (0, .ref b)]) hx hb dL_law_15 rfl hl (by decide) rfl (fun ls hl => ?_)
  refine lv_iconst (v := nI 1) hx hb dL_law_16 rfl ?_
  refine va_newa (atype := .long) (ty := .long) (n := nI 1) (N' := 1) (a0 := (1, .inr (.inl (fun _ => 0)))) hx hb (hts _ ks_words.2.2) rfl hK hPb hDb hS hA (fun cA => rfl) (by decide) rfl (by decide) (Nat.le_of_ble_eq_true rfl) (Nat.le_of_ble_eq_true rfl) dL_law_17 (fun ao cJ H hKJ hP hD hS => ?_)
  refine lv_astore_n (lv' := [(3, .ref ao), (2, .ref q1), (1, .ref q0), (0, .ref b)]) hx hb dL_law_19 rfl hl (by decide) rfl (fun ls hl => ?_)
  refine lv_iconst (v := nI 0) hx hb dL_law_20 rfl ?_
  refine lv_istore (lv' := [(4, .int (nI 0)), (3, .ref ao), (2, .ref q1), (1, .ref q0), (0, .ref b)]) hx hb dL_law_21 hl (by decide) rfl (fun ls hl => ?_)
  obtain ⟨n1, n2, n3⟩ := ks_app hD
  have hlM := layM_len (aM := aM) (cI := cI) (cZ := cZ) (cR := cR_73)
  have gO : ((kp_w aC cI cZ cR_73 layC sg0 ++ kp_w aM cI cZ cR_73 layM tg0) ++ lo_w ao cJ (fun _ => 0))[61]? = some (ao, .inl (cJ, 1, .inr (.inl (fun _ => 0)))) := by
    rw [List.getElem?_append_right (by rw [List.length_append, hle, hlM]; omega), List.length_append, hle, hlM]
    rfl
  have hao : ll_A s ao := hD.2 61 _ gO
  have hKJ' : va_K D vwCl [(cJ, .long)] s := hKJ.sub [3] rfl
  have C : ll_Cx p l s m meth c b L xs D cI cZ cR_73 cJ aC aM ao s1 s2 := by
    refine ⟨⟨hx, hb, hr, hml, hown, hlocks, hlt⟩, ⟨hts, hnw, hX, hbl, hL⟩, ⟨hK, hKJ', hZ⟩, ⟨hDC, hDM, hao⟩, fun i j hi hj => ?_, fun i hi => ?_, fun j hj => ?_⟩
    · obtain ⟨e1, w1⟩ := ks_len (ad := aC) (cI := cI) (cZ := cZ) (cR := cR_73) (σ := sg0) hi
      obtain ⟨e2, w2⟩ := ks_len (ad := aM) (cI := cI) (cZ := cZ) (cR := cR_73) (σ := tg0) hj
      exact n1 i j _ _ w1 w2
    · obtain ⟨e1, w1⟩ := ks_len (ad := aC) (cI := cI) (cZ := cZ) (cR := cR_73) (σ := sg0) hi
      exact n2 i 0 _ _ w1 rfl
    · obtain ⟨e2, w2⟩ := ks_len (ad := aM) (cI := cI) (cZ := cZ) (cR := cR_73) (σ := tg0) hj
      exact n3 j 0 _ _ w2 rfl
  have hHH : ll_H D cI cZ cR_73 cJ aC aM ao s H locs sg0 tg0 (fun _ => 0) := by
    refine ⟨fun k q hk => hP k q ?_, fun k q hk => hP (40 + k) q ?_, fun k q hk => hP (61 + k) q ?_, hS⟩
    · have h9 := (List.getElem?_eq_some_iff.mp hk).1
      rw [List.getElem?_append_left (by rw [List.length_append]; omega), List.getElem?_append_left h9]
      exact hk
    · have h9 := (List.getElem?_eq_some_iff.mp hk).1
      rw [List.getElem?_append_left (by rw [List.length_append, hle]; omega), List.getElem?_append_right (by rw [hle]; omega), hle, show 40 + k - 40 = k by omega]
      exact hk
    · rw [List.getElem?_append_right (by rw [List.length_append, hle, hlM]; omega), List.length_append, hle, hlM, show 61 + k - (40 + 21) = k by omega]
      exact hk
  refine W.widen (k := 100 + 0) (n := 5000 + 6 * 0) (Nat.le_of_ble_eq_true rfl) (Nat.le_of_ble_eq_true rfl) ?_
  exact ll_loop C (L + 1) 0 (by omega) (by omega) sg0 tg0 (fun _ => 0) H locs ls RR0 hHH (by rw [← hC0, ← hM0] at hl; exact lv_sub hl [4, 3, 2, 1, 0] rfl)
end ST
