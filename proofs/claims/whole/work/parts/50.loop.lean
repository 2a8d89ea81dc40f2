/-! the case of out, the switch, and the loop -/
set_option maxRecDepth 100000 in
theorem lo_GI3 : ∀ w ∈ ([.methodLink RL 62 yL_out, .static yL_out, .initialized yL_out.cls] : List Cond), w ∈ kp_tb := by decide +kernel
theorem lo_GI : ∀ w ∈ va_wsS RL 62 yL_out lo_ws, w ∈ kp_tb := by
  intro w hw
  rcases List.mem_append.mp hw with h | h
  · exact lo_GI3 w h
  · rcases List.mem_cons.mp h with rfl | h
    · exact lo_in.1
    · exact h
section LO
variable {p : Program} {l : Launch} {e : Env} {s : State} {m : MethodId} {below : List Frame} {meth : Method} {c : Code} {H : Heap} {locs : List Loc} {cells slots : Nat} {Q : State → Prop}
variable {b L : Nat} {xs : Nat → Int32} {D : va_G} {cI cZ cR cJ : ClassId} {aC aM : Nat → Nat} {ao s1 s2 : Nat} {i : Nat} {la : Array Slot} {σ τ : Sg} {g : Nat → Int64}
set_option maxHeartbeats 1000000 in
theorem ll_out (C : ll_Cx p l s m meth c b L xs D cI cZ cR cJ aC aM ao s1 s2) (hH : ll_H D cI cZ cR cJ aC aM ao s H locs σ τ g) {n : Nat} (hR : RR n σ τ) (hn : n ≤ 600) (hl : ll_L b i aC aM ao la) (hi : i + 3 < L) (hcs : cells + 1 ≤ 601024 ∧ slots + 6 ≤ 7293034) (nx : ll_N p l e s m below meth c Q b D cI cZ cR cJ aC aM ao i n cells slots) :
    W p l e room_1 s m #[.ref b] below meth c H locs cells slots Q (F0 m 494 la []) := by
  obtain ⟨⟨hx, hb, hr, hml, hown, hlocks, hlt⟩, ⟨hts, hnw, hX, hbl, hL⟩, ⟨hK, hKJ, hZ⟩, ⟨hDC, hDM, hao⟩, n1, n2, n3⟩ := id C
  obtain ⟨hPC, hPM, hPO, hS⟩ := id hH
  refine lv_aload_n hx hb dL_law_494 rfl (lv_at hl 1 rfl) ?_
  refine kl_ld C hS hl (k := 1) (j := 1) rfl (by omega) dL_law_495 dL_law_496 dL_law_498 dL_law_499 dL_law_500 ?_
  refine kl_ld C hS hl (k := 2) (j := 2) rfl (by omega) dL_law_501 dL_law_502 dL_law_504 dL_law_505 dL_law_506 ?_
  refine lv_aload_n hx hb dL_law_507 rfl (lv_at hl 3 rfl) ?_
  have hz0 : s.heap.size ≤ H.size := hS.1
  have cw : vx_CSW room_1 s #[.ref b] RL 62 yL_out cL_out 5 (some .int) lo_h lo_ws lo_rm 1 6 4 := vx_cwSW 4 hts (kp_GI (fun _ q => q) lo_GI) rfl rfl rfl (by decide +kernel) ⟨by decide, by decide⟩
  refine vx_calli (rest := []) (A0 := ll_A s) (H0 := s.heap) (vx_runSX (As := [.ref (aC 0), .int (xs (i + 1)), .int (xs (i + 2)), .ref ao]) (rest := []) ⟨hx, hb, hml, hown, hts⟩ (c_L_out hlt D cI cZ cR cJ aC H.size σ (xs (i + 1)) (xs (i + 2)) (ll_A s) s1 s2 ao g) cw ⟨lo_blind, fun U hU hW => ⟨rfl, by rw [hU], ⟨fun w hw => kp_nw_warm hw hW (hnw w hw), by rw [hU]; exact hPC, va_K.moved hW.alike hK, (kp_w_D σ hDC).weaken (fun _ _ _ _ => trivial)⟩, by rw [hU]; exact (hZ.kept hS.2.1).warm hW, by rw [hU]; exact hPO, va_K.moved hW.alike hKJ⟩⟩ rfl rfl hl.1 rfl (lv_room (show 0 ≤ 8 by decide)) dL_law_508 ⟨hcs.1, hcs.2⟩) hS (fun q _ h => h.elim (fun z => z ▸ hao) (fun z => Nat.le_trans hz0 z)) (fun q h => h.elim (fun z => z ▸ hao) (fun z => Nat.le_trans hz0 z)) (fun q _ h => h.elim) (fun E ce q9 u t H1 locs1 _ _ hno => hno.elim) ?_
  intro r u t H1 locs1 ht hal hpost hB hz hk hS1
  have hB : va_P D vwCl (lo_w ao cJ u) t.heap := hB
  rw [ht] at hB
  have hPC1 : va_P D vwCl (kp_w aC cI cZ cR layC σ) H1 := hPC.kept (fun k q hq => hk q.1 (vx_lt hPC hq) (by
    rintro (z | z)
    · rw [(kl_at hq).2] at z; exact n2 k (kl_at hq).1 z
    · exact Nat.not_lt.mpr z (vx_lt hPC hq)))
  have hPM1 : va_P D vwCl (kp_w aM cI cZ cR layM τ) H1 := hPM.kept (fun k q hq => hk q.1 (vx_lt hPM hq) (by
    rintro (z | z)
    · rw [(kl_at hq).2] at z; exact n3 k (kl_at hq).1 z
    · exact Nat.not_lt.mpr z (vx_lt hPM hq)))
  have hH1 : ll_H D cI cZ cR cJ aC aM ao s H1 locs1 σ τ u := ⟨hPC1, hPM1, hB, hS1⟩
  refine lv_istore (lv' := [(5, .int r), (0, .ref b), (1, .ref (aC 0)), (2, .ref (aM 0)), (3, .ref ao), (4, .int (nI i))]) hx hb dL_law_511 hl (by decide) rfl (fun la hl5 => ?_)
  have hl : ll_L b i aC aM ao la := lv_sub hl5 [1, 2, 3, 4, 5] rfl
  refine lv_aload_n hx hb dL_law_513 rfl (lv_at hl 2 rfl) ?_
  refine kl_ld C hS1 hl (k := 1) (j := 1) rfl (by omega) dL_law_514 dL_law_515 dL_law_517 dL_law_518 dL_law_519 ?_
  refine kl_ld C hS1 hl (k := 2) (j := 2) rfl (by omega) dL_law_520 dL_law_521 dL_law_523 dL_law_524 dL_law_525 ?_
  refine kl_M C hH1 (As := [.int (xs (i + 1)), .int (xs (i + 2))]) (rest := []) c_X10_out lk_L_67 (by decide) rfl rfl ⟨_, _, rfl, hR.2.1⟩ (show 0 ≤ 8 by decide) hl.1 dL_law_526 hcs (fun r1 τ1 H2 locs2 hq hH2 => ?_)
  refine lv_istore (lv' := [(6, .int r1), (5, .int r), (0, .ref b), (1, .ref (aC 0)), (2, .ref (aM 0)), (3, .ref ao), (4, .int (nI i))]) hx hb dL_law_529 hl5 (by decide) rfl (fun la hl6 => ?_)
  have hl : ll_L b i aC aM ao la := lv_sub hl6 [2, 3, 4, 5, 6] rfl
  refine lv_aload_n hx hb dL_law_531 rfl (lv_at hl 2 rfl) ?_
  refine kl_M C hH2 (As := []) (rest := []) c_X10_thrown lk_L_68 (by decide) rfl rfl ⟨rfl, trivial⟩ (show 0 ≤ 8 by decide) hl.1 dL_law_532 hcs (fun r2 τ2 H3 locs3 hq2 hH3 => ?_)
  obtain ⟨rfl, rfl⟩ := hq2
  obtain ⟨m1, m2, m3, m4⟩ := hq
  obtain ⟨o1, o2, o3, o4, o5⟩ := out_same hR
  rw [← o1] at m3 m4
  rw [← o3, ← o4] at m3
  have hR' := RR_0 hR m1 m2
  have hnx := nx σ τ2 u H3 locs3 la (RR_le hR' (by omega)) hH3 hl
  have hgo : W p l e room_1 s m #[.ref b] below meth c H3 locs3 (cells + 1) (slots + 6) Q (F0 m 559 la []) := lv_goto (tgt := 958) hx hb dL_law_559 rfl hnx
  refine lv_iload hx hb dL_law_535 (lv_at hl6 1 rfl) ?_
  by_cases hok : outOK (σ 15 2) (xs (i + 1)) (xs (i + 2))
  · obtain ⟨p1, p2⟩ := hpost.1 hok
    obtain ⟨q1, q2⟩ := m3 hok
    refine lv_icmp_eq (tgt := 542) hx hb dL_law_537 rfl (fun _ => ?_) (fun hne => absurd (q1.trans p1.symm) hne)
    refine lv_iload hx hb dL_law_542 (lv_at hl6 1 rfl) ?_
    refine lv_if_ne (tgt := 559) hx hb dL_law_544 rfl (fun _ => hgo) (fun _ => ?_)
    refine lv_aload_n hx hb dL_law_547 rfl (lv_at hl 3 rfl) ?_
    refine lv_iconst (v := nI 0) hx hb dL_law_548 rfl ?_
    refine va_lald (f := u) hx hb hKJ hH3.2.2.1 0 0 rfl rfl ((kp_in (by decide)).mpr (by decide)) dL_law_549 ?_
    refine lv_iload hx hb dL_law_550 (lv_at hl6 0 rfl) ?_
    refine lv_i2l hx hb dL_law_552 rfl ?_
    refine W.lcmp hx hb dL_law_553 ?_
    refine lv_if_eq (tgt := 559) hx hb dL_law_554 rfl (fun _ => hgo) (fun hne => absurd ((lg_cmp_eq _ _).mpr ?_) hne)
    rw [show (nI 0).toNatClampNeg = 0 from rfl, p2, q2]
  · have p1 := hpost.2 hok
    have q1 := m4 hok
    refine lv_icmp_eq (tgt := 542) hx hb dL_law_537 rfl (fun _ => ?_) (fun hne => absurd (q1.trans p1.symm) hne)
    refine lv_iload hx hb dL_law_542 (lv_at hl6 1 rfl) ?_
    refine lv_if_ne (tgt := 559) hx hb dL_law_544 rfl (fun _ => hgo) (fun h0 => absurd (p1.symm.trans h0) (by decide))
/-- the switch -/
theorem ll_switch (C : ll_Cx p l s m meth c b L xs D cI cZ cR cJ aC aM ao s1 s2) (hH : ll_H D cI cZ cR cJ aC aM ao s H locs σ τ g) {n : Nat} (hR : RR n σ τ) (hn : n ≤ 600) (hl : ll_L b i aC aM ao la) (hi : i + 3 < L) (hcs : cells + 1 ≤ 601024 ∧ slots + 6 ≤ 7293034) (nx : ll_N p l e s m below meth c Q b D cI cZ cR cJ aC aM ao i n cells slots) (x : Int32) :
    W p l e room_1 s m #[.ref b] below meth c H locs cells slots Q (F0 m 39 la [.int x]) := by
  obtain ⟨⟨hx, hb, hr, hml, hown, hlocks, hlt⟩, -⟩ := id C
  by_cases hout : x.toInt < 0 ∨ 26 < x.toInt
  · exact lv_tableOut (tgt := 958) hx hb dL_law_39 hout rfl (W.widen (k := cells + 1) (n := slots + 6) (by omega) (by omega) (nx _ _ _ _ _ _ (RR_le hR (by omega)) hH hl))
  · have h1 : ¬ x.toInt < 0 := fun z => hout (Or.inl z)
    have h2 : ¬ 26 < x.toInt := fun z => hout (Or.inr z)
    obtain ⟨j, hj⟩ : ∃ j : Nat, (x.toInt - 0).toNat = j := ⟨_, rfl⟩
    have hj26 : j ≤ 26 := by omega
    match j, hj, hj26 with
    | 0, hj, _ => exact lv_tableIn (off := 121) (tgt := 160) hx hb dL_law_39 h1 h2 (by rw [hj]; rfl) rfl (ll_context C hH hR hn hl hi hcs nx)
    | 1, hj, _ => exact lv_tableIn (off := 146) (tgt := 185) hx hb dL_law_39 h1 h2 (by rw [hj]; rfl) rfl (ll_bind C hH hR hn hl hi hcs nx)
    | 2, hj, _ => exact lv_tableIn (off := 195) (tgt := 234) hx hb dL_law_39 h1 h2 (by rw [hj]; rfl) rfl (ll_has C hH hR hn hl hi hcs nx)
    | 3, hj, _ => exact lv_tableIn (off := 232) (tgt := 271) hx hb dL_law_39 h1 h2 (by rw [hj]; rfl) rfl (ll_means C hH hR hn hl hi hcs nx)
    | 4, hj, _ => exact lv_tableIn (off := 269) (tgt := 308) hx hb dL_law_39 h1 h2 (by rw [hj]; rfl) rfl (ll_fight C hH hR hn hl hi hcs nx)
    | 5, hj, _ => exact lv_tableIn (off := 318) (tgt := 357) hx hb dL_law_39 h1 h2 (by rw [hj]; rfl) rfl (ll_fights C hH hR hn hl hi hcs nx)
    | 6, hj, _ => exact lv_tableIn (off := 343) (tgt := 382) hx hb dL_law_39 h1 h2 (by rw [hj]; rfl) rfl (ll_patience C hH hR hn hl hi hcs nx)
    | 7, hj, _ => exact lv_tableIn (off := 368) (tgt := 407) hx hb dL_law_39 h1 h2 (by rw [hj]; rfl) rfl (ll_go C hH hR hn hl hi hcs nx)
    | 8, hj, _ => exact lv_tableIn (off := 393) (tgt := 432) hx hb dL_law_39 h1 h2 (by rw [hj]; rfl) rfl (ll_type C hH hR hn hl hi hcs nx)
    | 9, hj, _ => exact lv_tableIn (off := 430) (tgt := 469) hx hb dL_law_39 h1 h2 (by rw [hj]; rfl) rfl (ll_settle C hH hR hn hl hi hcs nx)
    | 10, hj, _ => exact lv_tableIn (off := 455) (tgt := 494) hx hb dL_law_39 h1 h2 (by rw [hj]; rfl) rfl (ll_out C hH hR hn hl hi hcs nx)
    | 11, hj, _ => exact lv_tableIn (off := 523) (tgt := 562) hx hb dL_law_39 h1 h2 (by rw [hj]; rfl) rfl (ll_stretch C hH hR hn hl hi hcs nx)
    | 12, hj, _ => exact lv_tableIn (off := 560) (tgt := 599) hx hb dL_law_39 h1 h2 (by rw [hj]; rfl) rfl (ll_uses C hH hR hn hl hi hcs nx)
    | 13, hj, _ => exact lv_tableIn (off := 597) (tgt := 636) hx hb dL_law_39 h1 h2 (by rw [hj]; rfl) rfl (ll_habit C hH hR hn hl hi hcs nx)
    | 14, hj, _ => exact lv_tableIn (off := 646) (tgt := 685) hx hb dL_law_39 h1 h2 (by rw [hj]; rfl) rfl (ll_want C hH hR hn hl hi hcs nx)
    | 15, hj, _ => exact lv_tableIn (off := 683) (tgt := 722) hx hb dL_law_39 h1 h2 (by rw [hj]; rfl) rfl (ll_offer C hH hR hn hl hi hcs nx)
    | 16, hj, _ => exact lv_tableIn (off := 708) (tgt := 747) hx hb dL_law_39 h1 h2 (by rw [hj]; rfl) rfl (ll_clear C hH hR hn hl hi hcs nx)
    | 17, hj, _ => exact lv_tableIn (off := 719) (tgt := 758) hx hb dL_law_39 h1 h2 (by rw [hj]; rfl) rfl (ll_cheapest C hH hR hn hl hi hcs nx)
    | 18, hj, _ => exact lv_tableIn (off := 732) (tgt := 771) hx hb dL_law_39 h1 h2 (by rw [hj]; rfl) rfl (ll_assigned C hH hR hn hl hi hcs nx)
    | 19, hj, _ => exact lv_tableIn (off := 757) (tgt := 796) hx hb dL_law_39 h1 h2 (by rw [hj]; rfl) rfl (ll_broken C hH hR hn hl hi hcs nx)
    | 20, hj, _ => exact lv_tableIn (off := 770) (tgt := 809) hx hb dL_law_39 h1 h2 (by rw [hj]; rfl) rfl (ll_apply C hH hR hn hl hi hcs nx)
    | 21, hj, _ => exact lv_tableIn (off := 783) (tgt := 822) hx hb dL_law_39 h1 h2 (by rw [hj]; rfl) rfl (ll_keep C hH hR hn hl hi hcs nx)
    | 22, hj, _ => exact lv_tableIn (off := 794) (tgt := 833) hx hb dL_law_39 h1 h2 (by rw [hj]; rfl) rfl (ll_change C hH hR hn hl hi hcs nx)
    | 23, hj, _ => exact lv_tableIn (off := 831) (tgt := 870) hx hb dL_law_39 h1 h2 (by rw [hj]; rfl) rfl (ll_back C hH hR hn hl hi hcs nx)
    | 24, hj, _ => exact lv_tableIn (off := 844) (tgt := 883) hx hb dL_law_39 h1 h2 (by rw [hj]; rfl) rfl (ll_learn C hH hR hn hl hi hcs nx)
    | 25, hj, _ => exact lv_tableIn (off := 869) (tgt := 908) hx hb dL_law_39 h1 h2 (by rw [hj]; rfl) rfl (ll_saves C hH hR hn hl hi hcs nx)
    | 26, hj, _ => exact lv_tableIn (off := 894) (tgt := 933) hx hb dL_law_39 h1 h2 (by rw [hj]; rfl) rfl (ll_count C hH hR hn hl hi hcs nx)
    | k + 27, _, h => exact absurd h (by omega)
theorem ll_sub {L i : Nat} (hL : L ≤ 2048) (hi : i ≤ 2048) : ¬ (Int32.ofNat L - nI 4 < nI i) ↔ i + 4 ≤ L := by
  have h1 : (Int32.ofNat L).toInt = (L : Int) := nI_toInt (n := L) (by omega)
  have h2 : (nI i).toInt = (i : Int) := nI_toInt (by omega)
  have h3 : (nI 4).toInt = 4 := rfl
  rw [Int32.lt_iff_toInt_lt, Int32.toInt_sub, h1, h2, h3, Int.bmod_eq_of_le (by omega) (by omega)]
  omega
set_option maxHeartbeats 1000000 in
/-- THE LOOP -/
theorem ll_loop (C : ll_Cx p l s m meth c b L xs D cI cZ cR cJ aC aM ao s1 s2) : ∀ (k n : Nat), 4 * n ≤ L → L + 1 ≤ 4 * n + k → ∀ (σ τ : Sg) (g : Nat → Int64) (H : Heap) (locs : List Loc) (la : Array Slot), RR n σ τ → ll_H D cI cZ cR cJ aC aM ao s H locs σ τ g → ll_L b (4 * n) aC aM ao la →
    W p l e room_1 s m #[.ref b] below meth c H locs (100 + n) (5000 + 6 * n) (lw_Z below #[.ref b] s) (F0 m 23 la []) := by
  obtain ⟨⟨hx, hb, hr, hml, hown, hlocks, hlt⟩, ⟨hts, hnw, hX, hbl, hL⟩, -⟩ := id C
  intro k
  induction k with
  | zero =>
    intro n h1 h2
    exact absurd h2 (by omega)
  | succ k ih =>
    intro n h1 h2 σ τ g H locs la hR hH hl
    have hS := hH.2.2.2
    refine lv_iload hx hb dL_law_23 (lv_at hl 4 rfl) ?_
    refine lv_aload_n hx hb dL_law_25 rfl (lv_at hl 0 rfl) ?_
    refine va_slen hx hb hX hbl (Nat.not_le.mpr hbl) hS dL_law_26 ?_
    refine lv_iconst (v := nI 4) hx hb dL_law_27 rfl ?_
    refine lv_isub hx hb dL_law_28 ?_
    refine lv_icmp_gt (tgt := 964) hx hb dL_law_29 rfl (fun _ => ?_) (fun hc => ?_)
    · refine lv_iconst (v := 1) hx hb dL_law_964 (by decide) ?_
      refine va_forget (fun q hq => hS.2.2 q hq) ?_
      refine W.widen (k := 601024) (n := 7293034) (by omega) (by omega) ?_
      exact lw_ret hx hb hr hlocks dL_law_965
    · have hi := (ll_sub hL (by omega)).mp hc
      refine lv_aload_n hx hb dL_law_32 rfl (lv_at hl 0 rfl) ?_
      refine lv_iload hx hb dL_law_33 (lv_at hl 4 rfl) ?_
      refine va_sld hx hb hX hbl (Nat.not_le.mpr hbl) hS (vp_in_nI (by omega) (by omega)) dL_law_35 ?_
      refine lv_bipush (v := nI 31) hx hb dL_law_36 (by decide) ?_
      refine lv_iand hx hb dL_law_38 ?_
      refine ll_switch C hH hR (by omega) hl (by omega) ⟨by omega, by omega⟩ (fun σ' τ' g' H1 locs1 la1 hR1 hH1 hl1 => ?_) _
      refine lv_iinc (v := nI (4 * (n + 1))) (lv' := [(4, .int (nI (4 * (n + 1)))), (0, .ref b), (1, .ref (aC 0)), (2, .ref (aM 0)), (3, .ref ao)]) hx hb dL_law_958 hl1 (k := 4) rfl (nI_add (4 * n) 4) (by decide) rfl (fun la2 hl2 => ?_)
      refine lv_goto (tgt := 23) hx hb dL_law_961 rfl ?_
      exact W.widen (k := 100 + (n + 1)) (n := 5000 + 6 * (n + 1)) (by omega) (by omega) (ih (n + 1) (by omega) (by omega) σ' τ' g' H1 locs1 la2 hR1 hH1 (lv_sub hl2 [1, 2, 3, 4, 0] rfl))
end LO
