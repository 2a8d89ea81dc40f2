/-! each call leaves both in agreement, and both answer alike -/
theorem RR_le {b c : Nat} {σ τ : Sg} (h : RR b σ τ) (hb : b ≤ c) : RR c σ τ := ⟨h.1, h.2.1, Nat.le_trans h.2.2.1 hb, h.2.2.2⟩
theorem RR_0 {b : Nat} {σ τ τ' : Sg} (h : RR b σ τ) (hJ : InvM τ') (hm : fm [] [0] τ τ') : RR b σ τ' := RR_f (l := []) h h.1 hJ fr_rf hm (by decide) (by decide) (by decide) rfl rfl
theorem pp_context {b : Nat} {σ τ σ' τ' : Sg} {x r r' : Int32} (h : RR b σ τ) (hC : po_X9_context [.ref 0, .int x] σ r σ') (hM : po_X10_context [.ref 0, .int x] τ r' τ') : RR b σ' τ' ∧ r = r' := by
  obtain ⟨hI, hJ, a0, ⟨a1, a2, a3, a4⟩, ak, at1, ap, aw⟩ := id h
  obtain ⟨c1, c2, c3⟩ := hC
  obtain ⟨m1, m2, m3⟩ := hM
  by_cases hc : isCx (σ 2 1) x = true ∧ σ 2 1 < nI 12
  · obtain ⟨rfl, rfl⟩ := c2 hc
    rw [a1] at hc
    obtain ⟨f1, f2, f3, rfl⟩ := m2 hc
    have hfr : fr [2, 3] σ (kp_up (kp_up σ 3 (tn (σ 2 1)) x) 2 1 (σ 2 1 + nI 1)) := fr_up (fr_up fr_rf (by decide)) (by decide)
    refine ⟨⟨c1, m1, by rw [(ts_f hfr f1 (by decide) (by decide) (by decide)).1]; exact a0, ⟨?_, ?_, ?_, ?_⟩, RK_f ak hfr f1 (by decide) (by decide) (by decide), RT_f at1 hfr f1 (by decide) (by decide) (by decide), RP_f ap hfr f1 (by decide) (by decide), RW_f aw hfr f1 (by decide) (by decide) (by decide) (by rw [hfr 23 (by decide)]) (by rw [hfr 23 (by decide)])⟩, a1⟩
    · rw [up_s, f3, a1]
    · rw [f2, ← a2, ← a1]
      simp (disch := decide) only [up_c, kp_up_eq, pk_us, pk_un]
    · unfold mC mM at *
      rw [hfr 4 (by decide), hfr 5 (by decide), hfr 6 (by decide), f1.1 2 (by decide) (by decide), f1.1 3 (by decide) (by decide), f1.1 4 (by decide) (by decide), f1.2 8 (by decide)]; exact a3
    · rw [hfr 4 (by decide), f1.2 8 (by decide)]; exact a4
  · obtain ⟨rfl, rfl⟩ := c3 hc
    rw [a1] at hc
    obtain ⟨f1, rfl⟩ := m3 hc
    exact ⟨RR_0 h m1 f1, rfl⟩
theorem pp_bind {b : Nat} {σ τ σ' τ' : Sg} {c row m r r' : Int32} (h : RR b σ τ) (hC : po_X9_bind [.ref 0, .int c, .int row, .int m] σ r σ') (hM : po_X10_bind [.ref 0, .int c, .int row, .int m] τ r' τ') : RR b σ' τ' ∧ r = r' := by
  obtain ⟨hI, hJ, a0, ⟨a1, a2, a3, a4⟩, ak, at1, ap, aw⟩ := id h
  obtain ⟨c1, c2, c3, c4⟩ := hC
  obtain ⟨m1, m2, m3, m4⟩ := hM
  have hiff : okB σ c row m ↔ okM τ c row m := by unfold okB okM; rw [a1, a3, a4]
  by_cases hc : okB σ c row m
  · obtain ⟨rfl, k1, k2⟩ := c3 hc
    obtain ⟨rfl, l1, l2⟩ := m3 (hiff.mp hc)
    refine ⟨⟨c1, m1, by rw [(ts_f c2 m2 (by decide) (by decide) (by decide)).1]; exact a0, ⟨?_, ?_, ?_, ?_⟩, RK_f ak c2 m2 (by decide) (by decide) (by decide), RT_f at1 c2 m2 (by decide) (by decide) (by decide), RP_f ap c2 m2 (by decide) (by decide), RW_f aw c2 m2 (by decide) (by decide) (by decide) (by rw [c2 23 (by decide)]) (by rw [c2 23 (by decide)])⟩, by rw [a3]⟩
    · rw [c2 2 (by decide), m2.2 2 (by decide)]; exact a1
    · rw [c2 3 (by decide), m2.1 1 (by decide) (by decide)]; exact a2
    · funext k; rw [k1 k, l1 k, a3]
    · rw [k2, l2, a3, a4]
  · obtain ⟨rfl, rfl⟩ := c4 hc
    obtain ⟨f1, rfl⟩ := m4 (fun z => hc (hiff.mpr z))
    exact ⟨RR_0 h m1 f1, rfl⟩
theorem pp_has {b : Nat} {σ τ σ' τ' : Sg} {c row r r' : Int32} (h : RR b σ τ) (hC : po_X9_has [.ref 0, .int c, .int row] σ r σ') (hM : po_X10_has [.ref 0, .int c, .int row] τ r' τ') : RR b σ' τ' ∧ r = r' := by
  obtain ⟨hI, hJ, a0, ⟨a1, a2, a3, a4⟩, -⟩ := id h
  obtain ⟨rfl, c3, c4⟩ := hC
  obtain ⟨m1, m2, m3, m4⟩ := hM
  refine ⟨RR_0 h m1 m2, ?_⟩
  rw [a1, a3] at c3
  rw [a1] at c4
  by_cases hc : isCx (τ 0 2) c = true ∧ isRw row = true
  · rw [c3 hc, m3 hc]
  · rw [c4 hc, m4 hc]
theorem pp_means {b : Nat} {σ τ σ' τ' : Sg} {c row r r' : Int32} (h : RR b σ τ) (hC : po_X9_means [.ref 0, .int c, .int row] σ r σ') (hM : po_X10_means [.ref 0, .int c, .int row] τ r' τ') : RR b σ' τ' ∧ r = r' := by
  obtain ⟨hI, hJ, a0, ⟨a1, a2, a3, a4⟩, -⟩ := id h
  obtain ⟨rfl, c3, c4⟩ := hC
  obtain ⟨m1, m2, m3, m4⟩ := hM
  refine ⟨RR_0 h m1 m2, ?_⟩
  rw [a1, a2, a3] at c3
  rw [a1] at c4
  by_cases hc : isCx (τ 0 2) c = true ∧ isRw row = true
  · rw [c3 hc, m3 hc]
  · rw [c4 hc, m4 hc]
theorem pp_fight {b : Nat} {σ τ σ' τ' : Sg} {c i w r r' : Int32} (h : RR b σ τ) (hC : po_X9_fight [.ref 0, .int c, .int i, .int w] σ r σ') (hM : po_X10_fight [.ref 0, .int c, .int i, .int w] τ r' τ') : RR b σ' τ' ∧ r = r' := by
  obtain ⟨hI, hJ, a0, ⟨a1, a2, a3, a4⟩, -⟩ := id h
  obtain ⟨c1, c2, c3, c4⟩ := hC
  obtain ⟨m1, m2, m3, m4⟩ := hM
  refine ⟨RR_f h c1 m1 c2 m2 (by decide) (by decide) (by decide) (by rw [c2 23 (by decide)]) (by rw [c2 23 (by decide)]), ?_⟩
  rw [a1, a2, a3] at c3
  rw [a1] at c4
  by_cases hc : isCx (τ 0 2) c = true
  · obtain ⟨g, f, k1, k2⟩ := c3 hc
    obtain ⟨n1, n2⟩ := m3 hc
    by_cases hi : i < nI 0
    · rw [k2, n1 hi]; unfold ftA; rw [if_pos hi]
    · obtain ⟨g', f', l1, l2⟩ := n2 hi
      rw [k2, l2, rows_uniq k1 l1]
  · rw [c4 hc, m4 hc]
theorem pp_fights {b : Nat} {σ τ σ' τ' : Sg} {c r r' : Int32} (h : RR b σ τ) (hC : po_X9_fights [.ref 0, .int c] σ r σ') (hM : po_X10_fights [.ref 0, .int c] τ r' τ') : RR b σ' τ' ∧ r = r' := by
  obtain ⟨hI, hJ, a0, ⟨a1, a2, a3, a4⟩, -⟩ := id h
  obtain ⟨c1, c2, c3, c4⟩ := hC
  obtain ⟨m1, m2, m3, m4⟩ := hM
  refine ⟨RR_f h c1 m1 c2 m2 (by decide) (by decide) (by decide) (by rw [c2 23 (by decide)]) (by rw [c2 23 (by decide)]), ?_⟩
  rw [a1, a2, a3] at c3
  rw [a1] at c4
  by_cases hc : isCx (τ 0 2) c = true
  · obtain ⟨g, f, k1, k2⟩ := c3 hc
    obtain ⟨g', f', l1, l2⟩ := m3 hc
    rw [k2, l2, rows_uniq k1 l1]
  · rw [c4 hc, m4 hc]
theorem pp_patience {b : Nat} {σ τ σ' τ' : Sg} {t r r' : Int32} (h : RR b σ τ) (hC : po_X9_patience [.ref 0, .int t] σ r σ') (hM : po_X10_patience [.ref 0, .int t] τ r' τ') : RR b σ' τ' ∧ r = r' := by
  obtain ⟨hI, hJ, a0, aa, ak, ⟨t1, t2, t3, t4⟩, ap, aw⟩ := id h
  obtain ⟨c1, c3, c4⟩ := hC
  obtain ⟨m1, m3, m4⟩ := hM
  by_cases hc : inR t (nI 0) (nI 100) = true
  · obtain ⟨rfl, rfl⟩ := c3 hc
    obtain ⟨f1, f2, rfl⟩ := m3 hc
    have hfr : fr [15] σ (kp_up σ 15 5 t) := fr_up fr_rf (by decide)
    have e1 : tsC (kp_up σ 15 5 t) = tsC σ := by unfold tsC; simp (disch := decide) only [up_c, kp_up_eq, pk_us, pk_un]
    have e2 : tsM τ' = tsM τ := by unfold tsM wM; rw [f1.1 8 (by decide) (by decide), f1.1 9 (by decide) (by decide), f1.1 10 (by decide) (by decide), f1.2 6 (by decide), f1.2 7 (by decide), f1.2 21 (by decide)]
    refine ⟨⟨c1, m1, by rw [e1]; exact a0, RA_f aa hfr f1 (by decide) (by decide) (by decide), RK_f ak hfr f1 (by decide) (by decide) (by decide), ⟨?_, ?_, ?_, ?_⟩, RP_f ap hfr f1 (by decide) (by decide), RW_f aw hfr f1 (by decide) (by decide) (by decide) (by rw [hfr 23 (by decide)]) (by rw [hfr 23 (by decide)])⟩, rfl⟩
    · rw [e1, e2]; exact t1
    · rw [f1.2 3 (by decide), ← t2]; simp (disch := decide) only [up_c, kp_up_eq, pk_us, pk_un]
    · rw [f2]; simp (disch := decide) only [up_c, kp_up_eq, pk_us, pk_un]
    · rw [f1.2 5 (by decide), ← t4]; simp (disch := decide) only [up_c, kp_up_eq, pk_us, pk_un]
  · obtain ⟨rfl, rfl⟩ := c4 hc
    obtain ⟨f1, rfl⟩ := m4 hc
    exact ⟨RR_0 h m1 f1, rfl⟩
theorem pp_go {b : Nat} {σ τ σ' τ' : Sg} {c r r' : Int32} (h : RR b σ τ) (hC : po_X9_go [.ref 0, .int c] σ r σ') (hM : po_X10_go [.ref 0, .int c] τ r' τ') : RR b σ' τ' ∧ r = r' := by
  obtain ⟨hI, hJ, a0, aa, ak, ⟨t1, t2, t3, t4⟩, ap, aw⟩ := id h
  obtain ⟨a1, a2, a3, a4⟩ := id aa
  obtain ⟨c1, c2, c3, c4⟩ := hC
  obtain ⟨m1, m3, m4⟩ := hM
  by_cases hc : isCx (σ 2 1) c = true
  · obtain ⟨k1, k2, k3, k4, k5, rfl⟩ := c3 hc
    rw [a1] at hc
    obtain ⟨l1, l2, l3, rfl⟩ := m3 hc
    refine ⟨⟨c1, m1, by omega, RA_f aa k1 l1 (by decide) (by decide) (by decide), RK_f ak k1 l1 (by decide) (by decide) (by decide), ⟨?_, by rw [k2, l2], by rw [k3, l1.2 4 (by decide)]; exact t3, by rw [k4, l1.2 5 (by decide)]; exact t4⟩, RP_f ap k1 l1 (by decide) (by decide), RW_f aw k1 l1 (by decide) (by decide) (by decide) (by rw [k1 23 (by decide)]) (by rw [k1 23 (by decide)])⟩, rfl⟩
    rw [k5, l3, a2, a3, t1, t2, t4]
  · obtain ⟨rfl, rfl⟩ := c4 hc
    rw [a1] at hc
    obtain ⟨f1, rfl⟩ := m4 hc
    exact ⟨RR_0 h m1 f1, rfl⟩
theorem pp_type {b : Nat} {σ τ σ' τ' : Sg} {s t r r' : Int32} (h : RR b σ τ) (hC : po_X9_type [.ref 0, .int s, .int t] σ r σ') (hM : po_X10_type [.ref 0, .int s, .int t] τ r' τ') : RR (b + 1) σ' τ' ∧ r = r' := by
  obtain ⟨hI, hJ, a0, aa, ak, ⟨t1, t2, t3, t4⟩, ap, aw⟩ := id h
  obtain ⟨a1, a2, a3, a4⟩ := id aa
  obtain ⟨c1, c2, c3, c4⟩ := hC
  obtain ⟨m1, m3, m4⟩ := hM
  by_cases hc : isSt s = true ∧ inR t (σ 15 6) (nI 1000000) = true
  · obtain ⟨k1, k2, k3, k4, k5, rfl⟩ := c3 hc
    rw [t4] at hc
    obtain ⟨l1, l2, l3, rfl⟩ := m3 hc
    have hts : tsC σ' = tsM τ' := by rw [k5, l3, a2, a3, t1, t2, t3, t4]
    exact ⟨⟨c1, m1, by omega, RA_f aa k1 l1 (by decide) (by decide) (by decide), RK_f ak k1 l1 (by decide) (by decide) (by decide), ⟨hts, by rw [k2, l1.2 3 (by decide)]; exact t2, by rw [k3, l1.2 4 (by decide)]; exact t3, by rw [k4, l2]⟩, RP_f ap k1 l1 (by decide) (by decide), RW_f aw k1 l1 (by decide) (by decide) (by decide) (by rw [k1 23 (by decide)]) (by rw [k1 23 (by decide)])⟩, by rw [hts]⟩
  · obtain ⟨rfl, rfl⟩ := c4 hc
    rw [t4] at hc
    obtain ⟨f1, rfl⟩ := m4 hc
    exact ⟨RR_le (RR_0 h m1 f1) (Nat.le_succ _), rfl⟩
theorem nn_ext {x y : Int32} (hx : nn x) (hy : nn y) (h : tn x = tn y) : x = y := by rw [hx, hy, h]
theorem out_same {b : Nat} {σ τ : Sg} (h : RR b σ τ) : σ 15 2 = τ 0 6 ∧ σ 15 3 = τ 0 7 ∧ σ 16 = τ 9 ∧ σ 17 = τ 10 ∧ tn (σ 15 7) = wM τ := by
  obtain ⟨hI, hJ, a0, aa, ak, ⟨t1, t2, t3, t4⟩, ap, aw⟩ := id h
  obtain ⟨-, -, hty, -⟩ := hI
  obtain ⟨-, -, hty', -⟩ := hJ
  unfold tsC tsM at t1
  have e1 := congrArg (fun z : TS => z.1) t1
  have e2 := congrArg (fun z : TS => z.2.1) t1
  have e3 := congrArg (fun z : TS => z.2.2.1) t1
  have e4 := congrArg (fun z : TS => z.2.2.2.1) t1
  have e5 := congrArg (fun z : TS => z.2.2.2.2) t1
  exact ⟨nn_ext hty.2.2.1 hty'.2.2.2.1 e2, nn_ext hty.2.2.2.1 hty'.2.2.2.2.1 e5, e3, e4, e1⟩
theorem pp_settle {b : Nat} {σ τ σ' τ' : Sg} {t r r' : Int32} (h : RR b σ τ) (hC : po_X9_settle [.ref 0, .int t] σ r σ') (hM : po_X10_settle [.ref 0, .int t] τ r' τ') : RR b σ' τ' ∧ r = r' := by
  obtain ⟨hI, hJ, a0, aa, ak, ⟨t1, t2, t3, t4⟩, ap, aw⟩ := id h
  obtain ⟨a1, a2, a3, a4⟩ := id aa
  obtain ⟨c1, c2, c3, c4⟩ := hC
  obtain ⟨m1, m3, m4⟩ := hM
  by_cases hc : inR t (σ 15 6) (nI 1000000) = true
  · obtain ⟨k1, k2, k3, k4, k5, rfl⟩ := c3 hc
    rw [t4] at hc
    obtain ⟨l1, l3, rfl⟩ := m3 hc
    have hts : tsC σ' = tsM τ' := by rw [k5, l3, a2, a3, t1, t2]
    have hR : RR b σ' τ' := ⟨c1, m1, by omega, RA_f aa k1 l1 (by decide) (by decide) (by decide), RK_f ak k1 l1 (by decide) (by decide) (by decide), ⟨hts, by rw [k2, l1.2 3 (by decide)]; exact t2, by rw [k3, l1.2 4 (by decide)]; exact t3, by rw [k4, l1.2 5 (by decide)]; exact t4⟩, RP_f ap k1 l1 (by decide) (by decide), RW_f aw k1 l1 (by decide) (by decide) (by decide) (by rw [k1 23 (by decide)]) (by rw [k1 23 (by decide)])⟩
    exact ⟨hR, by rw [(out_same hR).1, (out_same h).1]⟩
  · obtain ⟨rfl, rfl⟩ := c4 hc
    rw [t4] at hc
    obtain ⟨f1, rfl⟩ := m4 hc
    exact ⟨RR_0 h m1 f1, rfl⟩
theorem pp_stretch {b : Nat} {σ τ σ' τ' : Sg} {s p r r' : Int32} (h : RR b σ τ) (hC : po_X9_stretch [.ref 0, .int s, .int p] σ r σ') (hM : po_X10_stretch [.ref 0, .int s, .int p] τ r' τ') : RR b σ' τ' ∧ r = r' := by
  obtain ⟨hI, hJ, a0, aa, ak, at1, ⟨p1, p2, p3, p4⟩, aw⟩ := id h
  obtain ⟨c1, c3, c4⟩ := hC
  obtain ⟨m1, m3, m4⟩ := hM
  by_cases hc : isSt s = true ∧ inR p (nI 0) (nI 100) = true
  · obtain ⟨rfl, rfl⟩ := c3 hc
    obtain ⟨f1, f2, rfl⟩ := m3 hc
    have hfr : fr [19, 23] σ (kp_up (kp_up σ 19 (tn s) p) 23 5 (nI 0)) := fr_up (fr_up fr_rf (by decide)) (by decide)
    refine ⟨⟨c1, m1, by rw [(ts_f hfr f1 (by decide) (by decide) (by decide)).1]; exact a0, RA_f aa hfr f1 (by decide) (by decide) (by decide), RK_f ak hfr f1 (by decide) (by decide) (by decide), RT_f at1 hfr f1 (by decide) (by decide) (by decide), ⟨fun x hx => ?_, by rw [hfr 20 (by decide), f1.1 12 (by decide) (by decide)]; exact p2, by rw [hfr 21 (by decide), f1.1 13 (by decide) (by decide)]; exact p3, by rw [hfr 22 (by decide), f1.1 14 (by decide) (by decide)]; exact p4⟩, RW_f aw hfr f1 (by decide) (by decide) (by decide) (by simp (disch := decide) only [up_c, kp_up_eq, pk_us, pk_un]) (by simp (disch := decide) only [up_c, kp_up_eq, pk_us, pk_un])⟩, rfl⟩
    rw [f2]
    simp (disch := decide) only [up_c, kp_up_eq, pk_us, pk_un]
    by_cases e : x = tn s
    · rw [e, pk_us, pk_us]
    · rw [pk_un e, pk_un e]; exact p1 x hx
  · obtain ⟨rfl, rfl⟩ := c4 hc
    obtain ⟨f1, rfl⟩ := m4 hc
    exact ⟨RR_0 h m1 f1, rfl⟩
theorem pp_uses {b : Nat} {σ τ σ' τ' : Sg} {c n r r' : Int32} (h : RR b σ τ) (hC : po_X9_uses [.ref 0, .int c, .int n] σ r σ') (hM : po_X10_uses [.ref 0, .int c, .int n] τ r' τ') : RR b σ' τ' ∧ r = r' := by
  obtain ⟨hI, hJ, a0, aa, ak, at1, ⟨p1, p2, p3, p4⟩, aw⟩ := id h
  obtain ⟨c1, c3, c4⟩ := hC
  obtain ⟨m1, m3, m4⟩ := hM
  by_cases hc : isCx (nI 40) c = true ∧ inR n (nI 0) (nI 1000) = true
  · obtain ⟨rfl, rfl⟩ := c3 hc
    obtain ⟨f1, f2, rfl⟩ := m3 hc
    have hfr : fr [20, 23] σ (kp_up (kp_up σ 20 (tn c) n) 23 5 (nI 0)) := fr_up (fr_up fr_rf (by decide)) (by decide)
    refine ⟨⟨c1, m1, by rw [(ts_f hfr f1 (by decide) (by decide) (by decide)).1]; exact a0, RA_f aa hfr f1 (by decide) (by decide) (by decide), RK_f ak hfr f1 (by decide) (by decide) (by decide), RT_f at1 hfr f1 (by decide) (by decide) (by decide), ⟨by rw [hfr 19 (by decide), f1.1 11 (by decide) (by decide)]; exact p1, ?_, by rw [hfr 21 (by decide), f1.1 13 (by decide) (by decide)]; exact p3, by rw [hfr 22 (by decide), f1.1 14 (by decide) (by decide)]; exact p4⟩, RW_f aw hfr f1 (by decide) (by decide) (by decide) (by simp (disch := decide) only [up_c, kp_up_eq, pk_us, pk_un]) (by simp (disch := decide) only [up_c, kp_up_eq, pk_us, pk_un])⟩, rfl⟩
    rw [f2, ← p2]
    simp (disch := decide) only [up_c, kp_up_eq, pk_us, pk_un]
  · obtain ⟨rfl, rfl⟩ := c4 hc
    obtain ⟨f1, rfl⟩ := m4 hc
    exact ⟨RR_0 h m1 f1, rfl⟩
theorem pp_habit {b : Nat} {σ τ σ' τ' : Sg} {c s w r r' : Int32} (h : RR b σ τ) (hC : po_X9_habit [.ref 0, .int c, .int s, .int w] σ r σ') (hM : po_X10_habit [.ref 0, .int c, .int s, .int w] τ r' τ') : RR b σ' τ' ∧ r = r' := by
  obtain ⟨hI, hJ, a0, aa, ak, at1, ⟨p1, p2, p3, p4⟩, aw⟩ := id h
  obtain ⟨c1, c3, c4⟩ := hC
  obtain ⟨m1, m3, m4⟩ := hM
  by_cases hc : isCx (nI 40) c = true ∧ inR s (nI 0) (nI 240) = true ∧ inR w (nI 0) (nI 10000) = true
  · obtain ⟨rfl, rfl⟩ := c3 hc
    obtain ⟨f1, f2, f3, rfl⟩ := m3 hc
    have hfr : fr [21, 22, 23] σ (kp_up (kp_up (kp_up σ 21 (tn c) s) 22 (tn c) w) 23 5 (nI 0)) := fr_up (fr_up (fr_up fr_rf (by decide)) (by decide)) (by decide)
    refine ⟨⟨c1, m1, by rw [(ts_f hfr f1 (by decide) (by decide) (by decide)).1]; exact a0, RA_f aa hfr f1 (by decide) (by decide) (by decide), RK_f ak hfr f1 (by decide) (by decide) (by decide), RT_f at1 hfr f1 (by decide) (by decide) (by decide), ⟨by rw [hfr 19 (by decide), f1.1 11 (by decide) (by decide)]; exact p1, by rw [hfr 20 (by decide), f1.1 12 (by decide) (by decide)]; exact p2, ?_, ?_⟩, RW_f aw hfr f1 (by decide) (by decide) (by decide) (by simp (disch := decide) only [up_c, kp_up_eq, pk_us, pk_un]) (by simp (disch := decide) only [up_c, kp_up_eq, pk_us, pk_un])⟩, rfl⟩
    · rw [f2, ← p3]
      simp (disch := decide) only [up_c, kp_up_eq, pk_us, pk_un]
    · rw [f3, ← p4]
      simp (disch := decide) only [up_c, kp_up_eq, pk_us, pk_un]
  · obtain ⟨rfl, rfl⟩ := c4 hc
    obtain ⟨f1, rfl⟩ := m4 hc
    exact ⟨RR_0 h m1 f1, rfl⟩
theorem pp_want {b : Nat} {σ τ σ' τ' : Sg} {c x r r' : Int32} (h : RR b σ τ) (hC : po_X9_want [.ref 0, .int c, .int x] σ r σ') (hM : po_X10_want [.ref 0, .int c, .int x] τ r' τ') : RR b σ' τ' ∧ r = r' := by
  obtain ⟨hI, hJ, a0, aa, ak, at1, ap, ⟨w1, w2, w3, w4, w5⟩⟩ := id h
  obtain ⟨c1, c3, c4⟩ := hC
  obtain ⟨m1, m3, m4⟩ := hM
  have en : nwC σ = nwM τ := by show tn (σ 23 2) = tn (τ 0 10); rw [w4]
  rw [en, aa.1, w1] at c3 c4
  by_cases hc : isCx (nI 40) c = true ∧ isCx (τ 0 2) x = true ∧ nwM τ < 6 ∧ (∀ j, j < nwM τ → τ 15 j ≠ c)
  · obtain ⟨rfl, rfl⟩ := c3 hc
    obtain ⟨f1, f2, f3, f4, rfl⟩ := m3 hc
    have hfr : fr [23, 24, 25] σ (kp_up (kp_up (kp_up (kp_up σ 24 (nwM τ) c) 25 (nwM τ) x) 23 2 (nI (nwM τ + 1))) 23 5 (nI 0)) := fr_up (fr_up (fr_up (fr_up fr_rf (by decide)) (by decide)) (by decide)) (by decide)
    refine ⟨⟨c1, m1, by rw [(ts_f hfr f1 (by decide) (by decide) (by decide)).1]; exact a0, RA_f aa hfr f1 (by decide) (by decide) (by decide), RK_f ak hfr f1 (by decide) (by decide) (by decide), RT_f at1 hfr f1 (by decide) (by decide) (by decide), RP_f ap hfr f1 (by decide) (by decide), ⟨?_, ?_, ?_, ?_, ?_⟩⟩, rfl⟩
    · rw [f2, ← w1]
      simp (disch := decide) only [up_c, kp_up_eq, pk_us, pk_un]
    · rw [f3, ← w2]
      simp (disch := decide) only [up_c, kp_up_eq, pk_us, pk_un]
    · rw [hfr 26 (by decide), f1.1 17 (by decide) (by decide)]; exact w3
    · rw [f4]
      simp (disch := decide) only [up_c, kp_up_eq, pk_us, pk_un]
    · rw [f1.2 11 (by decide), ← w5]
      simp (disch := decide) only [up_c, kp_up_eq, pk_us, pk_un]
  · obtain ⟨rfl, rfl⟩ := c4 hc
    obtain ⟨f1, rfl⟩ := m4 hc
    exact ⟨RR_0 h m1 f1, rfl⟩
theorem pp_offer {b : Nat} {σ τ σ' τ' : Sg} {s r r' : Int32} (h : RR b σ τ) (hC : po_X9_offer [.ref 0, .int s] σ r σ') (hM : po_X10_offer [.ref 0, .int s] τ r' τ') : RR b σ' τ' ∧ r = r' := by
  obtain ⟨hI, hJ, a0, aa, ak, at1, ap, ⟨w1, w2, w3, w4, w5⟩⟩ := id h
  obtain ⟨c1, c3, c4⟩ := hC
  obtain ⟨m1, m3, m4⟩ := hM
  have en : noC σ = noM τ := by show tn (σ 23 4) = tn (τ 0 11); rw [w5]
  rw [en, w3] at c3 c4
  by_cases hc : isSt s = true ∧ noM τ < 8 ∧ (∀ j, j < noM τ → τ 17 j ≠ s)
  · obtain ⟨rfl, rfl⟩ := c3 hc
    obtain ⟨f1, f2, f3, rfl⟩ := m3 hc
    have hfr : fr [23, 26] σ (kp_up (kp_up (kp_up σ 26 (noM τ) s) 23 4 (nI (noM τ + 1))) 23 5 (nI 0)) := fr_up (fr_up (fr_up fr_rf (by decide)) (by decide)) (by decide)
    refine ⟨⟨c1, m1, by rw [(ts_f hfr f1 (by decide) (by decide) (by decide)).1]; exact a0, RA_f aa hfr f1 (by decide) (by decide) (by decide), RK_f ak hfr f1 (by decide) (by decide) (by decide), RT_f at1 hfr f1 (by decide) (by decide) (by decide), RP_f ap hfr f1 (by decide) (by decide), ⟨?_, ?_, ?_, ?_, ?_⟩⟩, rfl⟩
    · rw [hfr 24 (by decide), f1.1 15 (by decide) (by decide)]; exact w1
    · rw [hfr 25 (by decide), f1.1 16 (by decide) (by decide)]; exact w2
    · rw [f2, ← w3]
      simp (disch := decide) only [up_c, kp_up_eq, pk_us, pk_un]
    · rw [f1.2 10 (by decide), ← w4]
      simp (disch := decide) only [up_c, kp_up_eq, pk_us, pk_un]
    · rw [f3]
      simp (disch := decide) only [up_c, kp_up_eq, pk_us, pk_un]
  · obtain ⟨rfl, rfl⟩ := c4 hc
    obtain ⟨f1, rfl⟩ := m4 hc
    exact ⟨RR_0 h m1 f1, rfl⟩
theorem pp_clear {b : Nat} {σ τ σ' τ' : Sg} {r r' : Int32} (h : RR b σ τ) (hC : po_X9_clear [.ref 0] σ r σ') (hM : po_X10_clear [.ref 0] τ r' τ') : RR b σ' τ' := by
  obtain ⟨hI, hJ, a0, aa, ak, at1, ap, ⟨w1, w2, w3, w4, w5⟩⟩ := id h
  obtain ⟨c1, rfl⟩ := hC
  obtain ⟨m1, f1, f2, f3⟩ := hM
  have hfr : fr [23] σ (kp_up (kp_up (kp_up σ 23 2 (nI 0)) 23 4 (nI 0)) 23 5 (nI 0)) := fr_up (fr_up (fr_up fr_rf (by decide)) (by decide)) (by decide)
  refine ⟨c1, m1, by rw [(ts_f hfr f1 (by decide) (by decide) (by decide)).1]; exact a0, RA_f aa hfr f1 (by decide) (by decide) (by decide), RK_f ak hfr f1 (by decide) (by decide) (by decide), RT_f at1 hfr f1 (by decide) (by decide) (by decide), RP_f ap hfr f1 (by decide) (by decide), ⟨?_, ?_, ?_, ?_, ?_⟩⟩
  · rw [hfr 24 (by decide), f1.1 15 (by decide) (by decide)]; exact w1
  · rw [hfr 25 (by decide), f1.1 16 (by decide) (by decide)]; exact w2
  · rw [hfr 26 (by decide), f1.1 17 (by decide) (by decide)]; exact w3
  · rw [f2]
    simp (disch := decide) only [up_c, kp_up_eq, pk_us, pk_un]
  · rw [f3]
    simp (disch := decide) only [up_c, kp_up_eq, pk_us, pk_un]
theorem pp_cheapest {b : Nat} {σ τ σ' τ' : Sg} {r r' : Int32} (h : RR b σ τ) (hC : po_X9_cheapest [.ref 0] σ r σ') (hM : po_X10_cheapest [.ref 0] τ r' τ') : RR b σ' τ' ∧ r = r' := by
  obtain ⟨c1, c2, c3, c4, rfl⟩ := hC
  obtain ⟨m1, m2, rfl⟩ := hM
  exact ⟨RR_f h c1 m1 c2 m2 (by decide) (by decide) (by decide) c3 c4, by rw [RS_same h]⟩
theorem pp_assigned {b : Nat} {σ τ σ' τ' : Sg} {i r r' : Int32} (h : RR b σ τ) (hC : po_X9_assigned [.ref 0, .int i] σ r σ') (hM : po_X10_assigned [.ref 0, .int i] τ r' τ') : RR b σ' τ' ∧ r = r' := by
  obtain ⟨c1, c2, c3, c4, rfl⟩ := hC
  obtain ⟨m1, m2, rfl⟩ := hM
  exact ⟨RR_f h c1 m1 c2 m2 (by decide) (by decide) (by decide) c3 c4, by rw [RS_same h]⟩
theorem pp_broken {b : Nat} {σ τ σ' τ' : Sg} {r r' : Int32} (h : RR b σ τ) (hC : po_X9_broken [.ref 0] σ r σ') (hM : po_X10_broken [.ref 0] τ r' τ') : RR b σ' τ' ∧ r = r' := by
  obtain ⟨c1, c2, c3, c4, rfl⟩ := hC
  obtain ⟨m1, m2, rfl⟩ := hM
  refine ⟨RR_f h c1 m1 c2 m2 (by decide) (by decide) (by decide) c3 c4, ?_⟩
  obtain ⟨hI, hJ, a0, aa, ak, at1, ⟨p1, p2, p3, p4⟩, ⟨w1, w2, w3, w4, w5⟩⟩ := id h
  have en : nwC σ = nwM τ := by show tn (σ 23 2) = tn (τ 0 10); rw [w4]
  rw [RS_same h, en, p3, w1]
theorem ap_same {x : BS} {wc wx : Nat → Int32} {nw : Nat} {M : Nat → Int32} {Z : Nat} {M1 M2 : Nat → Int32} {Z1 Z2 : Nat} {r1 r2 : Int32} (h1 : apP x wc wx nw M Z M1 Z1 r1) (h2 : apP x wc wx nw M Z M2 Z2 r2) : M1 = M2 ∧ Z1 = Z2 ∧ r1 = r2 := by
  cases x with
  | none =>
    obtain ⟨a1, a2, a3⟩ := h1
    obtain ⟨b1, b2, b3⟩ := h2
    exact ⟨funext (fun k => (a1 k).trans (b1 k).symm), a2.trans b2.symm, a3.trans b3.symm⟩
  | some q =>
    obtain ⟨a, b⟩ := h1
    obtain ⟨c, d⟩ := h2
    by_cases e : 120 < Z + bkN (moF (fun i => tn (wx i) * 16777216 + q.2.getD i 0) M) nw
    · obtain ⟨a1, a2, a3⟩ := a e
      obtain ⟨b1, b2, b3⟩ := c e
      exact ⟨funext (fun k => (a1 k).trans (b1 k).symm), a2.trans b2.symm, a3.trans b3.symm⟩
    · obtain ⟨a1, a2, a3⟩ := b e
      obtain ⟨b1, b2, b3⟩ := d e
      exact ⟨funext (fun k => (a1 k).trans (b1 k).symm), a2.trans b2.symm, a3.trans b3.symm⟩
theorem pp_apply {b : Nat} {σ τ σ' τ' : Sg} {r r' : Int32} (h : RR b σ τ) (hC : po_X9_apply [.ref 0] σ r σ') (hM : po_X10_apply [.ref 0] τ r' τ') : RR b σ' τ' ∧ r = r' := by
  obtain ⟨hI, hJ, a0, aa, ak, at1, ap, aw⟩ := id h
  obtain ⟨a1, a2, a3, a4⟩ := id aa
  obtain ⟨w1, w2, w3, w4, w5⟩ := id aw
  obtain ⟨c1, c2, c3, c4, c5⟩ := hC
  obtain ⟨m1, m2, m3⟩ := hM
  have en : nwC σ = nwM τ := by show tn (σ 23 2) = tn (τ 0 10); rw [w4]
  rw [RS_same h, en, w1, w2, a3, a4] at c5
  obtain ⟨e1, e2, e3⟩ := ap_same c5 m3
  refine ⟨⟨c1, m1, by rw [(ts_f c2 m2 (by decide) (by decide) (by decide)).1]; exact a0, ⟨?_, ?_, e1, e2⟩, RK_f ak c2 m2 (by decide) (by decide) (by decide), RT_f at1 c2 m2 (by decide) (by decide) (by decide), RP_f ap c2 m2 (by decide) (by decide), RW_f aw c2 m2 (by decide) (by decide) (by decide) c3 c4⟩, e3⟩
  · rw [c2 2 (by decide), m2.2 2 (by decide)]; exact a1
  · rw [c2 3 (by decide), m2.1 1 (by decide) (by decide)]; exact a2
theorem pp_keep {b : Nat} {σ τ σ' τ' : Sg} {r r' : Int32} (h : RR b σ τ) (hC : po_X9_keep [.ref 0] σ r σ') (hM : po_X10_keep [.ref 0] τ r' τ') : RR b σ' τ' := by
  obtain ⟨hI, hJ, a0, aa, ak, at1, ap, aw⟩ := id h
  obtain ⟨c1, c2, c3, c4⟩ := hC
  obtain ⟨m1, m2, m3, m4⟩ := hM
  exact ⟨c1, m1, by rw [(ts_f c2 m2 (by decide) (by decide) (by decide)).1]; exact a0, RA_f aa c2 m2 (by decide) (by decide) (by decide), ⟨by rw [c3, m3]; exact aa.2.2.1, by rw [c4, m4]; exact aa.2.2.2⟩, RT_f at1 c2 m2 (by decide) (by decide) (by decide), RP_f ap c2 m2 (by decide) (by decide), RW_f aw c2 m2 (by decide) (by decide) (by decide) (by rw [c2 23 (by decide)]) (by rw [c2 23 (by decide)])⟩
theorem pp_change {b : Nat} {σ τ σ' τ' : Sg} {i w r r' : Int32} (h : RR b σ τ) (hC : po_X9_change [.ref 0, .int i, .int w] σ r σ') (hM : po_X10_change [.ref 0, .int i, .int w] τ r' τ') : RR b σ' τ' ∧ r = r' := by
  obtain ⟨hI, hJ, a0, aa, ak, at1, ap, aw⟩ := id h
  obtain ⟨c1, c2, g, f, c3, c4, rfl⟩ := hC
  obtain ⟨m1, m2, m3, m4⟩ := hM
  refine ⟨RR_f h c1 m1 c2 m2 (by decide) (by decide) (by decide) (by rw [c2 23 (by decide)]) (by rw [c2 23 (by decide)]), ?_⟩
  rw [aa.2.2.1, ak.1] at c3 ⊢
  by_cases hh : i < nI 0 ∨ ¬ inR w (nI 0) (nI 3) = true
  · rw [m3 hh, ch_out hh]
  · have hi : ¬ i < nI 0 := fun z => hh (Or.inl z)
    have hw : inR w (nI 0) (nI 3) = true := Decidable.byContradiction (fun z => hh (Or.inr z))
    obtain ⟨g', m, lo, k1, k2⟩ := m4 hi hw
    exact (ch_same hi hw c3 k1 k2).symm
theorem pp_back {b : Nat} {σ τ σ' τ' : Sg} {r r' : Int32} (h : RR b σ τ) (hC : po_X9_back [.ref 0] σ r σ') (hM : po_X10_back [.ref 0] τ r' τ') : RR b σ' τ' ∧ r = r' := by
  obtain ⟨hI, hJ, a0, aa, ak, at1, ap, aw⟩ := id h
  obtain ⟨a1, a2, a3, a4⟩ := id aa
  obtain ⟨c1, c2, c3, c4, g, f, c5, c6, rfl⟩ := hC
  obtain ⟨m1, m2, m3, m4, g', f', m5, rfl⟩ := hM
  refine ⟨⟨c1, m1, by rw [(ts_f c2 m2 (by decide) (by decide) (by decide)).1]; exact a0, ⟨?_, ?_, by rw [c3, m3]; exact ak.1, by rw [c4, m4]; exact ak.2⟩, RK_f ak c2 m2 (by decide) (by decide) (by decide), RT_f at1 c2 m2 (by decide) (by decide) (by decide), RP_f ap c2 m2 (by decide) (by decide), RW_f aw c2 m2 (by decide) (by decide) (by decide) (by rw [c2 23 (by decide)]) (by rw [c2 23 (by decide)])⟩, ?_⟩
  · rw [c2 2 (by decide), m2.2 2 (by decide)]; exact a1
  · rw [c2 3 (by decide), m2.1 1 (by decide) (by decide)]; exact a2
  · rw [a3, ak.1] at c5
    rw [(isD_uniq c5 m5).1]
theorem pp_learn {b : Nat} {σ τ σ' τ' : Sg} {i r r' : Int32} (h : RR b σ τ) (hC : po_X9_learn [.ref 0, .int i] σ r σ') (hM : po_X10_learn [.ref 0, .int i] τ r' τ') : RR b σ' τ' ∧ r = r' := by
  obtain ⟨c1, c2, sv, c3, rfl⟩ := hC
  obtain ⟨m1, m2, rfl⟩ := hM
  refine ⟨RR_f h c1 m1 c2 m2 (by decide) (by decide) (by decide) (by rw [c2 23 (by decide)]) (by rw [c2 23 (by decide)]), ?_⟩
  exact rkd_congr (fun j hj => (svG_eq (sv_same h (by omega) (c3 j hj).2)).symm) 40 0 (by omega)
theorem pp_saves {b : Nat} {σ τ σ' τ' : Sg} {c r r' : Int32} (h : RR b σ τ) (hC : po_X9_saves [.ref 0, .int c] σ r σ') (hM : po_X10_saves [.ref 0, .int c] τ r' τ') : RR b σ' τ' ∧ r = r' := by
  obtain ⟨c1, c2, c3, c4⟩ := hC
  obtain ⟨m1, m2, m3, m4⟩ := hM
  refine ⟨RR_f h c1 m1 c2 m2 (by decide) (by decide) (by decide) (by rw [c2 23 (by decide)]) (by rw [c2 23 (by decide)]), ?_⟩
  by_cases hc : isCx (nI 40) c = true
  · obtain ⟨v, k1, k2, rfl⟩ := c3 hc
    obtain ⟨v', l1, l2, rfl⟩ := m3 hc
    rw [isSv_uniq (sv_same h (tn_lt _) k2) l2]
  · rw [c4 hc, m4 hc]
theorem pp_count {b : Nat} {σ τ σ' τ' : Sg} {w r r' : Int32} (h : RR b σ τ) (hC : po_X9_count [.ref 0, .int w] σ r σ') (hM : po_X10_count [.ref 0, .int w] τ r' τ') : RR b σ' τ' ∧ r = r' := by
  obtain ⟨hI, hJ, a0, aa, ak, at1, ap, aw⟩ := id h
  obtain ⟨c1, c2, c3, c4⟩ := hC
  obtain ⟨m1, m2, m3, m4⟩ := hM
  refine ⟨RR_f h c1 m1 c2 m2 (by decide) (by decide) (by decide) (by rw [c2 23 (by decide)]) (by rw [c2 23 (by decide)]), ?_⟩
  by_cases hc : w = nI 8
  · obtain ⟨g, f, k1, -, rfl⟩ := c3 hc
    obtain ⟨g', f', l1, rfl⟩ := m3 hc
    rw [aa.2.2.1, ak.1] at k1
    rw [(isD_uniq k1 l1).1]
  · rw [c4 hc, m4 hc]
    obtain ⟨o1, o2, o3, o4, o5⟩ := out_same h
    obtain ⟨z, hz, -⟩ := hI.1.2
    obtain ⟨z', hz', -⟩ := hJ.1.2
    have e8 : σ 4 2 = τ 0 8 := by
      have := aa.2.2.2
      obtain ⟨z, hz, hz1, -⟩ := hI.1.2
      obtain ⟨z', hz', hz1', -⟩ := hJ.1.2
      rw [hz, hz', tn_nI (by omega), tn_nI (by omega)] at this
      rw [hz, hz', this]
    have e21 : nI (rlen (tn (σ 15 7))) = τ 0 21 := by
      rw [o5, (tyM_w (by omega) hJ.2.2.1).2.1]; exact hJ.2.2.1.1.symm
    rw [aa.1, e8, e21, o1, o2, aw.2.2.2.1, aw.2.2.2.2, at1.2.1]
