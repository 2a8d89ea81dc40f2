/-! KeyPlan's own methods: contexts, map, fights, typing, costs, lists -/
def inR (x lo hi : Int32) : Bool := !decide (x < lo) && !decide (hi < x)
theorem inR_iff {x lo hi : Int32} : inR x lo hi = true ↔ ¬ x < lo ∧ ¬ hi < x := by
  unfold inR
  rw [Bool.and_eq_true]
  simp
theorem isSt_inR (x : Int32) : isSt x = inR x (nI 1) (nI 240) := rfl
theorem inR_nat {x : Int32} {a b : Nat} (ha : a < 2 ^ 31) (hb : b < 2 ^ 31) (h : inR x (nI a) (nI b) = true) : nn x ∧ a ≤ tn x ∧ tn x ≤ b := by
  obtain ⟨h1, h2⟩ := inR_iff.mp h
  have h0 : ¬ x < nI 0 := by
    rw [lt_I, nI_toInt ha] at h1
    rw [lt_I, nI_toInt (by omega)]
    omega
  have hn : nn x := (nI_tn h0).symm
  rw [(nn_lt hn ha).2] at h1
  rw [(nn_lt hn hb).1] at h2
  exact ⟨hn, by omega, by omega⟩
def InvC (σ : Sg) : Prop := LI σ ∧ bOK (σ 8) (σ 9) (σ 7 2) ∧ tyOK σ ∧ rlen (tn (σ 15 7)) ≤ 2 ∧ cstC σ ∧ asOK σ ∧ (σ 23 5 = nI 0 ∨ slv σ)
abbrev invR : List Nat := [2, 3, 4, 5, 6, 7, 8, 9, 15, 19, 20, 21, 22, 23, 24, 25, 26, 27]
theorem InvC_fr {l : List Nat} {σ τ : Sg} (h : InvC σ) (hf : fr l σ τ) (hl : ∀ c ∈ invR, c ∉ l) : InvC τ := by
  have q : ∀ c ∈ invR, τ c = σ c := fun c hc => hf c (hl c hc)
  unfold InvC LI tyOK cstC asOK slv bsC RS PT MT ofC nwC noC at *
  rw [q 2 (by decide), q 3 (by decide), q 4 (by decide), q 5 (by decide), q 6 (by decide), q 7 (by decide), q 8 (by decide), q 9 (by decide), q 15 (by decide), q 19 (by decide), q 20 (by decide), q 21 (by decide), q 22 (by decide), q 23 (by decide), q 24 (by decide), q 25 (by decide), q 26 (by decide), q 27 (by decide)]
  exact h
theorem wthn_congr {o o' : Nat → Int32} {nn : Int32} (h : ctxOK o nn) (ho : ∀ c, c < tn nn → o' c = o c) : ∀ (f c d : Nat), c < tn nn → wthn o' f c d = wthn o f c d
  | 0, _, _, _ => rfl
  | f + 1, c, d, hc => by
    rw [wthn_s, wthn_s, ho c hc]
    obtain ⟨n, rfl, hn1, hn2, h3, h4⟩ := id h
    rw [tn_nI (by omega)] at hc
    by_cases h0 : c = 0
    · subst h0; rw [h3, if_pos rfl, if_pos rfl]
    · obtain ⟨p, hp, he⟩ := h4 c (by omega) hc
      rw [he, tn_nI (by omega), wthn_congr h ho f p d (by rw [tn_nI (by omega)]; omega)]
theorem meets_congr {o o' : Nat → Int32} {nn : Int32} (h : ctxOK o nn) (ho : ∀ c, c < tn nn → o' c = o c) {c d : Nat} (hc : c < tn nn) (hd : d < tn nn) : meets o' c d = meets o c d := by
  unfold meets
  rw [wthn_congr h ho 12 c d hc, wthn_congr h ho 12 d c hd]
def pr_X9_context : SPre := fun As σ => ∃ x : Int32, As = [.ref 0, .int x] ∧ (InvC σ)
def po_X9_context : SPost := fun As σ r τ => match As with
  | [.ref _, .int x] => (InvC τ ∧ (isCx (σ 2 1) x = true ∧ σ 2 1 < nI 12 → τ = kp_up (kp_up σ 3 (tn (σ 2 1)) x) 2 1 (σ 2 1 + nI 1) ∧ r = σ 2 1) ∧ (¬ (isCx (σ 2 1) x = true ∧ σ 2 1 < nI 12) → τ = σ ∧ r = -1))
  | _ => True
def ms_X9_context : List Me := [(66, 0, 2, 1, true, pr_X2_add, po_X2_add)]
theorem mk_X9_context : ∀ q ∈ ms_X9_context, kp_okM layC RX9 2 q := List.forall_mem_cons.mpr ⟨Or.inl ⟨1, yX2_add, cX2_add, 2, (some .int), c_X2_add, by omega, by decide, rfl, lk_X9_66⟩, fun _ h => absurd h List.not_mem_nil⟩
set_option maxRecDepth 100000 in
theorem v_X9_context {J : Nat → Lcl → List Value → Sg → Prop} {Q : Int32 → Sg → Prop} (x : Int32) (σ : Sg) (h : pr_X2_add [.ref 2, .int x] σ ∧ ∀ (x2 : Int32) (τ1 : Sg), po_X2_add [.ref 2, .int x] σ x2 τ1 → (Q x2 τ1)) : kp_T layC gl_X9 pl_X9 (ms_X9_context) tb_X9_context (kp_rk (some .int)) J Q 30 tb_X9_context (kp_en [.ref 0, .int x] 2) [] σ := h
set_option maxRecDepth 100000 in
set_option maxHeartbeats 4000000 in
theorem c_X9_context : kp_Met layC 2 yX9_context cX9_context 2 (some .int) (pr_X9_context) (po_X9_context) := by
  refine kp_met (N := 30) (by decide) tk_X9_context gk_X9 pk_X9 (mk_X9_context) rfl (fun _ _ _ _ _ _ _ => False) ?_ (fun _ _ _ _ _ _ _ _ h => h.elim)
  rintro As σ ⟨x, rfl, hp⟩
  refine ⟨⟨rfl, Nat.le_of_ble_eq_true rfl⟩, v_X9_context x σ ?_⟩
  obtain ⟨⟨hcx, hbo⟩, hkb, hty, hrl, hco, has, hsl⟩ := id hp
  refine ⟨⟨_, rfl, hcx⟩, ?_⟩
  rintro x2 τ1 ⟨h1, h2⟩
  refine ⟨?_, h1, h2⟩
  by_cases hc : isCx (σ 2 1) x = true ∧ σ 2 1 < nI 12
  · obtain ⟨rfl, -⟩ := h1 hc
    obtain ⟨n, hn, n1, n2, n3, n4⟩ := id hcx
    have en : tn (σ 2 1) = n := by rw [hn, tn_nI (by omega)]
    have hlt : n < 12 := by have := hc.2; rw [hn, nI_ltI (by omega) (by omega)] at this; exact this
    rw [hn] at hc
    obtain ⟨p, hp1, rfl⟩ := (isCx_iff (by omega)).mp hc.1
    rw [en, hn, nI_add]
    have q : ∀ c, c ≠ 2 → c ≠ 3 → kp_up (kp_up σ 3 n (nI p)) 2 1 (nI (n + 1)) c = σ c := fun c h2 h3 => by rw [up_c h2, up_c h3]
    have q2 : kp_up (kp_up σ 3 n (nI p)) 2 1 (nI (n + 1)) 2 1 = nI (n + 1) := up_s
    have q3 : kp_up (kp_up σ 3 n (nI p)) 2 1 (nI (n + 1)) 3 = upd (σ 3) n (nI p) := by rw [up_c (by decide), kp_up_eq]
    have e2 : tn (nI (n + 1)) = n + 1 := tn_nI (by omega)
    have hold : ∀ c, c < tn (σ 2 1) → upd (σ 3) n (nI p) c = σ 3 c := fun c hc => pk_un (by omega)
    refine ⟨⟨?_, ?_⟩, ?_, ?_, ?_, ?_, ?_, ?_⟩
    · rw [q2, q3]
      refine ⟨n + 1, rfl, by omega, by omega, by rw [pk_un (by omega)]; exact n3, fun c h1 h2 => ?_⟩
      by_cases e : c = n
      · subst e; exact ⟨p, hp1, pk_us⟩
      · rw [pk_un e]; exact n4 c h1 (by omega)
    · rw [q 4 (by decide) (by decide), q 5 (by decide) (by decide), q 6 (by decide) (by decide)]; exact hbo
    · rw [q 7 (by decide) (by decide), q 8 (by decide) (by decide), q 9 (by decide) (by decide)]; exact hkb
    · unfold tyOK
      rw [q 15 (by decide) (by decide), q2, e2]
      obtain ⟨t1, t2, t3, t4, t5, t6, t7⟩ := hty
      exact ⟨t1, t2, t3, t4, t5, by omega, t7⟩
    · rw [q 15 (by decide) (by decide)]; exact hrl
    · unfold cstC
      rw [q 19 (by decide) (by decide), q 20 (by decide) (by decide), q 21 (by decide) (by decide), q 22 (by decide) (by decide)]; exact hco
    · unfold asOK nwC noC
      rw [q 23 (by decide) (by decide), q 24 (by decide) (by decide), q 25 (by decide) (by decide), q 26 (by decide) (by decide), q2, e2]
      obtain ⟨s1, s2, s3, s4, s5, s6⟩ := has
      exact ⟨s1, s2, s3, s4, fun i hi => ⟨(s5 i hi).1, (s5 i hi).2.1, (s5 i hi).2.2.1, by have := (s5 i hi).2.2.2; omega⟩, s6⟩
    · refine hsl.imp (fun z => by rw [q 23 (by decide) (by decide)]; exact z) (fun z => ⟨by rw [q 23 (by decide) (by decide)]; exact z.1, ?_⟩)
      have e1 : bsC (kp_up (kp_up σ 3 n (nI p)) 2 1 (nI (n + 1))) = bsC σ := bsC_congr (by rw [q 23 (by decide) (by decide)]) (by rw [q 23 (by decide) (by decide)]) (q 27 (by decide) (by decide))
      rw [e1, z.2]
      unfold RS nwC noC PT MT ofC
      rw [q 23 (by decide) (by decide), q 24 (by decide) (by decide), q 25 (by decide) (by decide), q 26 (by decide) (by decide), q 19 (by decide) (by decide), q 20 (by decide) (by decide), q 21 (by decide) (by decide), q 22 (by decide) (by decide), q3]
      obtain ⟨s1, s2, s3, s4, s5, s6⟩ := has
      refine gv_congr (fun _ _ _ _ => rfl) (fun i j hi hj => ?_) (fun _ _ => rfl) _ 0 _ _ _ _ (by omega) (fun j hj => by omega)
      exact (meets_congr hcx hold (s5 i hi).2.2.2 (s5 j (by show j < tn (σ 23 2); have : i < tn (σ 23 2) := hi; omega)).2.2.2).symm
  · obtain ⟨rfl, -⟩ := h2 hc
    exact hp
abbrev kyC (c r : Int32) : Nat := tn c * 16777216 + tn r
theorem cx_row {σ : Sg} (hcx : ctxOK (σ 3) (σ 2 1)) {c r : Int32} (h1 : isCx (σ 2 1) c = true) (h2 : isRw r = true) : (∃ a b : Nat, c = nI a ∧ a < 12 ∧ a < tn (σ 2 1) ∧ r = nI b ∧ rowOK b = true ∧ b < 16777216 ∧ tn c = a ∧ tn r = b ∧ keyOK (kyC c r)) := by
  obtain ⟨n, hn, n1, n2, -, -⟩ := hcx
  rw [hn] at h1
  obtain ⟨a, ha, rfl⟩ := (isCx_iff (by omega)).mp h1
  obtain ⟨b, rfl, hb⟩ := isRw_spec h2
  have hlt := rowOK_lt hb
  have e1 : tn (nI a) = a := tn_nI (by omega)
  have e2 : tn (nI b) = b := tn_nI (by omega)
  refine ⟨a, b, rfl, by omega, by rw [hn, tn_nI (by omega)]; exact ha, rfl, hb, hlt, e1, e2, ?_⟩
  unfold kyC keyOK
  rw [e1, e2]
  exact ⟨by omega, by rw [(key_div hlt).2]; exact hb⟩
def okB (σ : Sg) (c r m : Int32) : Prop := isCx (σ 2 1) c = true ∧ isRw r = true ∧ inR m (-1) (nI 40) = true ∧ ¬ (m ≠ -1 ∧ mC σ (kyC c r) = -1 ∧ ¬ tn (σ 4 2) < 120)
theorem m1_val {m : Int32} (h : inR m (-1) (nI 40) = true) : m = -1 ∨ ∃ v : Nat, v ≤ 40 ∧ m = nI v := by
  obtain ⟨h1, h2⟩ := inR_iff.mp h
  rw [lt_I] at h1 h2
  rw [nI_toInt (by omega)] at h2
  have e : (-1 : Int32).toInt = -1 := by decide
  rw [e] at h1
  by_cases h0 : m.toInt = -1
  · exact Or.inl (eq_I.mpr (by rw [h0, e]))
  · refine Or.inr ⟨m.toInt.toNat, by omega, eq_I.mpr ?_⟩
    rw [nI_toInt (by omega)]; omega
def pr_X9_bind : SPre := fun As σ => ∃ c : Int32, ∃ row : Int32, ∃ m : Int32, As = [.ref 0, .int c, .int row, .int m] ∧ (InvC σ)
def po_X9_bind : SPost := fun As σ r τ => match As with
  | [.ref _, .int c, .int row, .int m] => (InvC τ ∧ fr [4, 5, 6] σ τ ∧ (okB σ c row m → r = mC σ (kyC c row) ∧ (∀ k, mC τ k = if k = kyC c row then m else mC σ k) ∧ tn (τ 4 2) = szp (tn (σ 4 2)) (mC σ (kyC c row)) m) ∧ (¬ okB σ c row m → τ = σ ∧ r = -2))
  | _ => True
def ms_X9_bind : List Me := [(72, 0, 2, 1, true, pr_X2_hold, po_X2_hold), (76, 1, 0, 1, true, pr_X7_isRow, po_X7_isRow), (81, 1, 1, 2, true, pr_X1_key, po_X1_key), (88, 0, 1, 1, true, pr_X1_at, po_X1_at), (95, 0, 1, 2, false, pr_X1_put, po_X1_put)]
theorem mk_X9_bind : ∀ q ∈ ms_X9_bind, kp_okM layC RX9 2 q := List.forall_mem_cons.mpr ⟨Or.inl ⟨0, yX2_hold, cX2_hold, 2, (some .boolean), c_X2_hold, by omega, by decide, rfl, lk_X9_72⟩, List.forall_mem_cons.mpr ⟨Or.inl ⟨1, yX7_isRow, cX7_isRow, 4, (some .boolean), c_X7_isRow, by omega, by decide, rfl, lk_X9_76⟩, List.forall_mem_cons.mpr ⟨Or.inl ⟨0, yX1_key, cX1_key, 2, (some .int), c_X1_key, by omega, by decide, rfl, lk_X9_81⟩, List.forall_mem_cons.mpr ⟨Or.inl ⟨1, yX1_at, cX1_at, 3, (some .int), c_X1_at, by omega, by decide, rfl, lk_X9_88⟩, List.forall_mem_cons.mpr ⟨Or.inl ⟨1, yX1_put, cX1_put, 5, none, c_X1_put, by omega, by decide, rfl, lk_X9_95⟩, fun _ h => absurd h List.not_mem_nil⟩⟩⟩⟩⟩
set_option maxRecDepth 100000 in
theorem v_X9_bind {J : Nat → Lcl → List Value → Sg → Prop} {Q : Int32 → Sg → Prop} (c row m : Int32) (σ : Sg) (h : pr_X2_hold [.ref 2, .int c] σ ∧ ∀ (x2 : Int32) (τ1 : Sg), po_X2_hold [.ref 2, .int c] σ x2 τ1 → ((x2 = (nI 0) → Q (-2) τ1) ∧ (¬ x2 = (nI 0) → pr_X7_isRow [.int row] τ1 ∧ ∀ (x4 : Int32) (τ3 : Sg), po_X7_isRow [.int row] τ1 x4 τ3 → ((x4 = (nI 0) → Q (-2) τ3) ∧ (¬ x4 = (nI 0) → (m < (-1) → Q (-2) τ3) ∧ (¬ m < (-1) → (¬ (nI 40) < m → pr_X1_key [.int c, .int row] τ3 ∧ ∀ (x6 : Int32) (τ5 : Sg), po_X1_key [.int c, .int row] τ3 x6 τ5 → (pr_X1_at [.ref 4, .int x6] τ5 ∧ ∀ (x8 : Int32) (τ7 : Sg), po_X1_at [.ref 4, .int x6] τ5 x8 τ7 → ((m = (-1) → pr_X1_put [.ref 4, .int x6, .int m] τ7 ∧ ∀ (τ9 : Sg), po_X1_put [.ref 4, .int x6, .int m] τ7 (nI 0) τ9 → (Q x8 τ9)) ∧ (¬ m = (-1) → (¬ x8 = (-1) → pr_X1_put [.ref 4, .int x6, .int m] τ7 ∧ ∀ (τ10 : Sg), po_X1_put [.ref 4, .int x6, .int m] τ7 (nI 0) τ10 → (Q x8 τ10)) ∧ (x8 = (-1) → ((τ7 4 2) < (nI 120) → pr_X1_put [.ref 4, .int x6, .int m] τ7 ∧ ∀ (τ11 : Sg), po_X1_put [.ref 4, .int x6, .int m] τ7 (nI 0) τ11 → (Q x8 τ11)) ∧ (¬ (τ7 4 2) < (nI 120) → Q (-2) τ7)))))) ∧ ((nI 40) < m → Q (-2) τ3))))))) : kp_T layC gl_X9 pl_X9 (ms_X9_bind) tb_X9_bind (kp_rk (some .int)) J Q 54 tb_X9_bind (kp_en [.ref 0, .int c, .int row, .int m] 6) [] σ := h
set_option maxRecDepth 100000 in
set_option maxHeartbeats 4000000 in
theorem c_X9_bind : kp_Met layC 2 yX9_bind cX9_bind 6 (some .int) (pr_X9_bind) (po_X9_bind) := by
  refine kp_met (N := 54) (by decide) tk_X9_bind gk_X9 pk_X9 (mk_X9_bind) rfl (fun _ _ _ _ _ _ _ => False) ?_ (fun _ _ _ _ _ _ _ _ h => h.elim)
  rintro As σ ⟨c, row, m, rfl, hp⟩
  refine ⟨⟨rfl, Nat.le_of_ble_eq_true rfl⟩, v_X9_bind c row m σ ?_⟩
  obtain ⟨⟨hcx, hbo⟩, hkb, hty, hrl, hco, has, hsl⟩ := id hp
  obtain ⟨z, hz, hz1, -, -⟩ := id hbo
  have ez : tn (σ 4 2) = z := by rw [hz, tn_nI (by omega)]
  have hno : ¬ okB σ c row m → InvC σ ∧ fr [4, 5, 6] σ σ ∧ (okB σ c row m → (-2 : Int32) = mC σ (kyC c row) ∧ (∀ k, mC σ k = if k = kyC c row then m else mC σ k) ∧ tn (σ 4 2) = szp (tn (σ 4 2)) (mC σ (kyC c row)) m) ∧ (¬ okB σ c row m → σ = σ ∧ (-2 : Int32) = -2) := fun h => ⟨hp, fr_rf, fun q => absurd q h, fun _ => ⟨rfl, rfl⟩⟩
  refine ⟨⟨_, rfl, trivial⟩, ?_⟩
  rintro x2 τ1 ⟨rfl, rfl⟩
  rw [bI_0]
  refine ⟨fun h1 => hno (fun z => by have q := z.1; rw [h1] at q; cases q), fun h1 => ⟨⟨_, rfl, trivial⟩, ?_⟩⟩
  have h1 : isCx (τ1 2 1) c = true := by simpa using h1
  rintro x4 τ3 ⟨rfl, rfl⟩
  rw [bI_0]
  refine ⟨fun h2 => hno (fun z => by have q := z.2.1; rw [h2] at q; cases q), fun h2 => ⟨fun h3 => hno (fun z => (inR_iff.mp z.2.2.1).1 h3), fun h3 => ⟨fun h4 => ?_, fun h4 => hno (fun z => (inR_iff.mp z.2.2.1).2 h4)⟩⟩⟩
  have h2 : isRw row = true := by simpa using h2
  have hm : inR m (-1) (nI 40) = true := inR_iff.mpr ⟨h3, h4⟩
  obtain ⟨a, b, rfl, ha, ha2, rfl, hb, hb2, ea, eb, hk⟩ := cx_row hcx h1 h2
  have hkl := keyOK_lt hk
  refine ⟨⟨_, _, rfl, a, b, rfl, ha, rfl, hb2⟩, ?_⟩
  rintro x6 τ5 ⟨rfl, rfl⟩
  have e6 : tn (nI (kyC (nI a) (nI b))) = kyC (nI a) (nI b) := tn_nI (by omega)
  refine ⟨⟨4, _, rfl, Or.inl rfl, hbo, kyC (nI a) (nI b), rfl, by omega⟩, ?_⟩
  rintro x8 τ7 ⟨rfl, rfl⟩
  rw [e6]
  have hput : (m ≠ -1 → mC τ7 (kyC (nI a) (nI b)) = -1 → tn (τ7 4 2) < 120) → pr_X1_put [.ref 4, .int (nI (kyC (nI a) (nI b))), .int m] τ7 ∧ ∀ (τ9 : Sg), po_X1_put [.ref 4, .int (nI (kyC (nI a) (nI b))), .int m] τ7 (nI 0) τ9 → po_X9_bind [.ref 0, .int (nI a), .int (nI b), .int m] τ7 (mC τ7 (kyC (nI a) (nI b))) τ9 := by
    intro hr
    refine ⟨⟨_, _, rfl, hbo, ⟨_, rfl, hk⟩, m1_val hm, by rw [e6]; exact hr⟩, ?_⟩
    rintro τ9 ⟨p1, p2, p3, p4⟩
    rw [e6] at p3 p4
    have hI : InvC τ9 := by
      have q : ∀ c, c ≠ 4 → c ≠ 5 → c ≠ 6 → τ9 c = τ7 c := fun c h1 h2 h3 => p2 c (by simp [h1, h2, h3])
      unfold InvC LI tyOK cstC asOK slv bsC RS PT MT ofC nwC noC at *
      rw [q 2 (by decide) (by decide) (by decide), q 3 (by decide) (by decide) (by decide), q 7 (by decide) (by decide) (by decide), q 8 (by decide) (by decide) (by decide), q 9 (by decide) (by decide) (by decide), q 15 (by decide) (by decide) (by decide), q 19 (by decide) (by decide) (by decide), q 20 (by decide) (by decide) (by decide), q 21 (by decide) (by decide) (by decide), q 22 (by decide) (by decide) (by decide), q 23 (by decide) (by decide) (by decide), q 24 (by decide) (by decide) (by decide), q 25 (by decide) (by decide) (by decide), q 26 (by decide) (by decide) (by decide), q 27 (by decide) (by decide) (by decide)]
      exact ⟨⟨hp.1.1, p1⟩, hp.2⟩
    exact ⟨hI, p2, fun _ => ⟨rfl, p3, p4⟩, fun h => absurd ⟨h1, h2, hm, fun ⟨q1, q2, q3⟩ => q3 (hr q1 q2)⟩ h⟩
  refine ⟨fun h5 => hput (fun z => absurd h5 z), fun h5 => ⟨fun h6 => hput (fun _ z => absurd z h6), fun h6 => ⟨fun h7 => hput (fun _ _ => ?_), fun h7 => hno (fun q => q.2.2.2 ⟨h5, h6, ?_⟩)⟩⟩⟩
  · rw [hz, nI_ltI (by omega) (by omega)] at h7; omega
  · rw [hz, nI_ltI (by omega) (by omega)] at h7; omega
def pr_X9_has : SPre := fun As σ => ∃ c : Int32, ∃ row : Int32, As = [.ref 0, .int c, .int row] ∧ (InvC σ)
def po_X9_has : SPost := fun As σ r τ => match As with
  | [.ref _, .int c, .int row] => (τ = σ ∧ (isCx (σ 2 1) c = true ∧ isRw row = true → r = mC σ (kyC c row)) ∧ (¬ (isCx (σ 2 1) c = true ∧ isRw row = true) → r = -1))
  | _ => True
def ms_X9_has : List Me := [(72, 0, 2, 1, true, pr_X2_hold, po_X2_hold), (76, 1, 0, 1, true, pr_X7_isRow, po_X7_isRow), (81, 1, 1, 2, true, pr_X1_key, po_X1_key), (88, 0, 1, 1, true, pr_X1_at, po_X1_at)]
theorem mk_X9_has : ∀ q ∈ ms_X9_has, kp_okM layC RX9 2 q := List.forall_mem_cons.mpr ⟨Or.inl ⟨0, yX2_hold, cX2_hold, 2, (some .boolean), c_X2_hold, by omega, by decide, rfl, lk_X9_72⟩, List.forall_mem_cons.mpr ⟨Or.inl ⟨1, yX7_isRow, cX7_isRow, 4, (some .boolean), c_X7_isRow, by omega, by decide, rfl, lk_X9_76⟩, List.forall_mem_cons.mpr ⟨Or.inl ⟨0, yX1_key, cX1_key, 2, (some .int), c_X1_key, by omega, by decide, rfl, lk_X9_81⟩, List.forall_mem_cons.mpr ⟨Or.inl ⟨1, yX1_at, cX1_at, 3, (some .int), c_X1_at, by omega, by decide, rfl, lk_X9_88⟩, fun _ h => absurd h List.not_mem_nil⟩⟩⟩⟩
set_option maxRecDepth 100000 in
theorem v_X9_has {J : Nat → Lcl → List Value → Sg → Prop} {Q : Int32 → Sg → Prop} (c row : Int32) (σ : Sg) (h : pr_X2_hold [.ref 2, .int c] σ ∧ ∀ (x2 : Int32) (τ1 : Sg), po_X2_hold [.ref 2, .int c] σ x2 τ1 → ((x2 = (nI 0) → Q (-1) τ1) ∧ (¬ x2 = (nI 0) → pr_X7_isRow [.int row] τ1 ∧ ∀ (x4 : Int32) (τ3 : Sg), po_X7_isRow [.int row] τ1 x4 τ3 → ((¬ x4 = (nI 0) → pr_X1_key [.int c, .int row] τ3 ∧ ∀ (x6 : Int32) (τ5 : Sg), po_X1_key [.int c, .int row] τ3 x6 τ5 → (pr_X1_at [.ref 4, .int x6] τ5 ∧ ∀ (x8 : Int32) (τ7 : Sg), po_X1_at [.ref 4, .int x6] τ5 x8 τ7 → (Q x8 τ7))) ∧ (x4 = (nI 0) → Q (-1) τ3))))) : kp_T layC gl_X9 pl_X9 (ms_X9_has) tb_X9_has (kp_rk (some .int)) J Q 30 tb_X9_has (kp_en [.ref 0, .int c, .int row] 3) [] σ := h
set_option maxRecDepth 100000 in
set_option maxHeartbeats 4000000 in
theorem c_X9_has : kp_Met layC 2 yX9_has cX9_has 3 (some .int) (pr_X9_has) (po_X9_has) := by
  refine kp_met (N := 30) (by decide) tk_X9_has gk_X9 pk_X9 (mk_X9_has) rfl (fun _ _ _ _ _ _ _ => False) ?_ (fun _ _ _ _ _ _ _ _ h => h.elim)
  rintro As σ ⟨c, row, rfl, hp⟩
  refine ⟨⟨rfl, Nat.le_of_ble_eq_true rfl⟩, v_X9_has c row σ ?_⟩
  obtain ⟨⟨hcx, hbo⟩, -⟩ := id hp
  refine ⟨⟨_, rfl, trivial⟩, ?_⟩
  rintro x2 τ1 ⟨rfl, rfl⟩
  rw [bI_0]
  refine ⟨fun h1 => ⟨rfl, fun z => (by rw [h1] at z; cases z.1), fun _ => rfl⟩, fun h1 => ⟨⟨_, rfl, trivial⟩, ?_⟩⟩
  have h1 : isCx (τ1 2 1) c = true := by simpa using h1
  rintro x4 τ3 ⟨rfl, rfl⟩
  rw [bI_0]
  refine ⟨fun h2 => ?_, fun h2 => ⟨rfl, fun z => (by rw [h2] at z; cases z.2), fun _ => rfl⟩⟩
  have h2 : isRw row = true := by simpa using h2
  obtain ⟨a, b, rfl, ha, ha2, rfl, hb, hb2, ea, eb, hk⟩ := cx_row hcx h1 h2
  have hkl := keyOK_lt hk
  refine ⟨⟨_, _, rfl, a, b, rfl, ha, rfl, hb2⟩, ?_⟩
  rintro x6 τ5 ⟨rfl, rfl⟩
  have e6 : tn (nI (kyC (nI a) (nI b))) = kyC (nI a) (nI b) := tn_nI (by omega)
  refine ⟨⟨4, _, rfl, Or.inl rfl, hbo, kyC (nI a) (nI b), rfl, by omega⟩, ?_⟩
  rintro x8 τ7 ⟨rfl, rfl⟩
  rw [e6]
  exact ⟨rfl, fun _ => rfl, fun z => absurd ⟨h1, h2⟩ z⟩
def pr_X9_means : SPre := fun As σ => ∃ c : Int32, ∃ row : Int32, As = [.ref 0, .int c, .int row] ∧ (InvC σ)
def po_X9_means : SPost := fun As σ r τ => match As with
  | [.ref _, .int c, .int row] => (τ = σ ∧ (isCx (σ 2 1) c = true ∧ isRw row = true → r = mean (σ 3) (mC σ) (tn row) 12 (tn c)) ∧ (¬ (isCx (σ 2 1) c = true ∧ isRw row = true) → r = -1))
  | _ => True
def ms_X9_means : List Me := [(72, 0, 2, 1, true, pr_X2_hold, po_X2_hold), (76, 1, 0, 1, true, pr_X7_isRow, po_X7_isRow), (99, 0, 5, 2, true, pr_X5_meaning, po_X5_meaning)]
theorem mk_X9_means : ∀ q ∈ ms_X9_means, kp_okM layC RX9 3 q := List.forall_mem_cons.mpr ⟨Or.inl ⟨0, yX2_hold, cX2_hold, 2, (some .boolean), c_X2_hold, by omega, by decide, rfl, lk_X9_72⟩, List.forall_mem_cons.mpr ⟨Or.inl ⟨1, yX7_isRow, cX7_isRow, 4, (some .boolean), c_X7_isRow, by omega, by decide, rfl, lk_X9_76⟩, List.forall_mem_cons.mpr ⟨Or.inl ⟨2, yX5_meaning, cX5_meaning, 6, (some .int), c_X5_meaning, by omega, by decide, rfl, lk_X9_99⟩, fun _ h => absurd h List.not_mem_nil⟩⟩⟩
set_option maxRecDepth 100000 in
theorem v_X9_means {J : Nat → Lcl → List Value → Sg → Prop} {Q : Int32 → Sg → Prop} (c row : Int32) (σ : Sg) (h : pr_X2_hold [.ref 2, .int c] σ ∧ ∀ (x2 : Int32) (τ1 : Sg), po_X2_hold [.ref 2, .int c] σ x2 τ1 → ((x2 = (nI 0) → Q (-1) τ1) ∧ (¬ x2 = (nI 0) → pr_X7_isRow [.int row] τ1 ∧ ∀ (x4 : Int32) (τ3 : Sg), po_X7_isRow [.int row] τ1 x4 τ3 → ((¬ x4 = (nI 0) → pr_X5_meaning [.ref 1, .int c, .int row] τ3 ∧ ∀ (x6 : Int32) (τ5 : Sg), po_X5_meaning [.ref 1, .int c, .int row] τ3 x6 τ5 → (Q x6 τ5)) ∧ (x4 = (nI 0) → Q (-1) τ3))))) : kp_T layC gl_X9 pl_X9 (ms_X9_means) tb_X9_means (kp_rk (some .int)) J Q 30 tb_X9_means (kp_en [.ref 0, .int c, .int row] 3) [] σ := h
set_option maxRecDepth 100000 in
set_option maxHeartbeats 4000000 in
theorem c_X9_means : kp_Met layC 3 yX9_means cX9_means 3 (some .int) (pr_X9_means) (po_X9_means) := by
  refine kp_met (N := 30) (by decide) tk_X9_means gk_X9 pk_X9 (mk_X9_means) rfl (fun _ _ _ _ _ _ _ => False) ?_ (fun _ _ _ _ _ _ _ _ h => h.elim)
  rintro As σ ⟨c, row, rfl, hp⟩
  refine ⟨⟨rfl, Nat.le_of_ble_eq_true rfl⟩, v_X9_means c row σ ?_⟩
  obtain ⟨hL, -⟩ := id hp
  refine ⟨⟨_, rfl, trivial⟩, ?_⟩
  rintro x2 τ1 ⟨rfl, rfl⟩
  rw [bI_0]
  refine ⟨fun h1 => ⟨rfl, fun z => (by rw [h1] at z; cases z.1), fun _ => rfl⟩, fun h1 => ⟨⟨_, rfl, trivial⟩, ?_⟩⟩
  have h1 : isCx (τ1 2 1) c = true := by simpa using h1
  rintro x4 τ3 ⟨rfl, rfl⟩
  rw [bI_0]
  refine ⟨fun h2 => ?_, fun h2 => ⟨rfl, fun z => (by rw [h2] at z; cases z.2), fun _ => rfl⟩⟩
  have h2 : isRw row = true := by simpa using h2
  obtain ⟨a, b, rfl, ha, ha2, rfl, hb, hb2, ea, eb, hk⟩ := cx_row hL.1 h1 h2
  refine ⟨⟨_, _, rfl, hL, a, b, rfl, ha2, rfl, hb2⟩, ?_⟩
  rintro x6 τ5 ⟨rfl, rfl⟩
  exact ⟨rfl, fun _ => rfl, fun z => absurd ⟨h1, h2⟩ z⟩
def ftA (l : List (Nat × Nat)) (i w : Int32) : Int32 := if i < nI 0 then -1 else match l[tn i]? with
  | none => -1
  | some p => if w = nI 0 then nI p.1 else if w = nI 1 then nI p.2 else -1
def pr_X9_fight : SPre := fun As σ => ∃ c : Int32, ∃ i : Int32, ∃ w : Int32, As = [.ref 0, .int c, .int i, .int w] ∧ (InvC σ)
def po_X9_fight : SPost := fun As σ r τ => match As with
  | [.ref _, .int c, .int i, .int w] => (InvC τ ∧ fr [11, 12, 13, 14] σ τ ∧ (isCx (σ 2 1) c = true → ∃ (g : Nat → Int32) (f : Nat), isRows g f (σ 3) (mC σ) (tn c) ∧ r = ftA (FL (fun i => tn (g i)) f) i w) ∧ (¬ isCx (σ 2 1) c = true → r = -1))
  | _ => True
def ms_X9_fight : List Me := [(72, 0, 2, 1, true, pr_X2_hold, po_X2_hold), (102, 0, 4, 2, false, pr_X4_collect, po_X4_collect)]
theorem mk_X9_fight : ∀ q ∈ ms_X9_fight, kp_okM layC RX9 5 q := List.forall_mem_cons.mpr ⟨Or.inl ⟨0, yX2_hold, cX2_hold, 2, (some .boolean), c_X2_hold, by omega, by decide, rfl, lk_X9_72⟩, List.forall_mem_cons.mpr ⟨Or.inl ⟨4, yX4_collect, cX4_collect, 6, none, c_X4_collect, by omega, by decide, rfl, lk_X9_102⟩, fun _ h => absurd h List.not_mem_nil⟩⟩
set_option maxRecDepth 100000 in
theorem v_X9_fight {J : Nat → Lcl → List Value → Sg → Prop} {Q : Int32 → Sg → Prop} (c i w : Int32) (σ : Sg) (h : pr_X2_hold [.ref 2, .int c] σ ∧ ∀ (x2 : Int32) (τ1 : Sg), po_X2_hold [.ref 2, .int c] σ x2 τ1 → ((¬ x2 = (nI 0) → pr_X4_collect [.ref 11, .ref 1, .int c] τ1 ∧ ∀ (τ3 : Sg), po_X4_collect [.ref 11, .ref 1, .int c] τ1 (nI 0) τ3 → ((i < (nI 0) → Q (-1) τ3) ∧ (¬ i < (nI 0) → (i < (τ3 11 3) → (w = nI 0 → vp_in i 240 ∧ (Q (τ3 13 (i).toNatClampNeg) τ3)) ∧ (¬ w = nI 0 → (w = nI 1 → vp_in i 240 ∧ (Q (τ3 14 (i).toNatClampNeg) τ3)) ∧ (¬ w = nI 1 → Q (-1) τ3))) ∧ (¬ i < (τ3 11 3) → Q (-1) τ3)))) ∧ (x2 = (nI 0) → Q (-1) τ1))) : kp_T layC gl_X9 pl_X9 (ms_X9_fight) tb_X9_fight (kp_rk (some .int)) J Q 44 tb_X9_fight (kp_en [.ref 0, .int c, .int i, .int w] 4) [] σ := h
set_option maxRecDepth 100000 in
set_option maxHeartbeats 4000000 in
theorem c_X9_fight : kp_Met layC 5 yX9_fight cX9_fight 4 (some .int) (pr_X9_fight) (po_X9_fight) := by
  refine kp_met (N := 44) (by decide) tk_X9_fight gk_X9 pk_X9 (mk_X9_fight) rfl (fun _ _ _ _ _ _ _ => False) ?_ (fun _ _ _ _ _ _ _ _ h => h.elim)
  rintro As σ ⟨c, i, w, rfl, hp⟩
  refine ⟨⟨rfl, Nat.le_of_ble_eq_true rfl⟩, v_X9_fight c i w σ ?_⟩
  obtain ⟨hL, -⟩ := id hp
  refine ⟨⟨_, rfl, trivial⟩, ?_⟩
  rintro x2 τ1 ⟨rfl, rfl⟩
  rw [bI_0]
  refine ⟨fun h1 => ?_, fun h1 => ⟨hp, fr_rf, fun z => (by rw [h1] at z; cases z), fun _ => rfl⟩⟩
  have h1 : isCx (τ1 2 1) c = true := by simpa using h1
  obtain ⟨n, hn, n1, n2, -, -⟩ := hL.1
  have hcc : ∃ a, c = nI a ∧ a < tn (τ1 2 1) := by
    rw [hn] at h1 ⊢
    obtain ⟨a, ha, rfl⟩ := (isCx_iff (by omega)).mp h1
    exact ⟨a, rfl, by rw [tn_nI (by omega)]; exact ha⟩
  refine ⟨⟨_, rfl, hL, hcc⟩, ?_⟩
  rintro τ3 ⟨k1, g, f, k2, ⟨k3, k4⟩, k5⟩
  have hI := InvC_fr hp k1 (by decide)
  have hQ : ∀ r, r = ftA (FL (fun i => tn (g i)) f) i w → po_X9_fight [.ref 0, .int c, .int i, .int w] τ1 r τ3 := fun r h => ⟨hI, k1, fun _ => ⟨g, f, k2, h⟩, fun z => absurd h1 z⟩
  refine ⟨fun h2 => hQ _ (by unfold ftA; rw [if_pos h2]), fun h2 => ?_⟩
  have hni : nn i := (nI_tn h2).symm
  rw [k3, (nn_lt hni (show (FL (fun i => tn (g i)) f).length < 2 ^ 31 by omega)).2]
  refine ⟨fun h3 => ?_, fun h3 => hQ _ (by unfold ftA; rw [if_neg h2, List.getElem?_eq_none (by omega)])⟩
  have hget := List.getElem?_eq_getElem h3
  obtain ⟨m1, m2⟩ := k4 _ _ hget
  have hin : vp_in i 240 := by rw [hni]; exact (kp_in (tn_lt _)).mpr (by omega)
  have hcl : i.toNatClampNeg = tn i := rfl
  rw [hcl, m1, m2]
  refine ⟨fun h4 => ⟨hin, hQ _ (by unfold ftA; rw [if_neg h2, hget]; show _ = (if w = nI 0 then _ else _); rw [if_pos h4])⟩, fun h4 => ⟨fun h5 => ⟨hin, hQ _ (by unfold ftA; rw [if_neg h2, hget]; show _ = (if w = nI 0 then _ else if w = nI 1 then _ else _); rw [if_neg h4, if_pos h5])⟩, fun h5 => hQ _ (by unfold ftA; rw [if_neg h2, hget]; show _ = (if w = nI 0 then _ else if w = nI 1 then _ else _); rw [if_neg h4, if_neg h5])⟩⟩
def pr_X9_fights : SPre := fun As σ => ∃ c : Int32, As = [.ref 0, .int c] ∧ (InvC σ)
def po_X9_fights : SPost := fun As σ r τ => match As with
  | [.ref _, .int c] => (InvC τ ∧ fr [11, 12, 13, 14] σ τ ∧ (isCx (σ 2 1) c = true → ∃ (g : Nat → Int32) (f : Nat), isRows g f (σ 3) (mC σ) (tn c) ∧ r = nI (FL (fun i => tn (g i)) f).length) ∧ (¬ isCx (σ 2 1) c = true → r = -1))
  | _ => True
def ms_X9_fights : List Me := [(72, 0, 2, 1, true, pr_X2_hold, po_X2_hold), (102, 0, 4, 2, false, pr_X4_collect, po_X4_collect)]
theorem mk_X9_fights : ∀ q ∈ ms_X9_fights, kp_okM layC RX9 5 q := List.forall_mem_cons.mpr ⟨Or.inl ⟨0, yX2_hold, cX2_hold, 2, (some .boolean), c_X2_hold, by omega, by decide, rfl, lk_X9_72⟩, List.forall_mem_cons.mpr ⟨Or.inl ⟨4, yX4_collect, cX4_collect, 6, none, c_X4_collect, by omega, by decide, rfl, lk_X9_102⟩, fun _ h => absurd h List.not_mem_nil⟩⟩
set_option maxRecDepth 100000 in
theorem v_X9_fights {J : Nat → Lcl → List Value → Sg → Prop} {Q : Int32 → Sg → Prop} (c : Int32) (σ : Sg) (h : pr_X2_hold [.ref 2, .int c] σ ∧ ∀ (x2 : Int32) (τ1 : Sg), po_X2_hold [.ref 2, .int c] σ x2 τ1 → ((¬ x2 = (nI 0) → pr_X4_collect [.ref 11, .ref 1, .int c] τ1 ∧ ∀ (τ3 : Sg), po_X4_collect [.ref 11, .ref 1, .int c] τ1 (nI 0) τ3 → (Q (τ3 11 3) τ3)) ∧ (x2 = (nI 0) → Q (-1) τ1))) : kp_T layC gl_X9 pl_X9 (ms_X9_fights) tb_X9_fights (kp_rk (some .int)) J Q 30 tb_X9_fights (kp_en [.ref 0, .int c] 2) [] σ := h
set_option maxRecDepth 100000 in
set_option maxHeartbeats 4000000 in
theorem c_X9_fights : kp_Met layC 5 yX9_fights cX9_fights 2 (some .int) (pr_X9_fights) (po_X9_fights) := by
  refine kp_met (N := 30) (by decide) tk_X9_fights gk_X9 pk_X9 (mk_X9_fights) rfl (fun _ _ _ _ _ _ _ => False) ?_ (fun _ _ _ _ _ _ _ _ h => h.elim)
  rintro As σ ⟨c, rfl, hp⟩
  refine ⟨⟨rfl, Nat.le_of_ble_eq_true rfl⟩, v_X9_fights c σ ?_⟩
  obtain ⟨hL, -⟩ := id hp
  refine ⟨⟨_, rfl, trivial⟩, ?_⟩
  rintro x2 τ1 ⟨rfl, rfl⟩
  rw [bI_0]
  refine ⟨fun h1 => ?_, fun h1 => ⟨hp, fr_rf, fun z => (by rw [h1] at z; cases z), fun _ => rfl⟩⟩
  have h1 : isCx (τ1 2 1) c = true := by simpa using h1
  obtain ⟨n, hn, n1, n2, -, -⟩ := hL.1
  have hcc : ∃ a, c = nI a ∧ a < tn (τ1 2 1) := by
    rw [hn] at h1 ⊢
    obtain ⟨a, ha, rfl⟩ := (isCx_iff (by omega)).mp h1
    exact ⟨a, rfl, by rw [tn_nI (by omega)]; exact ha⟩
  refine ⟨⟨_, rfl, hL, hcc⟩, ?_⟩
  rintro τ3 ⟨k1, g, f, k2, ⟨k3, k4⟩, k5⟩
  exact ⟨InvC_fr hp k1 (by decide), k1, fun _ => ⟨g, f, k2, k3⟩, fun z => absurd h1 z⟩
def pr_X9_patience : SPre := fun As σ => ∃ t : Int32, As = [.ref 0, .int t] ∧ (InvC σ)
def po_X9_patience : SPost := fun As σ r τ => match As with
  | [.ref _, .int t] => (InvC τ ∧ (inR t (nI 0) (nI 100) = true → τ = kp_up σ 15 5 t ∧ r = nI 1) ∧ (¬ inR t (nI 0) (nI 100) = true → τ = σ ∧ r = nI 0))
  | _ => True
def ms_X9_patience : List Me := []
theorem mk_X9_patience : ∀ q ∈ ms_X9_patience, kp_okM layC RX9 0 q := fun _ h => absurd h List.not_mem_nil
set_option maxRecDepth 100000 in
theorem v_X9_patience {J : Nat → Lcl → List Value → Sg → Prop} {Q : Int32 → Sg → Prop} (t : Int32) (σ : Sg) (h : (t < (nI 0) → ((nI 0) = nI 0 ∨ (nI 0) = nI 1) ∧ Q (nI 0) σ) ∧ (¬ t < (nI 0) → (¬ (nI 100) < t → ((nI 1) = nI 0 ∨ (nI 1) = nI 1) ∧ Q (nI 1) (kp_up σ 15 5 t)) ∧ ((nI 100) < t → ((nI 0) = nI 0 ∨ (nI 0) = nI 1) ∧ Q (nI 0) σ))) : kp_T layC gl_X9 pl_X9 (ms_X9_patience) tb_X9_patience (kp_rk (some .boolean)) J Q 30 tb_X9_patience (kp_en [.ref 0, .int t] 2) [] σ := h
set_option maxRecDepth 100000 in
set_option maxHeartbeats 4000000 in
theorem c_X9_patience : kp_Met layC 0 yX9_patience cX9_patience 2 (some .boolean) (pr_X9_patience) (po_X9_patience) := by
  refine kp_met (N := 30) (by decide) tk_X9_patience gk_X9 pk_X9 (mk_X9_patience) rfl (fun _ _ _ _ _ _ _ => False) ?_ (fun _ _ _ _ _ _ _ _ h => h.elim)
  rintro As σ ⟨t, rfl, hp⟩
  refine ⟨⟨rfl, Nat.le_of_ble_eq_true rfl⟩, v_X9_patience t σ ?_⟩
  refine ⟨fun h1 => ⟨Or.inl rfl, hp, fun z => absurd h1 (inR_iff.mp z).1, fun _ => ⟨rfl, rfl⟩⟩, fun h1 => ⟨fun h2 => ⟨Or.inr rfl, ?_, fun _ => ⟨rfl, rfl⟩, fun z => absurd (inR_iff.mpr ⟨h1, h2⟩) z⟩, fun h2 => ⟨Or.inl rfl, hp, fun z => absurd h2 (inR_iff.mp z).2, fun _ => ⟨rfl, rfl⟩⟩⟩⟩
  obtain ⟨hL, hkb, hty, hrl, hco, has, hsl⟩ := id hp
  obtain ⟨w1, -, w2⟩ := inR_nat (by omega) (by omega) (inR_iff.mpr ⟨h1, h2⟩)
  have q : ∀ c, c ≠ 15 → kp_up σ 15 5 t c = σ c := fun c h => up_c h
  obtain ⟨t1, t2, t3, t4, t5, t6, t7, t8, t9, t10⟩ := hty
  unfold InvC LI tyOK cstC asOK slv bsC RS PT MT ofC nwC noC at *
  simp (disch := decide) only [up_c, kp_up_eq, pk_us, pk_un]
  exact ⟨hL, hkb, ⟨t1, t2, t3, t4, t5, t6, w1, w2, t9, t10⟩, hrl, hco, has, hsl⟩
