/-! the model's state, and its plain methods -/
/-- all but those cells, and those numbers of the model itself, stay -/
def fm (l s : List Nat) (σ τ : Sg) : Prop := (∀ c, c ≠ 0 → c ∉ l → τ c = σ c) ∧ ∀ k, k ∉ s → τ 0 k = σ 0 k
theorem fm_rf {l s : List Nat} {σ : Sg} : fm l s σ σ := ⟨fun _ _ _ => rfl, fun _ _ => rfl⟩
theorem fm_tr {l s : List Nat} {σ τ υ : Sg} (h : fm l s σ τ) (h2 : fm l s τ υ) : fm l s σ υ := ⟨fun c h0 hc => (h2.1 c h0 hc).trans (h.1 c h0 hc), fun k hk => (h2.2 k hk).trans (h.2 k hk)⟩
theorem fm_mono {l l' s s' : List Nat} {σ τ : Sg} (h : fm l s σ τ) (hs : ∀ c ∈ l, c ∈ l') (hs2 : ∀ c ∈ s, c ∈ s') : fm l' s' σ τ := ⟨fun a h0 ha => h.1 a h0 (fun q => ha (hs a q)), fun k hk => h.2 k (fun q => hk (hs2 k q))⟩
theorem fm_up0 {l s : List Nat} {σ τ : Sg} {k : Nat} {x : Int32} (h : fm l s σ τ) (hc : k ∈ s) : fm l s σ (kp_up τ 0 k x) := ⟨fun a h0 ha => by rw [up_c h0]; exact h.1 a h0 ha, fun j hj => by
  have hne : j ≠ k := fun e => hj (by rw [e]; exact hc)
  rw [up_n hne]; exact h.2 j hj⟩
theorem fm_up {l s : List Nat} {σ τ : Sg} {c k : Nat} {x : Int32} (h : fm l s σ τ) (hc : c ∈ l) (h0 : c ≠ 0) : fm l s σ (kp_up τ c k x) := ⟨fun a ha0 ha => by
  have hne : a ≠ c := fun e => ha (by rw [e]; exact hc)
  rw [up_c hne]; exact h.1 a ha0 ha, fun j hj => by rw [up_c h0.symm]; exact h.2 j hj⟩
theorem fm_0 {σ : Sg} : fm [] [0] σ (kp_up σ 0 0 (nI 0)) := fm_up0 fm_rf (by decide)
def pkw (f : Nat → Int32) : Nat → Nat
  | 0 => 0
  | n + 1 => pkw f n + tn (f n) * 256 ^ n
abbrev wM (σ : Sg) : Nat := pkw (σ 8) (tn (σ 0 21))
def tyM (b : Nat) (σ : Sg) : Prop := nn (σ 0 21) ∧ tn (σ 0 21) ≤ b ∧ (∀ k, k < tn (σ 0 21) → nn (σ 8 k) ∧ 1 ≤ tn (σ 8 k) ∧ tn (σ 8 k) ≤ 240) ∧ nn (σ 0 6) ∧ nn (σ 0 7) ∧ nn (σ 0 3) ∧ tn (σ 0 3) < tn (σ 0 2) ∧ nn (σ 0 4) ∧ tn (σ 0 4) ≤ 100 ∧ nn (σ 0 5) ∧ tn (σ 0 5) ≤ 1000000
abbrev cstM (σ : Sg) : Prop := cstOK (σ 11) (σ 12) (σ 13) (σ 14)
abbrev nwM (σ : Sg) : Nat := tn (σ 0 10)
abbrev noM (σ : Sg) : Nat := tn (σ 0 11)
def asM (σ : Sg) : Prop := nn (σ 0 10) ∧ nwM σ ≤ 6 ∧ nn (σ 0 11) ∧ noM σ ≤ 8 ∧ (∀ i, i < nwM σ → nn (σ 15 i) ∧ tn (σ 15 i) < 40 ∧ nn (σ 16 i) ∧ tn (σ 16 i) < tn (σ 0 2)) ∧ (∀ s, s < noM σ → nn (σ 17 s) ∧ 1 ≤ tn (σ 17 s) ∧ tn (σ 17 s) ≤ 240)
abbrev kOM (σ : Sg) : Prop := mOK (σ 5) (σ 6) (σ 7) (σ 0 9)
def InvM (σ : Sg) : Prop := LM σ ∧ kOM σ ∧ tyM 2 σ ∧ cstM σ ∧ asM σ
theorem LM_fm {l s : List Nat} {σ τ : Sg} (h : LM σ) (hf : fm l s σ τ) (hl : ∀ c ∈ [1, 2, 3, 4], c ∉ l) (hs : ∀ k ∈ [2, 8], k ∉ s) : LM τ ∧ mM τ = mM σ := by
  have q1 := hf.1 1 (by decide) (hl 1 (by decide))
  have q2 := hf.1 2 (by decide) (hl 2 (by decide))
  have q3 := hf.1 3 (by decide) (hl 3 (by decide))
  have q4 := hf.1 4 (by decide) (hl 4 (by decide))
  have p2 := hf.2 2 (hs 2 (by decide))
  have p8 := hf.2 8 (hs 8 (by decide))
  unfold LM mM at *
  rw [q1, q2, q3, q4, p2, p8]
  exact ⟨h, rfl⟩
theorem kOM_fm {l s : List Nat} {σ τ : Sg} (h : kOM σ) (hf : fm l s σ τ) (hl : ∀ c ∈ [5, 6, 7], c ∉ l) (hs : ∀ k ∈ [9], k ∉ s) : kOM τ ∧ kM τ = kM σ := by
  have q1 := hf.1 5 (by decide) (hl 5 (by decide))
  have q2 := hf.1 6 (by decide) (hl 6 (by decide))
  have q3 := hf.1 7 (by decide) (hl 7 (by decide))
  have p2 := hf.2 9 (hs 9 (by decide))
  unfold kOM kM at *
  rw [q1, q2, q3, p2]
  exact ⟨h, rfl⟩
theorem tyM_fm {b : Nat} {l s : List Nat} {σ τ : Sg} (h : tyM b σ) (hf : fm l s σ τ) (hl : ∀ c ∈ [8], c ∉ l) (hs : ∀ k ∈ [2, 3, 4, 5, 6, 7, 21], k ∉ s) : tyM b τ := by
  have q1 := hf.1 8 (by decide) (hl 8 (by decide))
  have p2 := hf.2 2 (hs 2 (by decide))
  have p3 := hf.2 3 (hs 3 (by decide))
  have p4 := hf.2 4 (hs 4 (by decide))
  have p5 := hf.2 5 (hs 5 (by decide))
  have p6 := hf.2 6 (hs 6 (by decide))
  have p7 := hf.2 7 (hs 7 (by decide))
  have p21 := hf.2 21 (hs 21 (by decide))
  unfold tyM at *
  rw [q1, p2, p3, p4, p5, p6, p7, p21]
  exact h
theorem cstM_fm {l s : List Nat} {σ τ : Sg} (h : cstM σ) (hf : fm l s σ τ) (hl : ∀ c ∈ [11, 12, 13, 14], c ∉ l) : cstM τ := by
  have q1 := hf.1 11 (by decide) (hl 11 (by decide))
  have q2 := hf.1 12 (by decide) (hl 12 (by decide))
  have q3 := hf.1 13 (by decide) (hl 13 (by decide))
  have q4 := hf.1 14 (by decide) (hl 14 (by decide))
  unfold cstM at *
  rw [q1, q2, q3, q4]
  exact h
theorem asM_fm {l s : List Nat} {σ τ : Sg} (h : asM σ) (hf : fm l s σ τ) (hl : ∀ c ∈ [15, 16, 17], c ∉ l) (hs : ∀ k ∈ [2, 10, 11], k ∉ s) : asM τ := by
  have q1 := hf.1 15 (by decide) (hl 15 (by decide))
  have q2 := hf.1 16 (by decide) (hl 16 (by decide))
  have q3 := hf.1 17 (by decide) (hl 17 (by decide))
  have p2 := hf.2 2 (hs 2 (by decide))
  have p10 := hf.2 10 (hs 10 (by decide))
  have p11 := hf.2 11 (hs 11 (by decide))
  unfold asM nwM noM at *
  rw [q1, q2, q3, p2, p10, p11]
  exact h
theorem InvM_fm {l s : List Nat} {σ τ : Sg} (h : InvM σ) (hf : fm l s σ τ) (hl : ∀ c ∈ [1, 2, 3, 4, 5, 6, 7, 8, 11, 12, 13, 14, 15, 16, 17], c ∉ l) (hs : ∀ k ∈ [2, 3, 4, 5, 6, 7, 8, 9, 10, 11, 21], k ∉ s) : InvM τ := by
  obtain ⟨h1, h2, h3, h4, h5⟩ := h
  refine ⟨(LM_fm h1 hf (fun c hc => hl c ?_) (fun c hc => hs c ?_)).1, (kOM_fm h2 hf (fun c hc => hl c ?_) (fun c hc => hs c ?_)).1, tyM_fm h3 hf (fun c hc => hl c ?_) (fun c hc => hs c ?_), cstM_fm h4 hf (fun c hc => hl c ?_), asM_fm h5 hf (fun c hc => hl c ?_) (fun c hc => hs c ?_)⟩
  all_goals (revert c; decide)
theorem InvM_0 {σ : Sg} (h : InvM σ) : InvM (kp_up σ 0 0 (nI 0)) := InvM_fm h fm_0 (by decide) (by decide)
def pr_X10_set : SPre := fun As σ => ∃ c : Int32, ∃ row : Int32, ∃ to : Int32, As = [.ref 0, .int c, .int row, .int to] ∧ (mOK (σ 2) (σ 3) (σ 4) (σ 0 8) ∧ (∃ x w : Nat, c = nI x ∧ x < 12 ∧ row = nI w ∧ rowOK w = true) ∧ (to = -1 ∨ ∃ v : Nat, v ≤ 40 ∧ to = nI v) ∧ (to ≠ -1 → mM σ (kyC c row) = -1 → tn (σ 0 8) < 120))
def po_X10_set : SPost := fun As σ r τ => match As with
  | [.ref _, .int c, .int row, .int to] => (mOK (τ 2) (τ 3) (τ 4) (τ 0 8) ∧ fm [2, 3, 4] [8] σ τ ∧ (∀ k, mM τ k = if k = kyC c row then to else mM σ k) ∧ tn (τ 0 8) = szp (tn (σ 0 8)) (mM σ (kyC c row)) to)
  | _ => True
def ms_X10_set : List Me := [(95, 0, 9, 2, true, pr_X10_entry, po_X10_entry)]
theorem mk_X10_set : ∀ q ∈ ms_X10_set, kp_okM layM RX10 1 q := List.forall_mem_cons.mpr ⟨Or.inl ⟨0, yX10_entry, cX10_entry, 4, (some .int), c_X10_entry, by omega, by decide, rfl, lk_X10_95⟩, fun _ h => absurd h List.not_mem_nil⟩
set_option maxRecDepth 100000 in
theorem v_X10_set {J : Nat → Lcl → List Value → Sg → Prop} {Q : Int32 → Sg → Prop} (c row to : Int32) (σ : Sg) (h : pr_X10_entry [.ref 0, .int c, .int row] σ ∧ ∀ (x2 : Int32) (τ1 : Sg), po_X10_entry [.ref 0, .int c, .int row] σ x2 τ1 → ((¬ to = (-1) → (¬ x2 = (-1) → vp_in x2 120 ∧ (Q (nI 0) (kp_up τ1 4 (x2).toNatClampNeg to))) ∧ (x2 = (-1) → vp_in (τ1 0 8) 120 ∧ (vp_in (τ1 0 8) 120 ∧ (vp_in (τ1 0 8) 120 ∧ (Q (nI 0) (kp_up (kp_up (kp_up (kp_up τ1 0 8 ((τ1 0 8) + (nI 1))) 2 (τ1 0 8).toNatClampNeg c) 3 (τ1 0 8).toNatClampNeg row) 4 (τ1 0 8).toNatClampNeg to)))))) ∧ (to = (-1) → (¬ x2 = (-1) → J 34 [some (.ref 0), some (.int c), some (.int row), some (.int to), some (.int x2), some (.int x2)] [] (kp_up τ1 0 8 ((τ1 0 8) - (nI 1)))) ∧ (x2 = (-1) → Q (nI 0) τ1)))) : kp_T layM gl_X10 pl_X10 (ms_X10_set) tb_X10_set (kp_rk none) J Q 90 tb_X10_set (kp_en [.ref 0, .int c, .int row, .int to] 6) [] σ := h
set_option maxRecDepth 100000 in
theorem v_X10_set_34 {J : Nat → Lcl → List Value → Sg → Prop} {Q : Int32 → Sg → Prop} (c row to k i : Int32) (σ : Sg) (h : (¬ i < (σ 0 8) → Q (nI 0) σ) ∧ (i < (σ 0 8) → vp_in (i + (nI 1)) 120 ∧ (vp_in i 120 ∧ (vp_in (i + (nI 1)) 120 ∧ (vp_in i 120 ∧ (vp_in (i + (nI 1)) 120 ∧ (vp_in i 120 ∧ (J 34 [some (.ref 0), some (.int c), some (.int row), some (.int to), some (.int k), some (.int (i + nI 1))] [] (kp_up (kp_up (kp_up σ 2 (i).toNatClampNeg (σ 2 (i + (nI 1)).toNatClampNeg)) 3 (i).toNatClampNeg ((kp_up σ 2 (i).toNatClampNeg (σ 2 (i + (nI 1)).toNatClampNeg)) 3 (i + (nI 1)).toNatClampNeg)) 4 (i).toNatClampNeg ((kp_up (kp_up σ 2 (i).toNatClampNeg (σ 2 (i + (nI 1)).toNatClampNeg)) 3 (i).toNatClampNeg ((kp_up σ 2 (i).toNatClampNeg (σ 2 (i + (nI 1)).toNatClampNeg)) 3 (i + (nI 1)).toNatClampNeg)) 4 (i + (nI 1)).toNatClampNeg)))))))))) : kp_T1 layM gl_X10 pl_X10 (ms_X10_set) tb_X10_set (kp_rk none) J Q 90 34 [some (.ref 0), some (.int c), some (.int row), some (.int to), some (.int k), some (.int i)] [] σ := h
abbrev iv_X10_set : List Value → Sg → Nat → Nat → Lcl → List Value → Sg → Prop := fun As σ n pc ls st τ => pc = 34 ∧ st = [] ∧ ∃ (c row : Int32) (z p i : Nat), As = [.ref 0, .int c, .int row, .int (-1)] ∧ ls = [some (.ref 0), some (.int c), some (.int row), some (.int (-1)), some (.int (nI p)), some (.int (nI i))] ∧ σ 0 8 = nI z ∧ z ≤ 120 ∧ p ≤ i ∧ i < z ∧ n = z - i ∧ τ 0 8 = nI (z - 1) ∧ fm [2, 3, 4] [8] σ τ ∧ τ 2 = shD (σ 2) p i ∧ τ 3 = shD (σ 3) p i ∧ τ 4 = shD (σ 4) p i ∧ eK (σ 2) (σ 3) p = kyC c row
set_option maxRecDepth 100000 in
set_option maxHeartbeats 4000000 in
theorem c_X10_set : kp_Met layM 1 yX10_set cX10_set 6 none (pr_X10_set) (po_X10_set) := by
  refine kp_met (N := 90) (by decide) tk_X10_set gk_X10 pk_X10 (mk_X10_set) rfl (iv_X10_set) ?_ ?_
  · rintro As σ ⟨c, row, to, rfl, hp⟩
    refine ⟨⟨rfl, Nat.le_of_ble_eq_true rfl⟩, v_X10_set c row to σ ?_⟩
    obtain ⟨hm, ⟨x, w, rfl, hx, rfl, hw⟩, hto, hroom⟩ := hp
    obtain ⟨z, hz, hz1, h2, h3⟩ := id hm
    have ez : tn (σ 0 8) = z := by rw [hz, tn_nI (by omega)]
    have hwl := rowOK_lt hw
    have ex : tn (nI x) = x := tn_nI (by omega)
    have ew : tn (nI w) = w := tn_nI (by omega)
    refine ⟨⟨_, _, rfl, hm, x, w, rfl, hx, rfl, hwl⟩, ?_⟩
    rintro x2 τ1 ⟨rfl, h⟩
    rw [ez] at h
    have hMd : ∀ k, mM τ1 k = lk (eK (τ1 2) (τ1 3)) (τ1 4) z k := fun k => by show lk _ _ (tn (τ1 0 8)) k = _; rw [ez]
    have hcl : (τ1 0 8).toNatClampNeg = z := ez
    refine ⟨fun g1 => ⟨fun g2 => ?_, fun g2 => ?_⟩, fun g1 => ⟨fun g2 => ?_, fun g2 => ?_⟩⟩
    · -- another command for it
      rcases h with ⟨p, hp, rfl, e⟩ | ⟨e, -⟩
      · have e : eK (τ1 2) (τ1 3) p = kyC (nI x) (nI w) := e
        refine ⟨(kp_in (by omega)).mpr (by omega), ?_⟩
        rw [nI_clamp (show p < 2 ^ 31 by omega)]
        obtain ⟨v, hv, rfl⟩ := hto.resolve_left g1
        refine ⟨?_, fm_up fm_rf (by decide) (by decide), fun k => ?_, ?_⟩
        · simp (disch := decide) only [up_c, kp_up_eq, pk_us, pk_un]
          refine ⟨z, hz, hz1, fun i hi => ?_, h3⟩
          obtain ⟨a1, a2, a3, a4, a5⟩ := h2 i hi
          refine ⟨a1, a2, a3, a4, ?_⟩
          by_cases q : i = p
          · rw [q, pk_us]; exact ⟨v, hv, rfl⟩
          · rw [pk_un q]; exact a5
        · rw [hMd]
          show lk (eK (kp_up τ1 4 p (nI v) 2) (kp_up τ1 4 p (nI v) 3)) (kp_up τ1 4 p (nI v) 4) (tn (kp_up τ1 4 p (nI v) 0 8)) k = _
          simp (disch := decide) only [up_c, kp_up_eq, pk_us, pk_un]
          rw [ez, ← e]
          exact lk_set (ks := eK (τ1 2) (τ1 3)) hp h3 (fun i hi => pk_un hi) pk_us k
        · simp (disch := decide) only [up_c, kp_up_eq, pk_us, pk_un]
          unfold szp
          rw [if_neg g1, if_neg ?_]
          rw [hMd, ← e, lk_at (ks := eK (τ1 2) (τ1 3)) h3 hp]
          obtain ⟨v2, hv2, ev2⟩ := (h2 p hp).2.2.2.2
          rw [ev2]; exact nI_m1 (by omega)
      · exact absurd e g2
    · -- a new one
      rcases h with ⟨p, hp, rfl, e⟩ | ⟨-, hno⟩
      · exact absurd g2 (nI_m1 (by omega))
      · have hnone : mM τ1 (kyC (nI x) (nI w)) = -1 := by rw [hMd]; exact lk_none hno
        have hlt := hroom g1 hnone
        rw [ez] at hlt
        obtain ⟨v, hv, rfl⟩ := hto.resolve_left g1
        have hin : vp_in (τ1 0 8) 120 := by rw [hz]; exact (kp_in (by omega)).mpr hlt
        refine ⟨hin, hin, hin, ?_⟩
        rw [hcl, hz, nI_add]
        have hinj : ∀ i j, i < z + 1 → j < z + 1 → eK (upd (τ1 2) z (nI x)) (upd (τ1 3) z (nI w)) i = eK (upd (τ1 2) z (nI x)) (upd (τ1 3) z (nI w)) j → i = j := by
          have eo : ∀ i, i ≠ z → eK (upd (τ1 2) z (nI x)) (upd (τ1 3) z (nI w)) i = eK (τ1 2) (τ1 3) i := fun i hi => by show tn (upd (τ1 2) z (nI x) i) * _ + tn (upd (τ1 3) z (nI w) i) = _; rw [pk_un hi, pk_un hi]
          have en : eK (upd (τ1 2) z (nI x)) (upd (τ1 3) z (nI w)) z = kyC (nI x) (nI w) := by show tn (upd (τ1 2) z (nI x) z) * _ + tn (upd (τ1 3) z (nI w) z) = _; rw [pk_us, pk_us]
          intro i j hi hj he
          by_cases q1 : i = z
          · by_cases q2 : j = z
            · omega
            · rw [q1, en, eo j q2] at he; exact absurd he.symm (hno j (by omega))
          · by_cases q2 : j = z
            · rw [q2, en, eo i q1] at he; exact absurd he (hno i (by omega))
            · rw [eo i q1, eo j q2] at he; exact h3 i j (by omega) (by omega) he
        refine ⟨?_, fm_up (fm_up (fm_up (fm_up0 fm_rf (by decide)) (by decide) (by decide)) (by decide) (by decide)) (by decide) (by decide), fun k => ?_, ?_⟩
        · simp (disch := decide) only [up_c, kp_up_eq, pk_us, pk_un]
          refine ⟨z + 1, rfl, by omega, fun i hi => ?_, hinj⟩
          by_cases q : i = z
          · rw [q, pk_us, pk_us, pk_us]; exact ⟨nn_nI (by omega), by rw [ex]; exact hx, nn_nI (by omega), by rw [ew]; exact hw, v, hv, rfl⟩
          · rw [pk_un q, pk_un q, pk_un q]; exact h2 i (by omega)
        · rw [hMd]
          show lk (eK (kp_up _ _ _ _ 2) (kp_up _ _ _ _ 3)) (kp_up _ _ _ _ 4) (tn (kp_up _ _ _ _ 0 8)) k = _
          simp (disch := decide) only [up_c, kp_up_eq, pk_us, pk_un]
          rw [tn_nI (show z + 1 < 2 ^ 31 by omega)]
          refine lk_ins (ks := eK (τ1 2) (τ1 3)) (ks' := eK (upd (τ1 2) z (nI x)) (upd (τ1 3) z (nI w))) (p := z) (Nat.le_refl _) h3 hinj (fun i hi => ⟨?_, pk_un (show i ≠ z by omega)⟩) ⟨?_, pk_us⟩ (fun i hi hi2 => by omega) k
          · show tn (upd (τ1 2) z (nI x) i) * _ + tn (upd (τ1 3) z (nI w) i) = _
            rw [pk_un (by omega), pk_un (by omega)]
          · show tn (upd (τ1 2) z (nI x) z) * _ + tn (upd (τ1 3) z (nI w) z) = _
            rw [pk_us, pk_us]
        · simp (disch := decide) only [up_c, kp_up_eq, pk_us, pk_un]
          rw [tn_nI (by omega)]
          unfold szp
          rw [if_neg g1, if_pos hnone, ez]
    · -- taken out
      rcases h with ⟨p, hp, rfl, e⟩ | ⟨e, -⟩
      · subst g1
        refine ⟨z - p, rfl, rfl, _, _, z, p, p, rfl, rfl, hz, hz1, Nat.le_refl _, hp, rfl, ?_, fm_up0 fm_rf (by decide), ?_, ?_, ?_, e⟩
        · rw [up_s, hz, pk_sub (by omega)]
        · simp (disch := decide) only [up_c, kp_up_eq, pk_us, pk_un]
          rw [shD_0]
        · simp (disch := decide) only [up_c, kp_up_eq, pk_us, pk_un]
          rw [shD_0]
        · simp (disch := decide) only [up_c, kp_up_eq, pk_us, pk_un]
          rw [shD_0]
      · exact absurd e g2
    · rcases h with ⟨p, hp, rfl, e⟩ | ⟨-, hno⟩
      · exact absurd g2 (nI_m1 (by omega))
      · have hnone : mM τ1 (kyC (nI x) (nI w)) = -1 := by rw [hMd]; exact lk_none hno
        refine ⟨hm, fm_rf, fun k => ?_, ?_⟩
        · by_cases q : k = kyC (nI x) (nI w)
          · rw [if_pos q, q, hnone, g1]
          · rw [if_neg q]
        · unfold szp
          rw [if_pos g1, if_pos hnone]
  · rintro As σ ⟨c, row, to, rfl, hp⟩ n pc ls st τ hI
    obtain ⟨hm, -⟩ := hp
    obtain ⟨rfl, rfl, c', row', z, p, i, hAs, rfl, hz, hz1, hpi, hi, rfl, h8, hfm, e2, e3, e4, hkey⟩ := hI
    cases hAs
    obtain ⟨z', hz', hzz, h2, h3⟩ := id hm
    have : z' = z := (nI_eq (by omega) (by omega)).mp (hz'.symm.trans hz)
    subst this
    have ez : tn (σ 0 8) = z' := by rw [hz, tn_nI (by omega)]
    refine v_X10_set_34 _ _ _ _ _ τ ?_
    rw [h8, nI_ltI (by omega) (by omega), nI_add, nI_clamp (show i < 2 ^ 31 by omega), nI_clamp (show i + 1 < 2 ^ 31 by omega), kp_in (by omega), kp_in (by omega)]
    refine ⟨fun g => ?_, fun g => ⟨by omega, by omega, by omega, by omega, by omega, by omega, z' - (i + 1), by omega, rfl, rfl, _, _, z', p, i + 1, rfl, rfl, hz, hz1, by omega, by omega, rfl, ?_, ?_, ?_, ?_, ?_, hkey⟩⟩
    · have ei : i = z' - 1 := by omega
      subst ei
      have hlo : ∀ i, i < p → τ 2 i = σ 2 i ∧ τ 3 i = σ 3 i ∧ τ 4 i = σ 4 i := fun i hi => by
        rw [e2, e3, e4]; simp only [shD]; rw [if_neg (by omega), if_neg (by omega), if_neg (by omega)]; exact ⟨rfl, rfl, rfl⟩
      have hhi : ∀ i, p ≤ i → i + 1 < z' → τ 2 i = σ 2 (i + 1) ∧ τ 3 i = σ 3 (i + 1) ∧ τ 4 i = σ 4 (i + 1) := fun i hi hz' => by
        rw [e2, e3, e4]; simp only [shD]; rw [if_pos (by omega), if_pos (by omega), if_pos (by omega)]; exact ⟨rfl, rfl, rfl⟩
      have klo : ∀ i, i < p → eK (τ 2) (τ 3) i = eK (σ 2) (σ 3) i := fun i hi => by show tn (τ 2 i) * _ + tn (τ 3 i) = _; rw [(hlo i hi).1, (hlo i hi).2.1]
      have khi : ∀ i, p ≤ i → i + 1 < z' → eK (τ 2) (τ 3) i = eK (σ 2) (σ 3) (i + 1) := fun i hi hz => by show tn (τ 2 i) * _ + tn (τ 3 i) = _; rw [(hhi i hi hz).1, (hhi i hi hz).2.1]
      have hinj : ∀ i j, i < z' - 1 → j < z' - 1 → eK (τ 2) (τ 3) i = eK (τ 2) (τ 3) j → i = j := by
        intro i j hi hj he
        by_cases a : i < p
        · by_cases b : j < p
          · rw [klo i a, klo j b] at he; exact h3 i j (by omega) (by omega) he
          · rw [klo i a, khi j (by omega) (by omega)] at he; have := h3 i (j + 1) (by omega) (by omega) he; omega
        · by_cases b : j < p
          · rw [khi i (by omega) (by omega), klo j b] at he; have := h3 (i + 1) j (by omega) (by omega) he; omega
          · rw [khi i (by omega) (by omega), khi j (by omega) (by omega)] at he; have := h3 (i + 1) (j + 1) (by omega) (by omega) he; omega
      refine ⟨?_, hfm, fun k => ?_, ?_⟩
      · rw [h8]
        refine ⟨z' - 1, rfl, by omega, fun i hi => ?_, hinj⟩
        by_cases a : i < p
        · rw [(hlo i a).1, (hlo i a).2.1, (hlo i a).2.2]; exact h2 i (by omega)
        · rw [(hhi i (by omega) (by omega)).1, (hhi i (by omega) (by omega)).2.1, (hhi i (by omega) (by omega)).2.2]; exact h2 (i + 1) (by omega)
      · show lk (eK (τ 2) (τ 3)) (τ 4) (tn (τ 0 8)) k = if _ then _ else lk (eK (σ 2) (σ 3)) (σ 4) (tn (σ 0 8)) k
        rw [h8, ez, tn_nI (by omega), ← hkey]
        exact lk_del (ks := eK (σ 2) (σ 3)) (ks' := eK (τ 2) (τ 3)) (by omega) h3 hinj (fun i hi => ⟨klo i hi, (hlo i hi).2.2⟩) (fun i a b => ⟨khi i a b, (hhi i a b).2.2⟩) k
      · rw [h8, tn_nI (by omega), ez]
        have : mM σ (kyC c row) ≠ -1 := by
          rw [← hkey]
          show lk (eK (σ 2) (σ 3)) (σ 4) (tn (σ 0 8)) _ ≠ _
          rw [ez, lk_at (ks := eK (σ 2) (σ 3)) h3 (by omega)]
          obtain ⟨v, hv, ev⟩ := (h2 p (by omega)).2.2.2.2
          rw [ev]; exact nI_m1 (by omega)
        unfold szp
        rw [if_pos rfl, if_neg this]
    · simp (disch := decide) only [up_c, kp_up_eq, pk_us, pk_un]
      exact h8
    · exact fm_up (fm_up (fm_up hfm (by decide) (by decide)) (by decide) (by decide)) (by decide) (by decide)
    · simp (disch := decide) only [up_c, kp_up_eq, pk_us, pk_un]
      rw [e2]; exact shD_s hpi
    · simp (disch := decide) only [up_c, kp_up_eq, pk_us, pk_un]
      rw [e3]; exact shD_s hpi
    · simp (disch := decide) only [up_c, kp_up_eq, pk_us, pk_un]
      rw [e4]; exact shD_s hpi
