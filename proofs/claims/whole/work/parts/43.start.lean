/-! the first states of both -/
def sg0 : Sg := fun c => match c with
  | 2 => fun k => match k with
    | 1 => nI 1
    | _ => nI 0
  | 3 => upd (fun _ => nI 0) 0 (-1)
  | 15 => fun k => match k with
    | 5 => nI 10
    | _ => nI 0
  | 19 => ki_fl 1 241 (nI 10)
  | 20 => ki_fl 0 40 (nI 1)
  | 23 => fun k => match k with
    | 6 => -1
    | _ => nI 0
  | _ => fun _ => nI 0
def tg0 : Sg := fun c => match c with
  | 0 => fun k => match k with
    | 2 => nI 1
    | 4 => nI 10
    | _ => nI 0
  | 1 => upd (fun _ => nI 0) 0 (-1)
  | 11 => ki_fl 0 241 (nI 10)
  | 12 => ki_fl 0 40 (nI 1)
  | _ => fun _ => nI 0
theorem n0 : nn (nI 0) ∧ tn (nI 0) = 0 := ⟨nn_nI (by omega), tn_nI (by omega)⟩
theorem ctx0 : ctxOK (upd (fun _ => nI 0) 0 (-1)) (nI 1) := ⟨1, rfl, by omega, by omega, pk_us, fun c h1 h2 => by omega⟩
theorem cst0 {a : Nat} : cstOK (ki_fl a 241 (nI 10)) (ki_fl 0 40 (nI 1)) (fun _ => nI 0) (fun _ => nI 0) := by
  have t10 : tn (nI 10) = 10 := tn_nI (by omega)
  have t1 : tn (nI 1) = 1 := tn_nI (by omega)
  refine ⟨fun s h1 h2 => ?_, fun c hc => ⟨?_, ⟨n0.1, by rw [n0.2]; omega⟩, n0.1, by rw [n0.2]; omega⟩⟩
  · unfold ki_fl
    by_cases h : a ≤ s ∧ s < 241
    · rw [if_pos h, t10]; exact ⟨nn_nI (by omega), by omega⟩
    · rw [if_neg h, n0.2]; exact ⟨n0.1, by omega⟩
  · unfold ki_fl
    by_cases h : 0 ≤ c ∧ c < 40
    · rw [if_pos h, t1]; exact ⟨nn_nI (by omega), by omega⟩
    · rw [if_neg h, n0.2]; exact ⟨n0.1, by omega⟩
theorem bOK0 {ks cs : Nat → Int32} : bOK ks cs (nI 0) := ⟨0, rfl, by omega, fun i hi => by omega, fun i j _ hj => by omega⟩
theorem mOK0 {a r c : Nat → Int32} : mOK a r c (nI 0) := ⟨0, rfl, by omega, fun i hi => by omega, fun i j hi => by omega⟩
theorem InvC0 : InvC sg0 := by
  have t10 : tn (nI 10) = 10 := tn_nI (by omega)
  have t1 : tn (nI 1) = 1 := tn_nI (by omega)
  refine ⟨⟨ctx0, bOK0⟩, bOK0, ?_, ?_, cst0, ?_, Or.inl rfl⟩
  · show nn (nI 0) ∧ lnOK (tn (nI 0)) ∧ nn (nI 0) ∧ nn (nI 0) ∧ nn (nI 0) ∧ tn (nI 0) < tn (nI 1) ∧ nn (nI 10) ∧ tn (nI 10) ≤ 100 ∧ nn (nI 0) ∧ tn (nI 0) ≤ 1000000
    rw [n0.2, t1, t10]
    exact ⟨n0.1, Or.inl rfl, n0.1, n0.1, n0.1, by omega, nn_nI (by omega), by omega, n0.1, by omega⟩
  · show rlen (tn (nI 0)) ≤ 2
    rw [n0.2]; decide
  · show nn (nI 0) ∧ tn (nI 0) ≤ 6 ∧ nn (nI 0) ∧ tn (nI 0) ≤ 8 ∧ (∀ i, i < tn (nI 0) → _) ∧ (∀ s, s < tn (nI 0) → _)
    rw [n0.2]
    exact ⟨n0.1, by omega, n0.1, by omega, fun i hi => by omega, fun i hi => by omega⟩
theorem InvM0 : InvM tg0 := by
  have t10 : tn (nI 10) = 10 := tn_nI (by omega)
  have t1 : tn (nI 1) = 1 := tn_nI (by omega)
  refine ⟨⟨ctx0, mOK0⟩, mOK0, ?_, cst0, ?_⟩
  · show nn (nI 0) ∧ tn (nI 0) ≤ 2 ∧ (∀ k, k < tn (nI 0) → _) ∧ nn (nI 0) ∧ nn (nI 0) ∧ nn (nI 0) ∧ tn (nI 0) < tn (nI 1) ∧ nn (nI 10) ∧ tn (nI 10) ≤ 100 ∧ nn (nI 0) ∧ tn (nI 0) ≤ 1000000
    rw [n0.2, t1, t10]
    exact ⟨n0.1, by omega, fun k hk => by omega, n0.1, n0.1, n0.1, by omega, nn_nI (by omega), by omega, n0.1, by omega⟩
  · show nn (nI 0) ∧ tn (nI 0) ≤ 6 ∧ nn (nI 0) ∧ tn (nI 0) ≤ 8 ∧ (∀ i, i < tn (nI 0) → _) ∧ (∀ s, s < tn (nI 0) → _)
    rw [n0.2]
    exact ⟨n0.1, by omega, n0.1, by omega, fun i hi => by omega, fun i hi => by omega⟩
theorem RR0 : RR 0 sg0 tg0 := by
  refine ⟨InvC0, InvM0, ?_, ⟨rfl, rfl, ?_, rfl⟩, ⟨?_, rfl⟩, ⟨?_, rfl, rfl, rfl⟩, ⟨fun s hs => ?_, rfl, rfl, rfl⟩, rfl, rfl, rfl, rfl, rfl⟩
  · show tn (nI 0) + tn (nI 0) + rlen (tn (nI 0)) ≤ 0
    rw [n0.2]; decide
  · funext k
    show lk _ _ (tn (nI 0)) k = lk _ _ (tn (nI 0)) k
    rw [n0.2]
    exact (lk_none (fun i hi => absurd hi (Nat.not_lt_zero _))).trans (lk_none (fun i hi => absurd hi (Nat.not_lt_zero _))).symm
  · funext k
    show lk _ _ (tn (nI 0)) k = lk _ _ (tn (nI 0)) k
    rw [n0.2]
    exact (lk_none (fun i hi => absurd hi (Nat.not_lt_zero _))).trans (lk_none (fun i hi => absurd hi (Nat.not_lt_zero _))).symm
  · show (tn (nI 0), tn (nI 0), _, _, tn (nI 0)) = (pkw _ (tn (nI 0)), tn (nI 0), _, _, tn (nI 0))
    rw [n0.2]; rfl
  · show ki_fl 1 241 (nI 10) s = ki_fl 0 241 (nI 10) s
    unfold ki_fl
    by_cases h : s < 241
    · rw [if_pos (by omega), if_pos (by omega)]
    · rw [if_neg (by omega), if_neg (by omega)]
