/-! typing: KeyPlan$Typing -/
/-- the line that waits: nothing, or a row -/
def lnOK (w : Nat) : Prop := w = 0 ∨ rowOK w = true
theorem lnOK_len {w : Nat} (h : lnOK w) : (w = 0 ∧ rlen w = 0) ∨ (rlen w = 1 ∧ 1 ≤ w ∧ w < 256) ∨ (rlen w = 2 ∧ 256 ≤ w ∧ w < 65536) ∨ (rlen w = 3 ∧ 65536 ≤ w ∧ w < 16777216) := by
  rcases h with rfl | h
  · exact Or.inl ⟨rfl, rfl⟩
  · exact Or.inr (rlen_ok h)
theorem lnOK_lt {w : Nat} (h : lnOK w) : w < 16777216 := by rcases lnOK_len h with a | a | a | a <;> omega
theorem lnOK_0 {w : Nat} (h : lnOK w) : rlen w = 0 ↔ w = 0 := by rcases lnOK_len h with a | a | a | a <;> omega
theorem rlen_of {w : Nat} (h : rowOK w = true) : (w < 256 → rlen w = 1) ∧ (256 ≤ w → w < 65536 → rlen w = 2) ∧ (65536 ≤ w → rlen w = 3) := by
  rcases rlen_ok h with a | a | a <;> omega
/-- what is left behind a beginning -/
theorem ln_drop {w l : Nat} (h : lnOK w) (h1 : 1 ≤ l) (h2 : l ≤ rlen w) : lnOK (w / 256 ^ l) ∧ rlen (w / 256 ^ l) = rlen w - l := by
  rcases h with rfl | h
  · have : rlen 0 = 0 := rfl
    omega
  · have hw := rowOK_iff.mp h
    rcases rlen_ok h with ⟨a, b⟩ | ⟨a, b⟩ | ⟨a, b⟩
    · have : l = 1 := by omega
      subst this
      rw [show w / 256 ^ 1 = 0 by omega, a]
      exact ⟨Or.inl rfl, rfl⟩
    · rcases (show l = 1 ∨ l = 2 by omega) with rfl | rfl
      · have hk : rowOK (w / 256 ^ 1) = true := rowOK_iff.mpr (by omega)
        exact ⟨Or.inr hk, by rw [(rlen_of hk).1 (by omega), a]⟩
      · rw [show w / 256 ^ 2 = 0 by omega, a]
        exact ⟨Or.inl rfl, rfl⟩
    · rcases (show l = 1 ∨ l = 2 ∨ l = 3 by omega) with rfl | rfl | rfl
      · have hk : rowOK (w / 256 ^ 1) = true := rowOK_iff.mpr (by omega)
        exact ⟨Or.inr hk, by rw [(rlen_of hk).2.1 (by omega) (by omega), a]⟩
      · have hz : w / 65536 ≠ 0 := by omega
        have hk : rowOK (w / 256 ^ 2) = true := rowOK_iff.mpr (by omega)
        exact ⟨Or.inr hk, by rw [(rlen_of hk).1 (by omega), a]⟩
      · rw [show w / 256 ^ 3 = 0 by omega, a]
        exact ⟨Or.inl rfl, rfl⟩
/-- one stroke more -/
theorem ln_add {w s : Nat} (h : lnOK w) (h2 : rlen w ≤ 2) (hs : 1 ≤ s) (hs2 : s ≤ 240) : rowOK (w + s * 256 ^ rlen w) = true ∧ rlen (w + s * 256 ^ rlen w) = rlen w + 1 := by
  rcases h with rfl | h
  · have e : rlen 0 = 0 := rfl
    rw [e]
    have hk : rowOK (0 + s * 256 ^ 0) = true := rowOK_iff.mpr (by omega)
    exact ⟨hk, (rlen_of hk).1 (by omega)⟩
  · have hw := rowOK_iff.mp h
    rcases rlen_ok h with ⟨a, b⟩ | ⟨a, b⟩ | ⟨a, b⟩
    · rw [a]
      have hk : rowOK (w + s * 256 ^ 1) = true := rowOK_iff.mpr (by omega)
      exact ⟨hk, (rlen_of hk).2.1 (by omega) (by omega)⟩
    · rw [a]
      have hk : rowOK (w + s * 256 ^ 2) = true := rowOK_iff.mpr (by omega)
      exact ⟨hk, (rlen_of hk).2.2 (by omega)⟩
    · omega
/-- the longest beginning that means something -/
def hit (o M : Nat → Int32) (c w : Nat) : Nat → Nat
  | 0 => 0
  | l + 1 => if mean o M (w % 256 ^ (l + 1)) 12 c = -1 then hit o M c w l else l + 1
theorem hit_le {o M : Nat → Int32} {c w : Nat} : ∀ l, hit o M c w l ≤ l
  | 0 => Nat.le_refl _
  | l + 1 => by
    rw [hit]
    split
    · have := hit_le (o := o) (M := M) (c := c) (w := w) l; omega
    · omega
/-- the line, how many went out, what and when, how many were lost -/
abbrev TS : Type := Nat × Nat × (Nat → Int32) × (Nat → Int32) × Nat
def onT (o M : Nat → Int32) (c : Nat) (tick : Int32) (t : TS) : TS :=
  if hit o M c t.1 (rlen t.1) = 0 then (t.1 / 256, t.2.1, t.2.2.1, t.2.2.2.1, t.2.2.2.2 + 1)
  else (t.1 / 256 ^ hit o M c t.1 (rlen t.1), t.2.1 + 1, if t.2.1 < 400 then upd t.2.2.1 t.2.1 (mean o M (t.1 % 256 ^ hit o M c t.1 (rlen t.1)) 12 c) else t.2.2.1, if t.2.1 < 400 then upd t.2.2.2.1 t.2.1 tick else t.2.2.2.1, t.2.2.2.2)
def stT (o M : Nat → Int32) (c : Nat) (tick : Int32) : Nat → TS → TS
  | 0, t => t
  | f + 1, t => if t.1 = 0 then t else stT o M c tick f (onT o M c tick t)
def liveP (o M : Nat → Int32) (c w : Nat) : Prop := mean o M w 12 c ≠ -1 ∨ opensP o M c w
noncomputable def drT (o M : Nat → Int32) (c : Nat) (tick : Int32) : Nat → TS → TS
  | 0, t => t
  | f + 1, t => if t.1 = 0 ∨ dc (liveP o M c t.1) = true then t else drT o M c tick f (onT o M c tick t)
noncomputable def fiT (o M : Nat → Int32) (c : Nat) (tick : Int32) (t : TS) : TS :=
  if t.1 ≠ 0 ∧ mean o M t.1 12 c ≠ -1 ∧ dc (opensP o M c t.1) = false then onT o M c tick t else t
def szT (t : TS) : Nat := t.2.1 + t.2.2.2.2 + rlen t.1
theorem onT_ok {o M : Nat → Int32} {c : Nat} {tick : Int32} {t : TS} (h : lnOK t.1) (h0 : t.1 ≠ 0) : lnOK (onT o M c tick t).1 ∧ rlen (onT o M c tick t).1 < rlen t.1 ∧ szT (onT o M c tick t) ≤ szT t := by
  have hl : 1 ≤ rlen t.1 := by have := lnOK_0 h; omega
  unfold onT szT
  by_cases hz : hit o M c t.1 (rlen t.1) = 0
  · rw [if_pos hz]
    obtain ⟨a, b⟩ := ln_drop (l := 1) h (by omega) hl
    rw [Nat.pow_one] at a b
    dsimp only
    exact ⟨a, by omega, by omega⟩
  · rw [if_neg hz]
    have hle := hit_le (o := o) (M := M) (c := c) (w := t.1) (rlen t.1)
    obtain ⟨a, b⟩ := ln_drop h (show 1 ≤ hit o M c t.1 (rlen t.1) by omega) hle
    dsimp only
    exact ⟨a, by omega, by omega⟩
theorem stT_ok {o M : Nat → Int32} {c : Nat} {tick : Int32} : ∀ (f : Nat) (t : TS), lnOK t.1 → lnOK (stT o M c tick f t).1 ∧ szT (stT o M c tick f t) ≤ szT t ∧ (rlen t.1 ≤ f → (stT o M c tick f t).1 = 0)
  | 0, t, h => ⟨h, Nat.le_refl _, fun z => (lnOK_0 h).mp (by have : rlen t.1 = 0 := by omega
                                                             exact this)⟩
  | f + 1, t, h => by
    rw [stT]
    by_cases h0 : t.1 = 0
    · rw [if_pos h0]; exact ⟨h, Nat.le_refl _, fun _ => h0⟩
    · rw [if_neg h0]
      obtain ⟨a, b, d⟩ := onT_ok (o := o) (M := M) (c := c) (tick := tick) h h0
      obtain ⟨a1, b1, d1⟩ := stT_ok (o := o) (M := M) (c := c) (tick := tick) f _ a
      exact ⟨a1, by omega, fun z => d1 (by omega)⟩
theorem drT_ok {o M : Nat → Int32} {c : Nat} {tick : Int32} : ∀ (f : Nat) (t : TS), lnOK t.1 → lnOK (drT o M c tick f t).1 ∧ szT (drT o M c tick f t) ≤ szT t ∧ rlen (drT o M c tick f t).1 ≤ rlen t.1 ∧ (rlen t.1 ≤ f → (drT o M c tick f t).1 = 0 ∨ liveP o M c (drT o M c tick f t).1)
  | 0, t, h => ⟨h, Nat.le_refl _, Nat.le_refl _, fun z => Or.inl ((lnOK_0 h).mp (by have : rlen t.1 = 0 := by omega
                                                                                    exact this))⟩
  | f + 1, t, h => by
    rw [drT]
    by_cases h0 : t.1 = 0 ∨ dc (liveP o M c t.1) = true
    · rw [if_pos h0]; exact ⟨h, Nat.le_refl _, Nat.le_refl _, fun _ => h0.imp id dc_iff.mp⟩
    · rw [if_neg h0]
      obtain ⟨a, b, d⟩ := onT_ok (o := o) (M := M) (c := c) (tick := tick) h (fun z => h0 (Or.inl z))
      obtain ⟨a1, b1, d1, e1⟩ := drT_ok (o := o) (M := M) (c := c) (tick := tick) f _ a
      exact ⟨a1, by omega, by omega, fun z => e1 (by omega)⟩
theorem opens_3 {o M : Nat → Int32} {c w : Nat} (h : rlen w = 3) : ¬ opensP o M c w := by
  rintro ⟨r, h1, h2, h3, -⟩
  rw [h] at h3
  exact h2 (by omega)
theorem hit_full {o M : Nat → Int32} {c w : Nat} (h : rowOK w = true) (hm : mean o M w 12 c ≠ -1) : hit o M c w (rlen w) = rlen w := by
  obtain ⟨k, hk⟩ : ∃ k, rlen w = k + 1 := ⟨rlen w - 1, by rcases rlen_ok h with a | a | a <;> omega⟩
  rw [hk, hit, ← hk]
  have e : w % 256 ^ rlen w = w := by
    rcases rlen_ok h with ⟨a, b⟩ | ⟨a, b⟩ | ⟨a, b⟩ <;> rw [a] <;> omega
  rw [e, if_neg hm]
/-- behind a stroke at most two wait -/
theorem fiT_ok {o M : Nat → Int32} {c : Nat} {tick : Int32} {t : TS} (h : lnOK t.1) (hl : t.1 = 0 ∨ liveP o M c t.1) : lnOK (fiT o M c tick t).1 ∧ szT (fiT o M c tick t) ≤ szT t ∧ rlen (fiT o M c tick t).1 ≤ 2 := by
  unfold fiT
  by_cases hc : t.1 ≠ 0 ∧ mean o M t.1 12 c ≠ -1 ∧ dc (opensP o M c t.1) = false
  · rw [if_pos hc]
    obtain ⟨a, b, d⟩ := onT_ok (o := o) (M := M) (c := c) (tick := tick) h hc.1
    have := rlen_le t.1
    exact ⟨a, d, by omega⟩
  · rw [if_neg hc]
    refine ⟨h, Nat.le_refl _, ?_⟩
    have := rlen_le t.1
    by_cases h3 : rlen t.1 = 3
    · exfalso
      have h0 : t.1 ≠ 0 := fun z => by rw [z] at h3; exact absurd h3 (by decide)
      have hop := opens_3 (o := o) (M := M) (c := c) h3
      rcases hl with z | z | z
      · exact h0 z
      · exact hc ⟨h0, z, dc_f hop⟩
      · exact hop z
    · omega
/-- the typing's part of the state -/
def tsC (σ : Sg) : TS := (tn (σ 15 7), tn (σ 15 2), σ 16, σ 17, tn (σ 15 3))
def nn (x : Int32) : Prop := x = nI (tn x)
theorem nn_nI {a : Nat} (h : a < 2 ^ 31) : nn (nI a) := by unfold nn; rw [tn_nI h]
def tyOK (σ : Sg) : Prop := nn (σ 15 7) ∧ lnOK (tn (σ 15 7)) ∧ nn (σ 15 2) ∧ nn (σ 15 3) ∧ nn (σ 15 4) ∧ tn (σ 15 4) < tn (σ 2 1) ∧ nn (σ 15 5) ∧ tn (σ 15 5) ≤ 100 ∧ nn (σ 15 6) ∧ tn (σ 15 6) ≤ 1000000
def pr_X8_mayComeAt : SPre := fun As σ => ∃ t : Int32, As = [.ref 15, .int t] ∧ (True)
def po_X8_mayComeAt : SPost := fun As σ r τ => match As with
  | [.ref _, .int t] => (τ = σ ∧ r = bI (!decide (t < σ 15 6) && !decide (nI 1000000 < t)))
  | _ => True
def ms_X8_mayComeAt : List Me := []
theorem mk_X8_mayComeAt : ∀ q ∈ ms_X8_mayComeAt, kp_okM layC RX8 0 q := fun _ h => absurd h List.not_mem_nil
set_option maxRecDepth 100000 in
theorem v_X8_mayComeAt {J : Nat → Lcl → List Value → Sg → Prop} {Q : Int32 → Sg → Prop} (t : Int32) (σ : Sg) (h : (t < (σ 15 6) → ((nI 0) = nI 0 ∨ (nI 0) = nI 1) ∧ Q (nI 0) σ) ∧ (¬ t < (σ 15 6) → ((nI 1000000) < t → ((nI 0) = nI 0 ∨ (nI 0) = nI 1) ∧ Q (nI 0) σ) ∧ (¬ (nI 1000000) < t → ((nI 1) = nI 0 ∨ (nI 1) = nI 1) ∧ Q (nI 1) σ))) : kp_T layC gl_X8 pl_X8 (ms_X8_mayComeAt) tb_X8_mayComeAt (kp_rk (some .boolean)) J Q 30 tb_X8_mayComeAt (kp_en [.ref 15, .int t] 2) [] σ := h
set_option maxRecDepth 100000 in
set_option maxHeartbeats 4000000 in
theorem c_X8_mayComeAt : kp_Met layC 0 yX8_mayComeAt cX8_mayComeAt 2 (some .boolean) (pr_X8_mayComeAt) (po_X8_mayComeAt) := by
  refine kp_met (N := 30) (by decide) tk_X8_mayComeAt gk_X8 pk_X8 (mk_X8_mayComeAt) rfl (fun _ _ _ _ _ _ _ => False) ?_ (fun _ _ _ _ _ _ _ _ h => h.elim)
  rintro As σ ⟨t, rfl, hp⟩
  refine ⟨⟨rfl, Nat.le_of_ble_eq_true rfl⟩, v_X8_mayComeAt t σ ?_⟩
  refine ⟨fun h1 => ⟨Or.inl rfl, rfl, ?_⟩, fun h1 => ⟨fun h2 => ⟨Or.inl rfl, rfl, ?_⟩, fun h2 => ⟨Or.inr rfl, rfl, ?_⟩⟩⟩
  · rw [decide_eq_true h1]; rfl
  · rw [decide_eq_false h1, decide_eq_true h2]; rfl
  · rw [decide_eq_false h1, decide_eq_false h2]; rfl
def pr_X8_send : SPre := fun As σ => ∃ c : Int32, ∃ t : Int32, As = [.ref 15, .int c, .int t] ∧ (∃ oc : Nat, σ 15 2 = nI oc ∧ oc < 2 ^ 30)
def po_X8_send : SPost := fun As σ r τ => match As with
  | [.ref _, .int c, .int t] => ((∀ a, a ≠ 15 → a ≠ 16 → a ≠ 17 → τ a = σ a) ∧ τ 15 = upd (σ 15) 2 (σ 15 2 + nI 1) ∧ τ 16 = (if tn (σ 15 2) < 400 then upd (σ 16) (tn (σ 15 2)) c else σ 16) ∧ τ 17 = (if tn (σ 15 2) < 400 then upd (σ 17) (tn (σ 15 2)) t else σ 17))
  | _ => True
def ms_X8_send : List Me := []
theorem mk_X8_send : ∀ q ∈ ms_X8_send, kp_okM layC RX8 0 q := fun _ h => absurd h List.not_mem_nil
set_option maxRecDepth 100000 in
theorem v_X8_send {J : Nat → Lcl → List Value → Sg → Prop} {Q : Int32 → Sg → Prop} (c t : Int32) (σ : Sg) (h : (¬ (σ 15 2) < (nI 400) → Q (nI 0) (kp_up σ 15 2 ((σ 15 2) + (nI 1)))) ∧ ((σ 15 2) < (nI 400) → vp_in (σ 15 2) 400 ∧ (vp_in ((kp_up σ 16 (σ 15 2).toNatClampNeg c) 15 2) 400 ∧ (Q (nI 0) (kp_up (kp_up (kp_up σ 16 (σ 15 2).toNatClampNeg c) 17 ((kp_up σ 16 (σ 15 2).toNatClampNeg c) 15 2).toNatClampNeg t) 15 2 (((kp_up (kp_up σ 16 (σ 15 2).toNatClampNeg c) 17 ((kp_up σ 16 (σ 15 2).toNatClampNeg c) 15 2).toNatClampNeg t) 15 2) + (nI 1))))))) : kp_T layC gl_X8 pl_X8 (ms_X8_send) tb_X8_send (kp_rk none) J Q 30 tb_X8_send (kp_en [.ref 15, .int c, .int t] 3) [] σ := h
set_option maxRecDepth 100000 in
set_option maxHeartbeats 4000000 in
theorem c_X8_send : kp_Met layC 0 yX8_send cX8_send 3 none (pr_X8_send) (po_X8_send) := by
  refine kp_met (N := 30) (by decide) tk_X8_send gk_X8 pk_X8 (mk_X8_send) rfl (fun _ _ _ _ _ _ _ => False) ?_ (fun _ _ _ _ _ _ _ _ h => h.elim)
  rintro As σ ⟨c, t, rfl, hp⟩
  refine ⟨⟨rfl, Nat.le_of_ble_eq_true rfl⟩, v_X8_send c t σ ?_⟩
  obtain ⟨oc, h1, h2⟩ := hp
  have eo : tn (σ 15 2) = oc := by rw [h1, tn_nI (by omega)]
  have ec : (σ 15 2).toNatClampNeg = oc := eo
  have e1 : kp_up σ 16 (σ 15 2).toNatClampNeg c 15 2 = σ 15 2 := by simp (disch := decide) only [up_c, kp_up_eq, pk_us, pk_un]
  have e2 : kp_up (kp_up σ 16 (σ 15 2).toNatClampNeg c) 17 (σ 15 2).toNatClampNeg t 15 2 = σ 15 2 := by simp (disch := decide) only [up_c, kp_up_eq, pk_us, pk_un]
  rw [e1, e2]
  have h3 : σ 15 2 < nI 400 ↔ oc < 400 := by rw [h1, nI_ltI (by omega) (by omega)]
  refine ⟨fun g => ⟨fun a a1 _ _ => up_c a1, kp_up_eq, ?_, ?_⟩, fun g => ⟨?_, ?_, fun a a1 a2 a3 => ?_, ?_, ?_, ?_⟩⟩
  · rw [up_c (by decide), eo, if_neg (fun z => g (h3.mpr z))]
  · rw [up_c (by decide), eo, if_neg (fun z => g (h3.mpr z))]
  · rw [h1]; exact (kp_in (by omega)).mpr (h3.mp g)
  · rw [h1]; exact (kp_in (by omega)).mpr (h3.mp g)
  · rw [up_c a1, up_c a3, up_c a2]
  · simp (disch := decide) only [up_c, kp_up_eq, pk_us, pk_un]
  · rw [eo, if_pos (h3.mp g)]
    simp (disch := decide) only [up_c, kp_up_eq, pk_us, pk_un]
    rw [ec]
  · rw [eo, if_pos (h3.mp g)]
    simp (disch := decide) only [up_c, kp_up_eq, pk_us, pk_un]
    rw [ec]
/-- what a settling leaves as it was -/
def tyK (σ τ : Sg) : Prop := fr [15, 16, 17] σ τ ∧ τ 15 4 = σ 15 4 ∧ τ 15 5 = σ 15 5 ∧ τ 15 6 = σ 15 6
theorem tyK_rf {σ : Sg} : tyK σ σ := ⟨fr_rf, rfl, rfl, rfl⟩
theorem tyK_tr {σ τ υ : Sg} (h : tyK σ τ) (h2 : tyK τ υ) : tyK σ υ := ⟨fr_tr h.1 h2.1, h2.2.1.trans h.2.1, h2.2.2.1.trans h.2.2.1, h2.2.2.2.trans h.2.2.2⟩
theorem LI_fr {l : List Nat} {σ τ : Sg} (h : LI σ) (hf : fr l σ τ) (hl : ∀ c ∈ [2, 3, 4, 5, 6], c ∉ l) : LI τ ∧ mC τ = mC σ ∧ τ 3 = σ 3 ∧ τ 2 = σ 2 := by
  have q2 : τ 2 = σ 2 := hf 2 (hl 2 (by decide))
  have q3 : τ 3 = σ 3 := hf 3 (hl 3 (by decide))
  have q4 : τ 4 = σ 4 := hf 4 (hl 4 (by decide))
  have q5 : τ 5 = σ 5 := hf 5 (hl 5 (by decide))
  have q6 : τ 6 = σ 6 := hf 6 (hl 6 (by decide))
  refine ⟨?_, ?_, q3, q2⟩
  · unfold LI; rw [q2, q3, q4, q5, q6]; exact h
  · unfold mC; rw [q4, q5, q6]
def pr_X8_settleOne : SPre := fun As σ => ∃ t : Int32, As = [.ref 15, .ref 1, .int t] ∧ (LI σ ∧ tyOK σ ∧ szT (tsC σ) ≤ 900000 ∧ tn (σ 15 7) ≠ 0)
def po_X8_settleOne : SPost := fun As σ r τ => match As with
  | [.ref _, .ref _, .int t] => (tyK σ τ ∧ tyOK τ ∧ tsC τ = onT (σ 3) (mC σ) (tn (σ 15 4)) t (tsC σ))
  | _ => True
def ms_X8_settleOne : List Me := [(63, 1, 0, 1, true, pr_X7_length, po_X7_length), (67, 1, 0, 2, true, pr_X7_beginning, po_X7_beginning), (57, 0, 5, 2, true, pr_X5_meaning, po_X5_meaning), (70, 0, 7, 2, false, pr_X8_send, po_X8_send), (74, 1, 0, 2, true, pr_X7_withoutBeginning, po_X7_withoutBeginning)]
theorem mk_X8_settleOne : ∀ q ∈ ms_X8_settleOne, kp_okM layC RX8 3 q := List.forall_mem_cons.mpr ⟨Or.inl ⟨1, yX7_length, cX7_length, 2, (some .int), c_X7_length, by omega, by decide, rfl, lk_X8_63⟩, List.forall_mem_cons.mpr ⟨Or.inl ⟨0, yX7_beginning, cX7_beginning, 2, (some .int), c_X7_beginning, by omega, by decide, rfl, lk_X8_67⟩, List.forall_mem_cons.mpr ⟨Or.inl ⟨2, yX5_meaning, cX5_meaning, 6, (some .int), c_X5_meaning, by omega, by decide, rfl, lk_X8_57⟩, List.forall_mem_cons.mpr ⟨Or.inl ⟨0, yX8_send, cX8_send, 3, none, c_X8_send, by omega, by decide, rfl, lk_X8_70⟩, List.forall_mem_cons.mpr ⟨Or.inl ⟨0, yX7_withoutBeginning, cX7_withoutBeginning, 2, (some .int), c_X7_withoutBeginning, by omega, by decide, rfl, lk_X8_74⟩, fun _ h => absurd h List.not_mem_nil⟩⟩⟩⟩⟩
set_option maxRecDepth 100000 in
theorem v_X8_settleOne {J : Nat → Lcl → List Value → Sg → Prop} {Q : Int32 → Sg → Prop} (t : Int32) (σ : Sg) (h : pr_X7_length [.int (σ 15 7)] σ ∧ ∀ (x2 : Int32) (τ1 : Sg), po_X7_length [.int (σ 15 7)] σ x2 τ1 → (J 8 [some (.ref 15), some (.ref 1), some (.int t), some (.int x2), none] [] τ1)) : kp_T layC gl_X8 pl_X8 (ms_X8_settleOne) tb_X8_settleOne (kp_rk none) J Q 49 tb_X8_settleOne (kp_en [.ref 15, .ref 1, .int t] 5) [] σ := h
set_option maxRecDepth 100000 in
theorem v_X8_settleOne_8 {J : Nat → Lcl → List Value → Sg → Prop} {Q : Int32 → Sg → Prop} (t len : Int32) (o4 : Option Value) (σ : Sg) (h : (¬ (nI 0) < len → pr_X7_withoutBeginning [.int ((kp_up σ 15 3 ((σ 15 3) + (nI 1))) 15 7), .int (nI 1)] (kp_up σ 15 3 ((σ 15 3) + (nI 1))) ∧ ∀ (x2 : Int32) (τ1 : Sg), po_X7_withoutBeginning [.int ((kp_up σ 15 3 ((σ 15 3) + (nI 1))) 15 7), .int (nI 1)] (kp_up σ 15 3 ((σ 15 3) + (nI 1))) x2 τ1 → (Q (nI 0) (kp_up τ1 15 7 x2))) ∧ ((nI 0) < len → pr_X7_beginning [.int (σ 15 7), .int len] σ ∧ ∀ (x4 : Int32) (τ3 : Sg), po_X7_beginning [.int (σ 15 7), .int len] σ x4 τ3 → (pr_X5_meaning [.ref 1, .int (σ 15 4), .int x4] τ3 ∧ ∀ (x6 : Int32) (τ5 : Sg), po_X5_meaning [.ref 1, .int (σ 15 4), .int x4] τ3 x6 τ5 → ((x6 = (-1) → J 8 [some (.ref 15), some (.ref 1), some (.int t), some (.int (len + (-1))), some (.int x6)] [] τ5) ∧ (¬ x6 = (-1) → pr_X8_send [.ref 15, .int x6, .int t] τ5 ∧ ∀ (τ7 : Sg), po_X8_send [.ref 15, .int x6, .int t] τ5 (nI 0) τ7 → (pr_X7_withoutBeginning [.int (τ7 15 7), .int len] τ7 ∧ ∀ (x9 : Int32) (τ8 : Sg), po_X7_withoutBeginning [.int (τ7 15 7), .int len] τ7 x9 τ8 → (Q (nI 0) (kp_up τ8 15 7 x9)))))))) : kp_T1 layC gl_X8 pl_X8 (ms_X8_settleOne) tb_X8_settleOne (kp_rk none) J Q 49 8 [some (.ref 15), some (.ref 1), some (.int t), some (.int len), o4] [] σ := h
abbrev iv_X8_settleOne : List Value → Sg → Nat → Nat → Lcl → List Value → Sg → Prop := fun As σ n pc ls st τ => pc = 8 ∧ st = [] ∧ τ = σ ∧ ∃ (t : Int32) (l : Nat) (o4 : Option Value), As = [.ref 15, .ref 1, .int t] ∧ ls = [some (.ref 15), some (.ref 1), some (.int t), some (.int (nI l)), o4] ∧ n = l ∧ l ≤ rlen (tn (σ 15 7)) ∧ hit (σ 3) (mC σ) (tn (σ 15 4)) (tn (σ 15 7)) (rlen (tn (σ 15 7))) = hit (σ 3) (mC σ) (tn (σ 15 4)) (tn (σ 15 7)) l
set_option maxRecDepth 100000 in
set_option maxHeartbeats 4000000 in
theorem c_X8_settleOne : kp_Met layC 3 yX8_settleOne cX8_settleOne 5 none (pr_X8_settleOne) (po_X8_settleOne) := by
  refine kp_met (N := 49) (by decide) tk_X8_settleOne gk_X8 pk_X8 (mk_X8_settleOne) rfl (iv_X8_settleOne) ?_ ?_
  · rintro As σ ⟨t, rfl, hp⟩
    refine ⟨⟨rfl, Nat.le_of_ble_eq_true rfl⟩, v_X8_settleOne t σ ?_⟩
    obtain ⟨hL, hty, hsz, h0⟩ := hp
    have hlt := lnOK_lt hty.2.1
    refine ⟨⟨_, rfl, tn (σ 15 7), hty.1, hlt⟩, ?_⟩
    rintro x2 τ1 ⟨rfl, rfl⟩
    exact ⟨rlen (tn (τ1 15 7)), rfl, rfl, rfl, t, _, none, rfl, rfl, rfl, Nat.le_refl _, rfl⟩
  · rintro As σ ⟨t, rfl, hp⟩ n pc ls st τ hI
    obtain ⟨hL, hty, hsz, h0⟩ := hp
    obtain ⟨rfl, rfl, rfl, t', l, o4, hAs, rfl, rfl, hl, hh⟩ := hI
    cases hAs
    obtain ⟨t1, t2, t3, t4, t5, t6, t7, t8, t9, t10⟩ := id hty
    have hlt := lnOK_lt t2
    have hl3 := rlen_le (tn (τ 15 7))
    have hsz' : tn (τ 15 2) + tn (τ 15 3) + rlen (tn (τ 15 7)) ≤ 900000 := hsz
    have hw := tn_lt (τ 15 7)
    refine v_X8_settleOne_8 _ _ o4 τ ?_
    rw [nI_ltI (by omega) (by omega)]
    refine ⟨fun g1 => ?_, fun g1 => ?_⟩
    · -- lost
      have : n = 0 := by omega
      subst this
      have e7 : kp_up τ 15 3 (τ 15 3 + nI 1) 15 7 = τ 15 7 := by rw [up_n (by decide)]
      rw [e7]
      refine ⟨⟨_, _, rfl, tn (τ 15 7), 1, t1, hlt, rfl, by omega⟩, ?_⟩
      rintro x2 τ1 ⟨rfl, rfl⟩
      rw [tn_nI (show (1 : Nat) < 2 ^ 31 by omega), Nat.pow_one]
      have hlo : τ 15 3 + nI 1 = nI (tn (τ 15 3) + 1) := by rw [← nI_add, ← t4]
      rw [hlo]
      have hdr := ln_drop (l := 1) t2 (by omega) (by have := lnOK_0 t2; omega)
      rw [Nat.pow_one] at hdr
      have hd : tn (τ 15 7) / 256 < 2 ^ 31 := by omega
      refine ⟨⟨fr_up (fr_up fr_rf (by decide)) (by decide), ?_, ?_, ?_⟩, ?_, ?_⟩
      · simp (disch := decide) only [up_c, kp_up_eq, pk_us, pk_un]
      · simp (disch := decide) only [up_c, kp_up_eq, pk_us, pk_un]
      · simp (disch := decide) only [up_c, kp_up_eq, pk_us, pk_un]
      · unfold tyOK
        simp (disch := decide) only [up_c, kp_up_eq, pk_us, pk_un]
        rw [tn_nI hd]
        exact ⟨nn_nI hd, hdr.1, t3, nn_nI (by omega), t5, t6, t7, t8, t9, t10⟩
      · unfold tsC onT
        simp (disch := decide) only [up_c, kp_up_eq, pk_us, pk_un]
        rw [hh, hit, if_pos rfl, tn_nI hd, tn_nI (by omega)]
    · refine ⟨⟨_, _, rfl, tn (τ 15 7), n, t1, hlt, rfl, by omega⟩, ?_⟩
      rintro x4 τ3 ⟨rfl, rfl⟩
      rw [tn_nI (show n < 2 ^ 31 by omega)]
      have hmod : tn (τ3 15 7) % 256 ^ n < 16777216 := Nat.lt_of_le_of_lt (Nat.mod_le _ _) hlt
      refine ⟨⟨_, _, rfl, hL, tn (τ3 15 4), _, t5, t6, rfl, hmod⟩, ?_⟩
      rintro x6 τ5 ⟨rfl, rfl⟩
      rw [tn_nI (show tn (τ5 15 7) % 256 ^ n < 2 ^ 31 by omega)]
      obtain ⟨k, rfl⟩ : ∃ k, n = k + 1 := ⟨n - 1, by omega⟩
      rw [hit] at hh
      refine ⟨fun g2 => ?_, fun g2 => ⟨⟨_, _, rfl, _, t3, by omega⟩, ?_⟩⟩
      · rw [if_pos g2] at hh
        exact ⟨k, by omega, rfl, rfl, rfl, t, k, _, rfl, by rw [pk_m1], rfl, by omega, hh⟩
      · rw [if_neg g2] at hh
        rintro τ7 ⟨f1, f2, f3, f4⟩
        have e7 : τ7 15 7 = τ5 15 7 := by rw [f2, pk_un (by decide)]
        rw [e7]
        refine ⟨⟨_, _, rfl, tn (τ5 15 7), k + 1, t1, hlt, rfl, by omega⟩, ?_⟩
        rintro x9 τ8 ⟨rfl, rfl⟩
        rw [tn_nI (show k + 1 < 2 ^ 31 by omega)]
        have hdr := ln_drop (l := k + 1) t2 (by omega) hl
        have hd : tn (τ5 15 7) / 256 ^ (k + 1) < 2 ^ 31 := Nat.lt_of_le_of_lt (Nat.div_le_self _ _) hw
        have hoc : τ5 15 2 + nI 1 = nI (tn (τ5 15 2) + 1) := by rw [← nI_add, ← t3]
        rw [hoc] at f2
        have e15 : kp_up τ8 15 7 (nI (tn (τ5 15 7) / 256 ^ (k + 1))) 15 = upd (upd (τ5 15) 2 (nI (tn (τ5 15 2) + 1))) 7 (nI (tn (τ5 15 7) / 256 ^ (k + 1))) := by rw [kp_up_eq, f2]
        have e2 : kp_up τ8 15 7 (nI (tn (τ5 15 7) / 256 ^ (k + 1))) 2 = τ5 2 := by rw [up_c (by decide), f1 2 (by decide) (by decide) (by decide)]
        refine ⟨⟨?_, ?_, ?_, ?_⟩, ?_, ?_⟩
        · intro a ha
          simp at ha
          rw [up_c ha.1, f1 a ha.1 ha.2.1 ha.2.2]
        · rw [e15]; simp (disch := decide) only [up_c, kp_up_eq, pk_us, pk_un]
        · rw [e15]; simp (disch := decide) only [up_c, kp_up_eq, pk_us, pk_un]
        · rw [e15]; simp (disch := decide) only [up_c, kp_up_eq, pk_us, pk_un]
        · unfold tyOK
          rw [e15, e2]
          simp (disch := decide) only [up_c, kp_up_eq, pk_us, pk_un]
          rw [tn_nI hd]
          exact ⟨nn_nI hd, hdr.1, nn_nI (by omega), t4, t5, t6, t7, t8, t9, t10⟩
        · unfold tsC onT
          rw [e15]
          simp (disch := decide) only [up_c, kp_up_eq, pk_us, pk_un]
          rw [hh, if_neg (by omega), tn_nI hd, tn_nI (by omega), f3, f4]
def pr_X8_settleAll : SPre := fun As σ => ∃ t : Int32, As = [.ref 15, .ref 1, .int t] ∧ (LI σ ∧ tyOK σ ∧ szT (tsC σ) ≤ 900000)
def po_X8_settleAll : SPost := fun As σ r τ => match As with
  | [.ref _, .ref _, .int t] => (tyK σ τ ∧ tyOK τ ∧ tsC τ = stT (σ 3) (mC σ) (tn (σ 15 4)) t 3 (tsC σ))
  | _ => True
def ms_X8_settleAll : List Me := [(54, 0, 7, 2, false, pr_X8_settleOne, po_X8_settleOne)]
theorem mk_X8_settleAll : ∀ q ∈ ms_X8_settleAll, kp_okM layC RX8 4 q := List.forall_mem_cons.mpr ⟨Or.inl ⟨3, yX8_settleOne, cX8_settleOne, 5, none, c_X8_settleOne, by omega, by decide, rfl, lk_X8_54⟩, fun _ h => absurd h List.not_mem_nil⟩
set_option maxRecDepth 100000 in
theorem v_X8_settleAll {J : Nat → Lcl → List Value → Sg → Prop} {Q : Int32 → Sg → Prop} (t : Int32) (σ : Sg) (h : J 2 [some (.ref 15), some (.ref 1), some (.int t), some (.int (nI 0))] [] σ) : kp_T layC gl_X8 pl_X8 (ms_X8_settleAll) tb_X8_settleAll (kp_rk none) J Q 30 tb_X8_settleAll (kp_en [.ref 15, .ref 1, .int t] 4) [] σ := h
set_option maxRecDepth 100000 in
theorem v_X8_settleAll_2 {J : Nat → Lcl → List Value → Sg → Prop} {Q : Int32 → Sg → Prop} (t steps : Int32) (σ : Sg) (h : (¬ steps < (nI 3) → Q (nI 0) σ) ∧ (steps < (nI 3) → ((σ 15 7) = (nI 0) → Q (nI 0) σ) ∧ (¬ (σ 15 7) = (nI 0) → pr_X8_settleOne [.ref 15, .ref 1, .int t] σ ∧ ∀ (τ1 : Sg), po_X8_settleOne [.ref 15, .ref 1, .int t] σ (nI 0) τ1 → (J 2 [some (.ref 15), some (.ref 1), some (.int t), some (.int (steps + nI 1))] [] τ1)))) : kp_T1 layC gl_X8 pl_X8 (ms_X8_settleAll) tb_X8_settleAll (kp_rk none) J Q 30 2 [some (.ref 15), some (.ref 1), some (.int t), some (.int steps)] [] σ := h
abbrev iv_X8_settleAll : List Value → Sg → Nat → Nat → Lcl → List Value → Sg → Prop := fun As σ n pc ls st τ => pc = 2 ∧ st = [] ∧ ∃ (t : Int32) (sp : Nat), As = [.ref 15, .ref 1, .int t] ∧ ls = [some (.ref 15), some (.ref 1), some (.int t), some (.int (nI sp))] ∧ sp ≤ 3 ∧ n = 3 - sp ∧ tyK σ τ ∧ tyOK τ ∧ szT (tsC τ) ≤ 900000 ∧ stT (σ 3) (mC σ) (tn (σ 15 4)) t 3 (tsC σ) = stT (σ 3) (mC σ) (tn (σ 15 4)) t (3 - sp) (tsC τ)
set_option maxRecDepth 100000 in
set_option maxHeartbeats 4000000 in
theorem c_X8_settleAll : kp_Met layC 4 yX8_settleAll cX8_settleAll 4 none (pr_X8_settleAll) (po_X8_settleAll) := by
  refine kp_met (N := 30) (by decide) tk_X8_settleAll gk_X8 pk_X8 (mk_X8_settleAll) rfl (iv_X8_settleAll) ?_ ?_
  · rintro As σ ⟨t, rfl, hp⟩
    refine ⟨⟨rfl, Nat.le_of_ble_eq_true rfl⟩, v_X8_settleAll t σ ?_⟩
    obtain ⟨hL, hty, hsz⟩ := hp
    exact ⟨3, rfl, rfl, t, 0, rfl, rfl, by omega, rfl, tyK_rf, hty, hsz, rfl⟩
  · rintro As σ ⟨t, rfl, hp⟩ n pc ls st τ hI
    obtain ⟨hL, -, -⟩ := hp
    obtain ⟨rfl, rfl, t', sp, hAs, rfl, hsp, rfl, hk, hty, hsz, hst⟩ := hI
    cases hAs
    obtain ⟨hLt, em, e3, e2⟩ := LI_fr hL hk.1 (by decide)
    have h70 : τ 15 7 = nI 0 ↔ (tsC τ).1 = 0 := by
      rw [hty.1, nI_eq (tn_lt _) (by omega)]; rfl
    refine v_X8_settleAll_2 _ _ τ ?_
    rw [nI_ltI (by omega) (by omega), h70, nI_add]
    refine ⟨fun g1 => ⟨hk, hty, ?_⟩, fun g1 => ⟨fun g2 => ⟨hk, hty, ?_⟩, fun g2 => ⟨⟨_, rfl, hLt, hty, hsz, g2⟩, ?_⟩⟩⟩
    · rw [hst, show 3 - sp = 0 by omega]; rfl
    · rw [hst, show 3 - sp = (3 - (sp + 1)) + 1 by omega, stT, if_pos g2]
    · rintro τ1 ⟨k1, k2, k3⟩
      rw [em, e3, hk.2.1] at k3
      refine ⟨3 - (sp + 1), by omega, rfl, rfl, t, sp + 1, rfl, rfl, by omega, rfl, tyK_tr hk k1, k2, ?_, ?_⟩
      · rw [k3]
        have := (onT_ok (o := σ 3) (M := mC σ) (c := tn (σ 15 4)) (tick := t) (t := tsC τ) hty.2.1 g2).2.2
        omega
      · rw [hst, show 3 - sp = (3 - (sp + 1)) + 1 by omega, stT, if_neg g2, k3]
/-- a stroke typed -/
noncomputable def prT (o M : Nat → Int32) (c : Nat) (pat last stroke : Nat) (tick : Nat) (t : TS) : TS :=
  let t1 := if pat < tick - last then stT o M c (nI (last + pat)) 3 t else t
  fiT o M c (nI tick) (drT o M c (nI tick) 3 (t1.1 + stroke * 256 ^ rlen t1.1, t1.2))
def pr_X8_press : SPre := fun As σ => ∃ s : Int32, ∃ t : Int32, As = [.ref 15, .ref 1, .int s, .int t] ∧ (LI σ ∧ tyOK σ ∧ szT (tsC σ) ≤ 800000 ∧ rlen (tn (σ 15 7)) ≤ 2 ∧ ∃ ss tt : Nat, s = nI ss ∧ 1 ≤ ss ∧ ss ≤ 240 ∧ t = nI tt ∧ tn (σ 15 6) ≤ tt ∧ tt ≤ 1000000)
def po_X8_press : SPost := fun As σ r τ => match As with
  | [.ref _, .ref _, .int s, .int t] => (fr [15, 16, 17] σ τ ∧ τ 15 4 = σ 15 4 ∧ τ 15 5 = σ 15 5 ∧ τ 15 6 = t ∧ tyOK τ ∧ tsC τ = prT (σ 3) (mC σ) (tn (σ 15 4)) (tn (σ 15 5)) (tn (σ 15 6)) (tn s) (tn t) (tsC σ))
  | _ => True
def ms_X8_press : List Me := [(38, 0, 7, 2, false, pr_X8_settleAll, po_X8_settleAll), (42, 1, 0, 2, true, pr_X7_withStroke, po_X7_withStroke), (48, 0, 5, 2, true, pr_X5_isLive, po_X5_isLive), (54, 0, 7, 2, false, pr_X8_settleOne, po_X8_settleOne), (57, 0, 5, 2, true, pr_X5_meaning, po_X5_meaning), (60, 0, 5, 2, true, pr_X5_opensLonger, po_X5_opensLonger)]
theorem mk_X8_press : ∀ q ∈ ms_X8_press, kp_okM layC RX8 5 q := List.forall_mem_cons.mpr ⟨Or.inl ⟨4, yX8_settleAll, cX8_settleAll, 4, none, c_X8_settleAll, by omega, by decide, rfl, lk_X8_38⟩, List.forall_mem_cons.mpr ⟨Or.inl ⟨2, yX7_withStroke, cX7_withStroke, 2, (some .int), c_X7_withStroke, by omega, by decide, rfl, lk_X8_42⟩, List.forall_mem_cons.mpr ⟨Or.inl ⟨4, yX5_isLive, cX5_isLive, 3, (some .boolean), c_X5_isLive, by omega, by decide, rfl, lk_X8_48⟩, List.forall_mem_cons.mpr ⟨Or.inl ⟨3, yX8_settleOne, cX8_settleOne, 5, none, c_X8_settleOne, by omega, by decide, rfl, lk_X8_54⟩, List.forall_mem_cons.mpr ⟨Or.inl ⟨2, yX5_meaning, cX5_meaning, 6, (some .int), c_X5_meaning, by omega, by decide, rfl, lk_X8_57⟩, List.forall_mem_cons.mpr ⟨Or.inl ⟨3, yX5_opensLonger, cX5_opensLonger, 5, (some .boolean), c_X5_opensLonger, by omega, by decide, rfl, lk_X8_60⟩, fun _ h => absurd h List.not_mem_nil⟩⟩⟩⟩⟩⟩
def tx_X8_press : List Ent := [(0, .iload_n 3, 1, false, 0), (1, .aload_n 0, 1, false, 0), (2, .getfield 31, 3, false, 0), (5, .isub, 1, false, 0), (6, .aload_n 0, 1, false, 0), (7, .getfield 28, 3, false, 0), (10, .if_icmp .le 17, 3, false, 0), (13, .aload_n 0, 1, false, 0), (14, .aload_n 1, 1, false, 0), (15, .aload_n 0, 1, false, 0), (16, .getfield 31, 3, false, 0), (19, .aload_n 0, 1, false, 0), (20, .getfield 28, 3, false, 0), (23, .iadd, 1, false, 0), (24, .invokevirtual 38, 3, false, 0), (27, .aload_n 0, 1, false, 0), (28, .iload_n 3, 1, false, 0), (29, .putfield 31, 3, false, 0), (32, .aload_n 0, 1, false, 0), (33, .aload_n 0, 1, false, 0), (34, .getfield 34, 3, false, 0), (37, .iload_n 2, 1, false, 0), (38, .invokestatic 42, 3, false, 0), (41, .putfield 34, 3, false, 0), (44, .iconst 0, 1, false, nI 0), (45, .istore 4, 2, false, 0), (47, .iload 4, 2, true, 0), (49, .iconst 3, 1, false, nI 3), (50, .if_icmp .ge 37, 3, false, 0), (53, .aload_n 0, 1, false, 0), (54, .getfield 34, 3, false, 0), (57, .ifCond .eq 30, 3, false, 0), (60, .aload_n 1, 1, false, 0), (61, .aload_n 0, 1, false, 0), (62, .getfield 25, 3, false, 0), (65, .aload_n 0, 1, false, 0), (66, .getfield 34, 3, false, 0), (69, .invokevirtual 48, 3, false, 0), (72, .ifCond .ne 15, 3, false, 0), (75, .aload_n 0, 1, false, 0), (76, .aload_n 1, 1, false, 0), (77, .iload_n 3, 1, false, 0), (78, .invokevirtual 54, 3, false, 0), (81, .iinc 4 1, 3, false, nI 1), (84, .goto (-37), 3, false, 0), (87, .aload_n 0, 1, true, 0), (88, .getfield 34, 3, false, 0), (91, .ifCond .eq 23, 3, false, 0), (94, .aload_n 1, 1, false, 0), (95, .aload_n 0, 1, false, 0), (96, .getfield 25, 3, false, 0), (99, .aload_n 0, 1, false, 0), (100, .getfield 34, 3, false, 0), (103, .invokevirtual 57, 3, false, 0), (106, .iconst (-1), 1, false, (-1)), (107, .if_icmp .eq 7, 3, false, 0), (110, .iconst 1, 1, false, nI 1), (111, .goto 4, 3, false, 0), (114, .iconst 0, 1, false, nI 0), (115, .istore 4, 2, false, 0), (117, .iload 4, 2, false, 0), (119, .ifCond .eq 24, 3, false, 0), (122, .aload_n 1, 1, false, 0), (123, .aload_n 0, 1, false, 0), (124, .getfield 25, 3, false, 0), (127, .aload_n 0, 1, false, 0), (128, .getfield 34, 3, false, 0), (131, .invokevirtual 60, 3, false, 0), (134, .ifCond .ne 9, 3, false, 0), (137, .aload_n 0, 1, false, 0), (138, .aload_n 1, 1, false, 0), (139, .iload_n 3, 1, false, 0), (140, .invokevirtual 54, 3, false, 0), (143, .return_, 1, false, 0)]
set_option maxRecDepth 100000 in
theorem tkx_X8_press : kp_ok cX8_press RX8 tx_X8_press = true := by decide +kernel
set_option maxRecDepth 100000 in
theorem v_X8_press {J : Nat → Lcl → List Value → Sg → Prop} {Q : Int32 → Sg → Prop} (s t : Int32) (σ : Sg) (h : (¬ (σ 15 5) < (t - (σ 15 6)) → pr_X7_withStroke [.int ((kp_up σ 15 6 t) 15 7), .int s] (kp_up σ 15 6 t) ∧ ∀ (x2 : Int32) (τ1 : Sg), po_X7_withStroke [.int ((kp_up σ 15 6 t) 15 7), .int s] (kp_up σ 15 6 t) x2 τ1 → (J 47 [some (.ref 15), some (.ref 1), some (.int s), some (.int t), some (.int (nI 0))] [] (kp_up τ1 15 7 x2))) ∧ ((σ 15 5) < (t - (σ 15 6)) → pr_X8_settleAll [.ref 15, .ref 1, .int ((σ 15 6) + (σ 15 5))] σ ∧ ∀ (τ3 : Sg), po_X8_settleAll [.ref 15, .ref 1, .int ((σ 15 6) + (σ 15 5))] σ (nI 0) τ3 → (pr_X7_withStroke [.int ((kp_up τ3 15 6 t) 15 7), .int s] (kp_up τ3 15 6 t) ∧ ∀ (x5 : Int32) (τ4 : Sg), po_X7_withStroke [.int ((kp_up τ3 15 6 t) 15 7), .int s] (kp_up τ3 15 6 t) x5 τ4 → (J 47 [some (.ref 15), some (.ref 1), some (.int s), some (.int t), some (.int (nI 0))] [] (kp_up τ4 15 7 x5))))) : kp_T layC gl_X8 pl_X8 (ms_X8_press) tx_X8_press (kp_rk none) J Q 79 tx_X8_press (kp_en [.ref 15, .ref 1, .int s, .int t] 5) [] σ := h
set_option maxRecDepth 100000 in
theorem v_X8_press_47 {J : Nat → Lcl → List Value → Sg → Prop} {Q : Int32 → Sg → Prop} (s t steps : Int32) (σ : Sg) (h : (¬ steps < (nI 3) → J 87 [some (.ref 15), some (.ref 1), some (.int s), some (.int t), some (.int steps)] [] σ) ∧ (steps < (nI 3) → ((σ 15 7) = (nI 0) → J 87 [some (.ref 15), some (.ref 1), some (.int s), some (.int t), some (.int steps)] [] σ) ∧ (¬ (σ 15 7) = (nI 0) → pr_X5_isLive [.ref 1, .int (σ 15 4), .int (σ 15 7)] σ ∧ ∀ (x2 : Int32) (τ1 : Sg), po_X5_isLive [.ref 1, .int (σ 15 4), .int (σ 15 7)] σ x2 τ1 → ((¬ x2 = (nI 0) → J 87 [some (.ref 15), some (.ref 1), some (.int s), some (.int t), some (.int steps)] [] τ1) ∧ (x2 = (nI 0) → pr_X8_settleOne [.ref 15, .ref 1, .int t] τ1 ∧ ∀ (τ3 : Sg), po_X8_settleOne [.ref 15, .ref 1, .int t] τ1 (nI 0) τ3 → (J 47 [some (.ref 15), some (.ref 1), some (.int s), some (.int t), some (.int (steps + nI 1))] [] τ3)))))) : kp_T1 layC gl_X8 pl_X8 (ms_X8_press) tx_X8_press (kp_rk none) J Q 79 47 [some (.ref 15), some (.ref 1), some (.int s), some (.int t), some (.int steps)] [] σ := h
set_option maxRecDepth 100000 in
theorem v_X8_press_87 {J : Nat → Lcl → List Value → Sg → Prop} {Q : Int32 → Sg → Prop} (s t steps : Int32) (σ : Sg) (h : ((σ 15 7) = (nI 0) → ((nI 0) = (nI 0) → Q (nI 0) σ) ∧ (¬ (nI 0) = (nI 0) → pr_X5_opensLonger [.ref 1, .int (σ 15 4), .int (σ 15 7)] σ ∧ ∀ (x2 : Int32) (τ1 : Sg), po_X5_opensLonger [.ref 1, .int (σ 15 4), .int (σ 15 7)] σ x2 τ1 → ((¬ x2 = (nI 0) → Q (nI 0) τ1) ∧ (x2 = (nI 0) → pr_X8_settleOne [.ref 15, .ref 1, .int t] τ1 ∧ ∀ (τ3 : Sg), po_X8_settleOne [.ref 15, .ref 1, .int t] τ1 (nI 0) τ3 → (Q (nI 0) τ3))))) ∧ (¬ (σ 15 7) = (nI 0) → pr_X5_meaning [.ref 1, .int (σ 15 4), .int (σ 15 7)] σ ∧ ∀ (x5 : Int32) (τ4 : Sg), po_X5_meaning [.ref 1, .int (σ 15 4), .int (σ 15 7)] σ x5 τ4 → ((x5 = (-1) → ((nI 0) = (nI 0) → Q (nI 0) τ4) ∧ (¬ (nI 0) = (nI 0) → pr_X5_opensLonger [.ref 1, .int (τ4 15 4), .int (τ4 15 7)] τ4 ∧ ∀ (x7 : Int32) (τ6 : Sg), po_X5_opensLonger [.ref 1, .int (τ4 15 4), .int (τ4 15 7)] τ4 x7 τ6 → ((¬ x7 = (nI 0) → Q (nI 0) τ6) ∧ (x7 = (nI 0) → pr_X8_settleOne [.ref 15, .ref 1, .int t] τ6 ∧ ∀ (τ8 : Sg), po_X8_settleOne [.ref 15, .ref 1, .int t] τ6 (nI 0) τ8 → (Q (nI 0) τ8))))) ∧ (¬ x5 = (-1) → ((nI 1) = (nI 0) → Q (nI 0) τ4) ∧ (¬ (nI 1) = (nI 0) → pr_X5_opensLonger [.ref 1, .int (τ4 15 4), .int (τ4 15 7)] τ4 ∧ ∀ (x10 : Int32) (τ9 : Sg), po_X5_opensLonger [.ref 1, .int (τ4 15 4), .int (τ4 15 7)] τ4 x10 τ9 → ((¬ x10 = (nI 0) → Q (nI 0) τ9) ∧ (x10 = (nI 0) → pr_X8_settleOne [.ref 15, .ref 1, .int t] τ9 ∧ ∀ (τ11 : Sg), po_X8_settleOne [.ref 15, .ref 1, .int t] τ9 (nI 0) τ11 → (Q (nI 0) τ11)))))))) : kp_T1 layC gl_X8 pl_X8 (ms_X8_press) tx_X8_press (kp_rk none) J Q 79 87 [some (.ref 15), some (.ref 1), some (.int s), some (.int t), some (.int steps)] [] σ := h
abbrev iv_X8_press : List Value → Sg → Nat → Nat → Lcl → List Value → Sg → Prop := fun As σ n pc ls st τ => st = [] ∧ ∃ (ss tt sp : Nat) (t2 : TS), As = [.ref 15, .ref 1, .int (nI ss), .int (nI tt)] ∧ ls = [some (.ref 15), some (.ref 1), some (.int (nI ss)), some (.int (nI tt)), some (.int (nI sp))] ∧ sp ≤ 3 ∧ fr [15, 16, 17] σ τ ∧ τ 15 4 = σ 15 4 ∧ τ 15 5 = σ 15 5 ∧ τ 15 6 = nI tt ∧ tyOK τ ∧ szT (tsC τ) ≤ 900000 ∧ prT (σ 3) (mC σ) (tn (σ 15 4)) (tn (σ 15 5)) (tn (σ 15 6)) ss tt (tsC σ) = fiT (σ 3) (mC σ) (tn (σ 15 4)) (nI tt) t2 ∧ ss ≤ 240 ∧ tt ≤ 1000000 ∧ ((pc = 47 ∧ n = 10 + (3 - sp) ∧ t2 = drT (σ 3) (mC σ) (tn (σ 15 4)) (nI tt) (3 - sp) (tsC τ)) ∨ (pc = 87 ∧ n = 0 ∧ t2 = tsC τ))
set_option maxRecDepth 100000 in
set_option maxHeartbeats 4000000 in
theorem c_X8_press : kp_Met layC 5 yX8_press cX8_press 5 none (pr_X8_press) (po_X8_press) := by
  refine kp_met (N := 79) (by decide) tkx_X8_press gk_X8 pk_X8 (mk_X8_press) rfl (iv_X8_press) ?_ ?_
  · rintro As σ ⟨s, t, rfl, hp⟩
    refine ⟨⟨rfl, Nat.le_of_ble_eq_true rfl⟩, v_X8_press s t σ ?_⟩
    obtain ⟨hL, hty, hsz, hlen, ss, tt, rfl, hs1, hs2, rfl, ht1, ht2⟩ := hp
    obtain ⟨t1, t2, t3, t4, t5, t6, t7, t8, t9, t10⟩ := id hty
    have ess : tn (nI ss) = ss := tn_nI (by omega)
    have hgo : ∀ τ : Sg, tyK σ τ → tyOK τ → szT (tsC τ) ≤ 800000 → rlen (tn (τ 15 7)) ≤ 2 → tsC τ = (if tn (σ 15 5) < tt - tn (σ 15 6) then stT (σ 3) (mC σ) (tn (σ 15 4)) (nI (tn (σ 15 6) + tn (σ 15 5))) 3 (tsC σ) else tsC σ) →
        (pr_X7_withStroke [.int ((kp_up τ 15 6 (nI tt)) 15 7), .int (nI ss)] (kp_up τ 15 6 (nI tt)) ∧ ∀ (x2 : Int32) (τ1 : Sg), po_X7_withStroke [.int ((kp_up τ 15 6 (nI tt)) 15 7), .int (nI ss)] (kp_up τ 15 6 (nI tt)) x2 τ1 → ∃ n, iv_X8_press [.ref 15, .ref 1, .int (nI ss), .int (nI tt)] σ n 47 [some (.ref 15), some (.ref 1), some (.int (nI ss)), some (.int (nI tt)), some (.int (nI 0))] [] (kp_up τ1 15 7 x2)) := by
      intro τ hk hty' hsz' hlen' hts
      obtain ⟨w1, w2, w3, w4, w5, w6, w7, w8, w9, w10⟩ := id hty'
      have e7 : kp_up τ 15 6 (nI tt) 15 7 = τ 15 7 := by simp (disch := decide) only [up_c, kp_up_eq, pk_us, pk_un]
      rw [e7]
      have hwl := lnOK_len w2
      have hw3 : tn (τ 15 7) < 65536 := by omega
      refine ⟨⟨_, _, rfl, tn (τ 15 7), ss, w1, hw3, ?_, rfl, by omega⟩, ?_⟩
      · rcases hwl with ⟨a, b⟩ | ⟨a, b⟩ | ⟨a, b⟩ | ⟨a, b⟩
        · rw [b, a]; decide
        · rw [a]; omega
        · rw [a]; omega
        · omega
      · rintro x2 τ1 ⟨rfl, rfl⟩
        rw [ess]
        obtain ⟨a1, a2⟩ := ln_add w2 hlen' hs1 hs2
        have hlt := rowOK_lt a1
        have e15 : kp_up (kp_up τ 15 6 (nI tt)) 15 7 (nI (tn (τ 15 7) + ss * 256 ^ rlen (tn (τ 15 7)))) 15 = upd (upd (τ 15) 6 (nI tt)) 7 (nI (tn (τ 15 7) + ss * 256 ^ rlen (tn (τ 15 7)))) := by rw [kp_up_eq, kp_up_eq]
        have e2 : kp_up (kp_up τ 15 6 (nI tt)) 15 7 (nI (tn (τ 15 7) + ss * 256 ^ rlen (tn (τ 15 7)))) 2 = τ 2 := by simp (disch := decide) only [up_c, kp_up_eq, pk_us, pk_un]
        have e16 : kp_up (kp_up τ 15 6 (nI tt)) 15 7 (nI (tn (τ 15 7) + ss * 256 ^ rlen (tn (τ 15 7)))) 16 = τ 16 := by simp (disch := decide) only [up_c, kp_up_eq, pk_us, pk_un]
        have e17 : kp_up (kp_up τ 15 6 (nI tt)) 15 7 (nI (tn (τ 15 7) + ss * 256 ^ rlen (tn (τ 15 7)))) 17 = τ 17 := by simp (disch := decide) only [up_c, kp_up_eq, pk_us, pk_un]
        have ets : tsC (kp_up (kp_up τ 15 6 (nI tt)) 15 7 (nI (tn (τ 15 7) + ss * 256 ^ rlen (tn (τ 15 7))))) = ((tsC τ).1 + ss * 256 ^ rlen (tsC τ).1, (tsC τ).2) := by
          unfold tsC
          rw [e15, e16, e17]
          simp (disch := decide) only [up_c, kp_up_eq, pk_us, pk_un]
          rw [tn_nI (by omega)]
        refine ⟨13, rfl, ss, tt, 0, _, rfl, rfl, by omega, fr_up (fr_up hk.1 (by decide)) (by decide), ?_, ?_, ?_, ?_, ?_, ?_, hs2, ht2, Or.inl ⟨rfl, rfl, rfl⟩⟩
        · rw [e15]; simp (disch := decide) only [up_c, kp_up_eq, pk_us, pk_un]
          exact hk.2.1
        · rw [e15]; simp (disch := decide) only [up_c, kp_up_eq, pk_us, pk_un]
          exact hk.2.2.1
        · rw [e15]; simp (disch := decide) only [up_c, kp_up_eq, pk_us, pk_un]
        · unfold tyOK
          rw [e15, e2]
          simp (disch := decide) only [up_c, kp_up_eq, pk_us, pk_un]
          rw [tn_nI (show tn (τ 15 7) + ss * 256 ^ rlen (tn (τ 15 7)) < 2 ^ 31 by omega), tn_nI (show tt < 2 ^ 31 by omega)]
          exact ⟨nn_nI (by omega), Or.inr a1, w3, w4, w5, w6, w7, w8, nn_nI (by omega), ht2⟩
        · rw [ets]
          have hq : tn (τ 15 2) + tn (τ 15 3) + rlen (tn (τ 15 7)) ≤ 800000 := hsz'
          show tn (τ 15 2) + tn (τ 15 3) + rlen (tn (τ 15 7) + ss * 256 ^ rlen (tn (τ 15 7))) ≤ 900000
          omega
        · rw [ets, hts]; rfl
    have esub : nI tt - σ 15 6 = nI (tt - tn (σ 15 6)) := by rw [← pk_sub ht1, ← t9]
    rw [esub, show (σ 15 5 < nI (tt - tn (σ 15 6))) = (nI (tn (σ 15 5)) < nI (tt - tn (σ 15 6))) by rw [← t7], nI_ltI (tn_lt _) (by omega)]
    refine ⟨fun g => hgo σ tyK_rf hty hsz hlen (by rw [if_neg g]), fun g => ⟨⟨_, rfl, hL, hty, by omega⟩, ?_⟩⟩
    rintro τ3 ⟨k1, k2, k3⟩
    have eadd : σ 15 6 + σ 15 5 = nI (tn (σ 15 6) + tn (σ 15 5)) := by rw [← nI_add, ← t9, ← t7]
    rw [eadd] at k3
    have hok := stT_ok (o := σ 3) (M := mC σ) (c := tn (σ 15 4)) (tick := nI (tn (σ 15 6) + tn (σ 15 5))) 3 (tsC σ) t2
    rw [← k3] at hok
    have h0 := hok.2.2 (rlen_le _)
    refine hgo τ3 k1 k2 (by omega) ?_ (by rw [if_pos g]; exact k3)
    have h0 : tn (τ3 15 7) = 0 := h0
    rw [h0]; decide
  · rintro As σ ⟨s, t, rfl, hp⟩ n pc ls st τ hI
    obtain ⟨hL, -, -, -, -⟩ := hp
    obtain ⟨rfl, ss, tt, sp, t2, hAs, rfl, hsp, hfr, q4, q5, q6, hty, hsz, hpr, hss, htt, hI⟩ := hI
    cases hAs
    obtain ⟨hLt, em, e3, e2⟩ := LI_fr hL hfr (by decide)
    obtain ⟨t1, t2', t3, t4, t5, t6, t7, t8, t9, t10⟩ := id hty
    have hlt := lnOK_lt t2'
    have h70 : τ 15 7 = nI 0 ↔ (tsC τ).1 = 0 := by
      rw [t1, nI_eq (tn_lt _) (by omega)]; rfl
    have ess : tn (nI ss) = ss := tn_nI (by omega)
    have ett : tn (nI tt) = tt := tn_nI (by omega)
    rcases hI with ⟨rfl, rfl, rfl⟩ | ⟨rfl, rfl, rfl⟩
    · refine v_X8_press_47 _ _ _ τ ?_
      rw [nI_ltI (by omega) (by omega), h70, nI_add]
      have hout : drT (σ 3) (mC σ) (tn (σ 15 4)) (nI tt) (3 - sp) (tsC τ) = tsC τ → ∃ n', n' < 10 + (3 - sp) ∧ iv_X8_press [.ref 15, .ref 1, .int (nI ss), .int (nI tt)] σ n' 87 [some (.ref 15), some (.ref 1), some (.int (nI ss)), some (.int (nI tt)), some (.int (nI sp))] [] τ := fun h =>
        ⟨0, by omega, rfl, ss, tt, sp, _, rfl, rfl, hsp, hfr, q4, q5, q6, hty, hsz, hpr, hss, htt, Or.inr ⟨rfl, rfl, h⟩⟩
      refine ⟨fun g1 => hout (by rw [show 3 - sp = 0 by omega]; rfl), fun g1 => ⟨fun g2 => hout (by rw [show 3 - sp = (3 - (sp + 1)) + 1 by omega, drT, if_pos (Or.inl g2)]), fun g2 => ⟨⟨_, _, rfl, hLt, _, _, t5, t6, t1, hlt⟩, ?_⟩⟩⟩
      rintro x24 τ23 ⟨rfl, rfl⟩
      rw [bI_0, em, e3, q4]
      refine ⟨fun g3 => hout ?_, fun g3 => ⟨⟨_, rfl, hLt, hty, hsz, g2⟩, ?_⟩⟩
      · rw [show 3 - sp = (3 - (sp + 1)) + 1 by omega, drT, if_pos (Or.inr (show dc (liveP (σ 3) (mC σ) (tn (σ 15 4)) (tsC τ23).1) = true from by rw [Bool.not_eq_false] at g3; exact g3))]
      · rintro τ36 ⟨k1, k2, k3⟩
        rw [em, e3, q4] at k3
        refine ⟨10 + (3 - (sp + 1)), by omega, rfl, ss, tt, sp + 1, _, rfl, rfl, by omega, fr_tr hfr k1.1, k1.2.1.trans q4, k1.2.2.1.trans q5, k1.2.2.2.trans q6, k2, ?_, hpr, hss, htt, Or.inl ⟨rfl, rfl, ?_⟩⟩
        · rw [k3]
          have := (onT_ok (o := σ 3) (M := mC σ) (c := tn (σ 15 4)) (tick := nI tt) (t := tsC τ23) t2' g2).2.2
          omega
        · rw [show 3 - sp = (3 - (sp + 1)) + 1 by omega, drT, if_neg, k3]
          rintro (z | z)
          · exact g2 z
          · have g3' : dc (liveP (σ 3) (mC σ) (tn (σ 15 4)) (tsC τ23).1) = false := g3
            rw [g3'] at z; cases z
    · refine v_X8_press_87 _ _ _ τ ?_
      rw [h70]
      have hfin : ∀ τ' : Sg, tyK τ τ' → tyOK τ' → tsC τ' = fiT (σ 3) (mC σ) (tn (σ 15 4)) (nI tt) (tsC τ) → po_X8_press [.ref 15, .ref 1, .int (nI ss), .int (nI tt)] σ (nI 0) τ' := fun τ' k1 k2 k3 =>
        ⟨fr_tr hfr k1.1, k1.2.1.trans q4, k1.2.2.1.trans q5, k1.2.2.2.trans q6, k2, by rw [ess, ett, hpr, k3]⟩
      refine ⟨fun g1 => ⟨fun _ => hfin τ tyK_rf hty ?_, fun z => absurd rfl z⟩, fun g1 => ⟨⟨_, _, rfl, hLt, _, _, t5, t6, t1, hlt⟩, ?_⟩⟩
      · unfold fiT; rw [if_neg (fun z => z.1 g1)]
      · rintro x5 τ4 ⟨rfl, rfl⟩
        rw [em, e3, q4]
        refine ⟨fun g2 => ⟨fun _ => hfin τ4 tyK_rf hty ?_, fun z => absurd rfl z⟩, fun g2 => ⟨fun z => absurd z (by decide), fun _ => ⟨⟨_, _, rfl, hLt, _, _, q4.symm.trans t5, t6, t1, hlt⟩, ?_⟩⟩⟩
        · unfold fiT; rw [if_neg (fun z => z.2.1 g2)]
        · rintro x10 τ9 ⟨rfl, rfl⟩
          rw [bI_0, em, e3]
          refine ⟨fun g3 => hfin τ9 tyK_rf hty ?_, fun g3 => ⟨⟨_, rfl, hLt, hty, hsz, g1⟩, ?_⟩⟩
          · unfold fiT; rw [if_neg (fun z => g3 z.2.2)]
          · rintro τ11 ⟨k1, k2, k3⟩
            rw [em, e3, q4] at k3
            refine hfin τ11 k1 k2 ?_
            unfold fiT; rw [if_pos ⟨g1, g2, g3⟩]; exact k3
