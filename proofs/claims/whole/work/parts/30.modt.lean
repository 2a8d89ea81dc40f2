/-! the model's typing -/
def stk (f : Nat → Int32) (n : Nat) : Prop := ∀ k, k < n → nn (f k) ∧ 1 ≤ tn (f k) ∧ tn (f k) ≤ 240
theorem pkw_0 {f : Nat → Int32} : pkw f 0 = 0 := rfl
theorem pkw_1 {f : Nat → Int32} : pkw f 1 = tn (f 0) := by simp [pkw]
theorem pkw_2 {f : Nat → Int32} : pkw f 2 = tn (f 0) + tn (f 1) * 256 := by simp [pkw]
theorem pkw_3 {f : Nat → Int32} : pkw f 3 = tn (f 0) + tn (f 1) * 256 + tn (f 2) * 65536 := by simp [pkw]
theorem pkw_congr {f g : Nat → Int32} : ∀ n, (∀ k, k < n → f k = g k) → pkw f n = pkw g n
  | 0, _ => rfl
  | n + 1, h => by rw [pkw, pkw, pkw_congr n (fun k hk => h k (by omega)), h n (by omega)]
theorem pkw_ok {f : Nat → Int32} {n : Nat} (h3 : n ≤ 3) (h : stk f n) : lnOK (pkw f n) ∧ rlen (pkw f n) = n ∧ (1 ≤ n → rowOK (pkw f n) = true) := by
  rcases (show n = 0 ∨ n = 1 ∨ n = 2 ∨ n = 3 by omega) with rfl | rfl | rfl | rfl
  · exact ⟨Or.inl rfl, rfl, fun h => by omega⟩
  · have h0 := h 0 (by omega)
    have hk : rowOK (pkw f 1) = true := by rw [pkw_1]; exact rowOK_iff.mpr (by omega)
    exact ⟨Or.inr hk, (rlen_of hk).1 (by rw [pkw_1]; omega), fun _ => hk⟩
  · have h0 := h 0 (by omega)
    have h1 := h 1 (by omega)
    have hk : rowOK (pkw f 2) = true := by rw [pkw_2]; exact rowOK_iff.mpr (by omega)
    exact ⟨Or.inr hk, (rlen_of hk).2.1 (by rw [pkw_2]; omega) (by rw [pkw_2]; omega), fun _ => hk⟩
  · have h0 := h 0 (by omega)
    have h1 := h 1 (by omega)
    have h2 := h 2 (by omega)
    have hk : rowOK (pkw f 3) = true := by rw [pkw_3]; exact rowOK_iff.mpr (by omega)
    exact ⟨Or.inr hk, (rlen_of hk).2.2 (by rw [pkw_3]; omega), fun _ => hk⟩
theorem pkw_mod {f : Nat → Int32} {n m : Nat} (h3 : n ≤ 3) (h : stk f n) (hm : m ≤ n) : pkw f n % 256 ^ m = pkw f m := by
  rcases (show n = 0 ∨ n = 1 ∨ n = 2 ∨ n = 3 by omega) with rfl | rfl | rfl | rfl
  · have : m = 0 := by omega
    subst this; rfl
  · have h0 := h 0 (by omega)
    rcases (show m = 0 ∨ m = 1 by omega) with rfl | rfl
    · rw [pkw_0]; omega
    · rw [pkw_1]; omega
  · have h0 := h 0 (by omega)
    have h1 := h 1 (by omega)
    rcases (show m = 0 ∨ m = 1 ∨ m = 2 by omega) with rfl | rfl | rfl
    · rw [pkw_0]; omega
    · rw [pkw_1, pkw_2]; omega
    · rw [pkw_2]; omega
  · have h0 := h 0 (by omega)
    have h1 := h 1 (by omega)
    have h2 := h 2 (by omega)
    rcases (show m = 0 ∨ m = 1 ∨ m = 2 ∨ m = 3 by omega) with rfl | rfl | rfl | rfl
    · rw [pkw_0]; omega
    · rw [pkw_1, pkw_3]; omega
    · rw [pkw_2, pkw_3]; omega
    · rw [pkw_3]; omega
theorem pkw_div {f : Nat → Int32} {n m : Nat} (h3 : n ≤ 3) (h : stk f n) (hm : m ≤ n) : pkw f n / 256 ^ m = pkw (fun k => f (k + m)) (n - m) := by
  rcases (show n = 0 ∨ n = 1 ∨ n = 2 ∨ n = 3 by omega) with rfl | rfl | rfl | rfl
  · have : m = 0 := by omega
    subst this; simp [pkw]
  · have h0 := h 0 (by omega)
    rcases (show m = 0 ∨ m = 1 by omega) with rfl | rfl
    · show pkw f 1 / 1 = pkw f 1; omega
    · show pkw f 1 / 256 = 0; rw [pkw_1]; omega
  · have h0 := h 0 (by omega)
    have h1 := h 1 (by omega)
    rcases (show m = 0 ∨ m = 1 ∨ m = 2 by omega) with rfl | rfl | rfl
    · show pkw f 2 / 1 = pkw f 2; omega
    · show pkw f 2 / 256 = pkw (fun k => f (k + 1)) 1; rw [pkw_1, pkw_2]; show _ = tn (f 1); omega
    · show pkw f 2 / 65536 = 0; rw [pkw_2]; omega
  · have h0 := h 0 (by omega)
    have h1 := h 1 (by omega)
    have h2 := h 2 (by omega)
    rcases (show m = 0 ∨ m = 1 ∨ m = 2 ∨ m = 3 by omega) with rfl | rfl | rfl | rfl
    · show pkw f 3 / 1 = pkw f 3; omega
    · show pkw f 3 / 256 = pkw (fun k => f (k + 1)) 2; rw [pkw_2, pkw_3]; show _ = tn (f 1) + tn (f 2) * 256; omega
    · show pkw f 3 / 65536 = pkw (fun k => f (k + 2)) 1; rw [pkw_1, pkw_3]; show _ = tn (f 2); omega
    · show pkw f 3 / 16777216 = 0; rw [pkw_3]; omega
theorem pkw_add {f : Nat → Int32} {n : Nat} {s : Int32} (h3 : n ≤ 2) (h : stk f n) : pkw (upd f n s) (n + 1) = pkw f n + tn s * 256 ^ rlen (pkw f n) := by
  rw [(pkw_ok (by omega) h).2.1, pkw, pk_us, pkw_congr n (fun k hk => pk_un (by omega))]
def tsM (σ : Sg) : TS := (wM σ, tn (σ 0 6), σ 9, σ 10, tn (σ 0 7))
theorem tyM_w {b : Nat} {σ : Sg} (hb : b ≤ 3) (h : tyM b σ) : lnOK (wM σ) ∧ rlen (wM σ) = tn (σ 0 21) ∧ (1 ≤ tn (σ 0 21) → rowOK (wM σ) = true) := pkw_ok (by have := h.2.1; omega) h.2.2.1
def pr_X10_ahead : SPre := fun As σ => ∃ many : Int32, As = [.ref 0, .int many] ∧ (tyM 3 σ ∧ ∃ m : Nat, many = nI m ∧ m ≤ tn (σ 0 21))
def po_X10_ahead : SPost := fun As σ r τ => match As with
  | [.ref _, .int many] => (τ = σ ∧ r = nI (pkw (σ 8) (tn many)))
  | _ => True
def ms_X10_ahead : List Me := []
theorem mk_X10_ahead : ∀ q ∈ ms_X10_ahead, kp_okM layM RX10 0 q := fun _ h => absurd h List.not_mem_nil
set_option maxRecDepth 100000 in
theorem v_X10_ahead {J : Nat → Lcl → List Value → Sg → Prop} {Q : Int32 → Sg → Prop} (many : Int32) (σ : Sg) (h : J 4 [some (.ref 0), some (.int many), some (.int (nI 0)), some (.int (nI 0))] [] σ) : kp_T layM gl_X10 pl_X10 (ms_X10_ahead) tb_X10_ahead (kp_rk (some .int)) J Q 30 tb_X10_ahead (kp_en [.ref 0, .int many] 4) [] σ := h
set_option maxRecDepth 100000 in
theorem v_X10_ahead_4 {J : Nat → Lcl → List Value → Sg → Prop} {Q : Int32 → Sg → Prop} (many row k : Int32) (σ : Sg) (h : (¬ k < many → Q row σ) ∧ (k < many → vp_in k 8 ∧ (J 4 [some (.ref 0), some (.int many), some (.int (row ||| ((σ 8 (k).toNatClampNeg) <<< (((nI 8) * k) &&& 31)))), some (.int (k + nI 1))] [] σ))) : kp_T1 layM gl_X10 pl_X10 (ms_X10_ahead) tb_X10_ahead (kp_rk (some .int)) J Q 30 4 [some (.ref 0), some (.int many), some (.int row), some (.int k)] [] σ := h
abbrev iv_X10_ahead : List Value → Sg → Nat → Nat → Lcl → List Value → Sg → Prop := fun As σ n pc ls st τ => pc = 4 ∧ st = [] ∧ τ = σ ∧ ∃ (m k : Nat), As = [.ref 0, .int (nI m)] ∧ ls = [some (.ref 0), some (.int (nI m)), some (.int (nI (pkw (σ 8) k))), some (.int (nI k))] ∧ m ≤ tn (σ 0 21) ∧ k ≤ m ∧ n = m - k
set_option maxRecDepth 100000 in
set_option maxHeartbeats 4000000 in
theorem c_X10_ahead : kp_Met layM 0 yX10_ahead cX10_ahead 4 (some .int) (pr_X10_ahead) (po_X10_ahead) := by
  refine kp_met (N := 30) (by decide) tk_X10_ahead gk_X10 pk_X10 (mk_X10_ahead) rfl (iv_X10_ahead) ?_ ?_
  · rintro As σ ⟨many, rfl, hp⟩
    refine ⟨⟨rfl, Nat.le_of_ble_eq_true rfl⟩, v_X10_ahead many σ ?_⟩
    obtain ⟨hty, m, rfl, hm⟩ := hp
    exact ⟨m, rfl, rfl, rfl, m, 0, rfl, rfl, hm, Nat.zero_le _, rfl⟩
  · rintro As σ ⟨many, rfl, hp⟩ n pc ls st τ hI
    obtain ⟨hty, -⟩ := hp
    obtain ⟨rfl, rfl, rfl, m, k, hAs, rfl, hm, hk, rfl⟩ := hI
    cases hAs
    have hw := hty.2.1
    refine v_X10_ahead_4 _ _ _ τ ?_
    rw [nI_ltI (by omega) (by omega), nI_clamp (show k < 2 ^ 31 by omega), show nI k + nI 1 = nI (k + 1) from nI_add _ _]
    refine ⟨fun g => ⟨rfl, by rw [tn_nI (by omega), show k = m by omega]⟩, fun g => ⟨(kp_in (by omega)).mpr (by omega), m - (k + 1), by omega, rfl, rfl, rfl, m, k + 1, rfl, ?_, hm, by omega, rfl⟩⟩
    obtain ⟨s1, s2, s3⟩ := hty.2.2.1 k (by omega)
    have hlt := hty.2.2.1
    have e : nI (pkw (τ 8) k) ||| τ 8 k <<< (nI 8 * nI k &&& 31) = nI (pkw (τ 8) (k + 1)) := by
      rw [s1]
      show _ = nI (pkw (τ 8) k + tn (τ 8 k) * 256 ^ k)
      rcases (show k = 0 ∨ k = 1 ∨ k = 2 by omega) with rfl | rfl | rfl
      · rw [show nI (tn (τ 8 0)) <<< (nI 8 * nI 0 &&& 31) = nI (tn (τ 8 0) * 2 ^ 0) from pk_shlN _ 0 (by decide) (by omega)]
        exact nI_orp _ _ 0 (by rw [pkw_0]; omega) (by omega) (by omega)
      · have h0 := hlt 0 (by omega)
        rw [show nI (tn (τ 8 1)) <<< (nI 8 * nI 1 &&& 31) = nI (tn (τ 8 1) * 2 ^ 8) from pk_shlN _ 8 (by decide) (by omega)]
        exact nI_orp _ _ 8 (by rw [pkw_1]; omega) (by omega) (by omega)
      · have h0 := hlt 0 (by omega)
        have h1 := hlt 1 (by omega)
        rw [show nI (tn (τ 8 2)) <<< (nI 8 * nI 2 &&& 31) = nI (tn (τ 8 2) * 2 ^ 16) from pk_shlN _ 16 (by decide) (by omega)]
        exact nI_orp _ _ 16 (by rw [pkw_2]; omega) (by omega) (by omega)
    rw [e]
def pr_X10_goes : SPre := fun As σ => ∃ many : Int32, As = [.ref 0, .int many] ∧ (nn (σ 0 21) ∧ tn (σ 0 21) ≤ 3 ∧ ∃ m : Nat, many = nI m ∧ 1 ≤ m ∧ m ≤ tn (σ 0 21))
def po_X10_goes : SPost := fun As σ r τ => match As with
  | [.ref _, .int many] => (fm [8] [21] σ τ ∧ τ 0 21 = nI (tn (σ 0 21) - tn many) ∧ ∀ k, k < tn (σ 0 21) - tn many → τ 8 k = σ 8 (k + tn many))
  | _ => True
def ms_X10_goes : List Me := []
theorem mk_X10_goes : ∀ q ∈ ms_X10_goes, kp_okM layM RX10 0 q := fun _ h => absurd h List.not_mem_nil
set_option maxRecDepth 100000 in
theorem v_X10_goes {J : Nat → Lcl → List Value → Sg → Prop} {Q : Int32 → Sg → Prop} (many : Int32) (σ : Sg) (h : J 12 [some (.ref 0), some (.int many), some (.int (nI 0))] [] (kp_up σ 0 21 ((σ 0 21) - many))) : kp_T layM gl_X10 pl_X10 (ms_X10_goes) tb_X10_goes (kp_rk none) J Q 30 tb_X10_goes (kp_en [.ref 0, .int many] 3) [] σ := h
set_option maxRecDepth 100000 in
theorem v_X10_goes_12 {J : Nat → Lcl → List Value → Sg → Prop} {Q : Int32 → Sg → Prop} (many k : Int32) (σ : Sg) (h : (¬ k < (σ 0 21) → Q (nI 0) σ) ∧ (k < (σ 0 21) → vp_in (k + many) 8 ∧ (vp_in k 8 ∧ (J 12 [some (.ref 0), some (.int many), some (.int (k + nI 1))] [] (kp_up σ 8 (k).toNatClampNeg (σ 8 (k + many).toNatClampNeg)))))) : kp_T1 layM gl_X10 pl_X10 (ms_X10_goes) tb_X10_goes (kp_rk none) J Q 30 12 [some (.ref 0), some (.int many), some (.int k)] [] σ := h
abbrev iv_X10_goes : List Value → Sg → Nat → Nat → Lcl → List Value → Sg → Prop := fun As σ n pc ls st τ => pc = 12 ∧ st = [] ∧ ∃ (m k : Nat), As = [.ref 0, .int (nI m)] ∧ ls = [some (.ref 0), some (.int (nI m)), some (.int (nI k))] ∧ 1 ≤ m ∧ m ≤ tn (σ 0 21) ∧ k ≤ tn (σ 0 21) - m ∧ n = tn (σ 0 21) - m - k ∧ fm [8] [21] σ τ ∧ τ 0 21 = nI (tn (σ 0 21) - m) ∧ (∀ j, j < k → τ 8 j = σ 8 (j + m)) ∧ ∀ j, k ≤ j → τ 8 j = σ 8 j
set_option maxRecDepth 100000 in
set_option maxHeartbeats 4000000 in
theorem c_X10_goes : kp_Met layM 0 yX10_goes cX10_goes 3 none (pr_X10_goes) (po_X10_goes) := by
  refine kp_met (N := 30) (by decide) tk_X10_goes gk_X10 pk_X10 (mk_X10_goes) rfl (iv_X10_goes) ?_ ?_
  · rintro As σ ⟨many, rfl, hp⟩
    refine ⟨⟨rfl, Nat.le_of_ble_eq_true rfl⟩, v_X10_goes many σ ?_⟩
    obtain ⟨h1, h2, m, rfl, hm1, hm2⟩ := hp
    refine ⟨_, rfl, rfl, m, 0, rfl, rfl, hm1, hm2, Nat.zero_le _, rfl, fm_up0 fm_rf (by decide), ?_, fun j hj => by omega, fun j hj => ?_⟩
    · rw [up_s, h1, pk_sub (by omega), ← h1]
    · rw [up_c (by decide)]
  · rintro As σ ⟨many, rfl, hp⟩ n pc ls st τ hI
    obtain ⟨h1, h2, -⟩ := hp
    obtain ⟨rfl, rfl, m, k, hAs, rfl, hm1, hm2, hk, rfl, hf, h21, hlo, hhi⟩ := hI
    cases hAs
    have em : tn (nI m) = m := tn_nI (by omega)
    refine v_X10_goes_12 _ _ τ ?_
    rw [h21, nI_ltI (by omega) (by omega), nI_add, nI_clamp (show k < 2 ^ 31 by omega), nI_clamp (show k + m < 2 ^ 31 by omega), nI_add]
    refine ⟨fun g => ⟨hf, by rw [em]; exact h21, fun j hj => ?_⟩, fun g => ⟨(kp_in (by omega)).mpr (by omega), (kp_in (by omega)).mpr (by omega), tn (σ 0 21) - m - (k + 1), by omega, rfl, rfl, m, k + 1, rfl, rfl, hm1, hm2, by omega, rfl, fm_up hf (by decide) (by decide), ?_, fun j hj => ?_, fun j hj => ?_⟩⟩
    · rw [em] at hj ⊢; exact hlo j (by omega)
    · rw [up_c (by decide)]; exact h21
    · by_cases e : j = k
      · rw [e, up_s]; exact hhi (k + m) (by omega)
      · rw [up_n e]; exact hlo j (by omega)
    · rw [up_n (by omega)]; exact hhi j (by omega)
/-- some strokes gone -/
theorem go_ok {σ τ υ : Sg} {m : Nat} (hty : tyM 3 σ) (h21 : υ 0 21 = σ 0 21) (h8 : υ 8 = σ 8) (hm : 1 ≤ m) (hm2 : m ≤ tn (σ 0 21)) (hg : fm [8] [21] υ τ ∧ τ 0 21 = nI (tn (υ 0 21) - m) ∧ ∀ k, k < tn (υ 0 21) - m → τ 8 k = υ 8 (k + m)) : wM τ = wM σ / 256 ^ m ∧ tn (τ 0 21) = tn (σ 0 21) - m ∧ nn (τ 0 21) ∧ stk (τ 8) (tn (τ 0 21)) := by
  obtain ⟨g1, g2, g3⟩ := hg
  rw [h21] at g2 g3
  rw [h8] at g3
  have h3 := hty.2.1
  have e : tn (τ 0 21) = tn (σ 0 21) - m := by rw [g2, tn_nI (by omega)]
  refine ⟨?_, e, by rw [g2]; exact nn_nI (by omega), fun k hk => ?_⟩
  · show pkw (τ 8) (tn (τ 0 21)) = pkw (σ 8) (tn (σ 0 21)) / 256 ^ m
    rw [pkw_div h3 hty.2.2.1 hm2, e]
    exact pkw_congr _ g3
  · rw [e] at hk
    rw [g3 k hk]
    exact hty.2.2.1 (k + m) (by omega)
theorem tyM_mk {b : Nat} {σ τ : Sg} (hty : tyM 3 σ) (hf : fm [8, 9, 10] [6, 7, 21] σ τ) (h1 : nn (τ 0 21)) (h2 : tn (τ 0 21) ≤ b) (h3 : stk (τ 8) (tn (τ 0 21))) (h4 : nn (τ 0 6)) (h5 : nn (τ 0 7)) : tyM b τ := by
  obtain ⟨t1, t2, t3, t4, t5, t6, t7, t8, t9, t10, t11⟩ := hty
  refine ⟨h1, h2, h3, h4, h5, ?_⟩
  rw [hf.2 2 (by decide), hf.2 3 (by decide), hf.2 4 (by decide), hf.2 5 (by decide)]
  exact ⟨t6, t7, t8, t9, t10, t11⟩
def pr_X10_one : SPre := fun As σ => ∃ t : Int32, As = [.ref 0, .int t] ∧ (LM σ ∧ tyM 3 σ ∧ szT (tsM σ) ≤ 900000 ∧ 1 ≤ tn (σ 0 21))
def po_X10_one : SPost := fun As σ r τ => match As with
  | [.ref _, .int t] => (fm [8, 9, 10] [6, 7, 21] σ τ ∧ tyM 3 τ ∧ tsM τ = onT (σ 1) (mM σ) (tn (σ 0 3)) t (tsM σ))
  | _ => True
def ms_X10_one : List Me := [(133, 1, 0, 2, true, pr_J9_min_7cf53, po_J9_min_7cf53), (141, 0, 9, 1, true, pr_X10_ahead, po_X10_ahead), (108, 0, 9, 2, true, pr_X10_meaning, po_X10_meaning), (147, 0, 9, 1, false, pr_X10_goes, po_X10_goes)]
theorem mk_X10_one : ∀ q ∈ ms_X10_one, kp_okM layM RX10 3 q := List.forall_mem_cons.mpr ⟨kp_okX_min (by omega) lk_X10_133, List.forall_mem_cons.mpr ⟨Or.inl ⟨0, yX10_ahead, cX10_ahead, 4, (some .int), c_X10_ahead, by omega, by decide, rfl, lk_X10_141⟩, List.forall_mem_cons.mpr ⟨Or.inl ⟨2, yX10_meaning, cX10_meaning, 5, (some .int), c_X10_meaning, by omega, by decide, rfl, lk_X10_108⟩, List.forall_mem_cons.mpr ⟨Or.inl ⟨0, yX10_goes, cX10_goes, 3, none, c_X10_goes, by omega, by decide, rfl, lk_X10_147⟩, fun _ h => absurd h List.not_mem_nil⟩⟩⟩⟩
set_option maxRecDepth 100000 in
theorem v_X10_one {J : Nat → Lcl → List Value → Sg → Prop} {Q : Int32 → Sg → Prop} (t : Int32) (σ : Sg) (h : pr_J9_min_7cf53 [.int (nI 3), .int (σ 0 21)] σ ∧ ∀ (x2 : Int32) (τ1 : Sg), po_J9_min_7cf53 [.int (nI 3), .int (σ 0 21)] σ x2 τ1 → (J 9 [some (.ref 0), some (.int t), some (.int x2), none] [] τ1)) : kp_T layM gl_X10 pl_X10 (ms_X10_one) tb_X10_one (kp_rk none) J Q 62 tb_X10_one (kp_en [.ref 0, .int t] 4) [] σ := h
set_option maxRecDepth 100000 in
theorem v_X10_one_9 {J : Nat → Lcl → List Value → Sg → Prop} {Q : Int32 → Sg → Prop} (t n : Int32) (o3 : Option Value) (σ : Sg) (h : (¬ (nI 0) < n → pr_X10_goes [.ref 0, .int (nI 1)] (kp_up σ 0 7 ((σ 0 7) + (nI 1))) ∧ ∀ (τ1 : Sg), po_X10_goes [.ref 0, .int (nI 1)] (kp_up σ 0 7 ((σ 0 7) + (nI 1))) (nI 0) τ1 → (Q (nI 0) τ1)) ∧ ((nI 0) < n → pr_X10_ahead [.ref 0, .int n] σ ∧ ∀ (x3 : Int32) (τ2 : Sg), po_X10_ahead [.ref 0, .int n] σ x3 τ2 → (pr_X10_meaning [.ref 0, .int (σ 0 3), .int x3] τ2 ∧ ∀ (x5 : Int32) (τ4 : Sg), po_X10_meaning [.ref 0, .int (σ 0 3), .int x3] τ2 x5 τ4 → ((¬ x5 = (-1) → (¬ (τ4 0 6) < (nI 400) → pr_X10_goes [.ref 0, .int n] (kp_up τ4 0 6 ((τ4 0 6) + (nI 1))) ∧ ∀ (τ6 : Sg), po_X10_goes [.ref 0, .int n] (kp_up τ4 0 6 ((τ4 0 6) + (nI 1))) (nI 0) τ6 → (Q (nI 0) τ6)) ∧ ((τ4 0 6) < (nI 400) → vp_in (τ4 0 6) 400 ∧ (vp_in ((kp_up τ4 9 (τ4 0 6).toNatClampNeg x5) 0 6) 400 ∧ (pr_X10_goes [.ref 0, .int n] (kp_up (kp_up (kp_up τ4 9 (τ4 0 6).toNatClampNeg x5) 10 ((kp_up τ4 9 (τ4 0 6).toNatClampNeg x5) 0 6).toNatClampNeg t) 0 6 (((kp_up (kp_up τ4 9 (τ4 0 6).toNatClampNeg x5) 10 ((kp_up τ4 9 (τ4 0 6).toNatClampNeg x5) 0 6).toNatClampNeg t) 0 6) + (nI 1))) ∧ ∀ (τ7 : Sg), po_X10_goes [.ref 0, .int n] (kp_up (kp_up (kp_up τ4 9 (τ4 0 6).toNatClampNeg x5) 10 ((kp_up τ4 9 (τ4 0 6).toNatClampNeg x5) 0 6).toNatClampNeg t) 0 6 (((kp_up (kp_up τ4 9 (τ4 0 6).toNatClampNeg x5) 10 ((kp_up τ4 9 (τ4 0 6).toNatClampNeg x5) 0 6).toNatClampNeg t) 0 6) + (nI 1))) (nI 0) τ7 → (Q (nI 0) τ7))))) ∧ (x5 = (-1) → J 9 [some (.ref 0), some (.int t), some (.int (n + (-1))), some (.int x5)] [] τ4))))) : kp_T1 layM gl_X10 pl_X10 (ms_X10_one) tb_X10_one (kp_rk none) J Q 62 9 [some (.ref 0), some (.int t), some (.int n), o3] [] σ := h
abbrev iv_X10_one : List Value → Sg → Nat → Nat → Lcl → List Value → Sg → Prop := fun As σ n pc ls st τ => pc = 9 ∧ st = [] ∧ τ = σ ∧ ∃ (t : Int32) (l : Nat) (o : Option Value), As = [.ref 0, .int t] ∧ ls = [some (.ref 0), some (.int t), some (.int (nI l)), o] ∧ l ≤ tn (σ 0 21) ∧ n = l ∧ hit (σ 1) (mM σ) (tn (σ 0 3)) (wM σ) (tn (σ 0 21)) = hit (σ 1) (mM σ) (tn (σ 0 3)) (wM σ) l
set_option maxRecDepth 100000 in
set_option maxHeartbeats 4000000 in
theorem c_X10_one : kp_Met layM 3 yX10_one cX10_one 4 none (pr_X10_one) (po_X10_one) := by
  refine kp_met (N := 62) (by decide) tk_X10_one gk_X10 pk_X10 (mk_X10_one) rfl (iv_X10_one) ?_ ?_
  · rintro As σ ⟨t, rfl, hp⟩
    refine ⟨⟨rfl, Nat.le_of_ble_eq_true rfl⟩, v_X10_one t σ ?_⟩
    obtain ⟨hL, hty, hsz, h1⟩ := hp
    refine ⟨⟨_, _, rfl⟩, ?_⟩
    rintro x2 τ1 ⟨rfl, rfl⟩
    refine ⟨_, rfl, rfl, rfl, t, tn (τ1 0 21), none, rfl, ?_, Nat.le_refl _, rfl, rfl⟩
    have h3 := hty.2.1
    have e : (if τ1 0 21 < nI 3 then τ1 0 21 else nI 3) = nI (tn (τ1 0 21)) := by
      by_cases q : τ1 0 21 < nI 3
      · rw [if_pos q]; exact hty.1
      · rw [if_neg q]
        rw [(nn_lt hty.1 (by omega)).2] at q
        rw [show tn (τ1 0 21) = 3 by omega]
    rw [e]
  · rintro As σ ⟨t, rfl, hp⟩ n pc ls st τ hI
    obtain ⟨hL, hty, hsz, hge⟩ := hp
    obtain ⟨rfl, rfl, rfl, t', l, o, hAs, rfl, hl, rfl, hh⟩ := hI
    cases hAs
    have h3 := hty.2.1
    obtain ⟨w1, w2, w3⟩ := tyM_w (by omega) hty
    obtain ⟨t1, t2, t3, t4, t5, t6, t7, t8, t9, t10, t11⟩ := id hty
    have hsz' : tn (τ 0 6) + tn (τ 0 7) + rlen (wM τ) ≤ 900000 := hsz
    refine v_X10_one_9 _ _ o τ ?_
    rw [nI_ltI (by omega) (by omega)]
    refine ⟨fun g => ?_, fun g => ?_⟩
    · have hl0 : n = 0 := by omega
      subst hl0
      have e21 : kp_up τ 0 7 (τ 0 7 + nI 1) 0 21 = τ 0 21 := up_n (by decide)
      refine ⟨⟨_, rfl, by rw [e21]; exact t1, by rw [e21]; exact h3, 1, rfl, by omega, by rw [e21]; exact hge⟩, ?_⟩
      rintro τ1 hg
      have hg : fm [8] [21] (kp_up τ 0 7 (τ 0 7 + nI 1)) τ1 ∧ τ1 0 21 = nI (tn (kp_up τ 0 7 (τ 0 7 + nI 1) 0 21) - 1) ∧ ∀ k, k < tn (kp_up τ 0 7 (τ 0 7 + nI 1) 0 21) - 1 → τ1 8 k = kp_up τ 0 7 (τ 0 7 + nI 1) 8 (k + 1) := hg
      have hf : fm [8, 9, 10] [6, 7, 21] τ τ1 := fm_tr (fm_up0 fm_rf (by decide)) (fm_mono hg.1 (by decide) (by decide))
      obtain ⟨q1, q2, q3, q4⟩ := go_ok hty e21 (up_c (by decide)) (by omega) hge hg
      have e7 : τ1 0 7 = nI (tn (τ 0 7) + 1) := by rw [hg.1.2 7 (by decide), up_s, t5, nI_add, ← t5]
      have e6 : τ1 0 6 = τ 0 6 := by rw [hg.1.2 6 (by decide), up_n (by decide)]
      refine ⟨hf, tyM_mk hty hf q3 (by omega) q4 (by rw [e6]; exact t4) (by rw [e7]; exact nn_nI (by omega)), ?_⟩
      unfold onT
      show _ = if hit _ _ _ (wM τ) (rlen (wM τ)) = 0 then _ else _
      rw [w2, hh, if_pos (show hit (τ 1) (mM τ) (tn (τ 0 3)) (wM τ) 0 = 0 from rfl)]
      unfold tsM
      rw [q1, e6, e7, hg.1.1 9 (by decide) (by decide), hg.1.1 10 (by decide) (by decide), up_c (by decide), up_c (by decide), tn_nI (by omega), Nat.pow_one]
    · obtain ⟨l, rfl⟩ : ∃ l, n = l + 1 := ⟨n - 1, by omega⟩
      have hpk := pkw_mod h3 t3 hl
      have hlt : pkw (τ 8) (l + 1) < 16777216 := lnOK_lt (pkw_ok (show l + 1 ≤ 3 by omega) (fun k hk => t3 k (by omega))).1
      refine ⟨⟨_, rfl, hty, l + 1, rfl, hl⟩, ?_⟩
      rintro x3 τ2 ⟨rfl, rfl⟩
      rw [tn_nI (show l + 1 < 2 ^ 31 by omega)]
      refine ⟨⟨_, _, rfl, hL, tn (τ2 0 3), pkw (τ2 8) (l + 1), t6, t7, rfl, hlt⟩, ?_⟩
      rintro x5 τ4 ⟨rfl, rfl⟩
      rw [tn_nI (show pkw (τ4 8) (l + 1) < 2 ^ 31 by omega)]
      have hstep : hit (τ4 1) (mM τ4) (tn (τ4 0 3)) (wM τ4) (l + 1) = if mean (τ4 1) (mM τ4) (pkw (τ4 8) (l + 1)) 12 (tn (τ4 0 3)) = -1 then hit (τ4 1) (mM τ4) (tn (τ4 0 3)) (wM τ4) l else l + 1 := by rw [hit, hpk]
      refine ⟨fun h5 => ?_, fun h5 => ⟨l, by omega, rfl, rfl, rfl, t, l, _, rfl, by rw [pk_m1], by omega, rfl, by rw [hh, hstep, if_pos h5]⟩⟩
      rw [hstep, if_neg h5] at hh
      have hlt6 : τ4 0 6 < nI 400 ↔ tn (τ4 0 6) < 400 := by rw [(nn_lt t4 (by omega)).2]
      have hcl : (τ4 0 6).toNatClampNeg = tn (τ4 0 6) := rfl
      have eadd : τ4 0 6 + nI 1 = nI (tn (τ4 0 6) + 1) := by rw [t4, nI_add, ← t4]
      have fin : ∀ (υ τ6 : Sg), υ 0 21 = τ4 0 21 → υ 8 = τ4 8 → fm [8, 9, 10] [6, 7, 21] τ4 υ → υ 0 6 = nI (tn (τ4 0 6) + 1) → υ 0 7 = τ4 0 7 → υ 9 = (if tn (τ4 0 6) < 400 then upd (τ4 9) (tn (τ4 0 6)) (mean (τ4 1) (mM τ4) (pkw (τ4 8) (l + 1)) 12 (tn (τ4 0 3))) else τ4 9) → υ 10 = (if tn (τ4 0 6) < 400 then upd (τ4 10) (tn (τ4 0 6)) t else τ4 10) → po_X10_goes [.ref 0, .int (nI (l + 1))] υ (nI 0) τ6 → po_X10_one [.ref 0, .int t] τ4 (nI 0) τ6 := by
        intro υ τ6 u1 u2 u3 u4 u5 u6 u7 hg
        have hg : fm [8] [21] υ τ6 ∧ τ6 0 21 = nI (tn (υ 0 21) - tn (nI (l + 1))) ∧ ∀ k, k < tn (υ 0 21) - tn (nI (l + 1)) → τ6 8 k = υ 8 (k + tn (nI (l + 1))) := hg
        rw [tn_nI (show l + 1 < 2 ^ 31 by omega)] at hg
        have hf : fm [8, 9, 10] [6, 7, 21] τ4 τ6 := fm_tr u3 (fm_mono hg.1 (by decide) (by decide))
        obtain ⟨q1, q2, q3, q4⟩ := go_ok hty u1 u2 (by omega) hl hg
        have e7 : τ6 0 7 = τ4 0 7 := by rw [hg.1.2 7 (by decide), u5]
        have e6 : τ6 0 6 = nI (tn (τ4 0 6) + 1) := by rw [hg.1.2 6 (by decide), u4]
        refine ⟨hf, tyM_mk hty hf q3 (by omega) q4 (by rw [e6]; exact nn_nI (by omega)) (by rw [e7]; exact t5), ?_⟩
        unfold onT
        show _ = if hit _ _ _ (wM τ4) (rlen (wM τ4)) = 0 then _ else _
        rw [w2, hh, if_neg (by omega)]
        show tsM τ6 = (wM τ4 / 256 ^ hit _ _ _ (wM τ4) (rlen (wM τ4)), tn (τ4 0 6) + 1, if tn (τ4 0 6) < 400 then upd (τ4 9) (tn (τ4 0 6)) (mean _ _ (wM τ4 % 256 ^ hit _ _ _ (wM τ4) (rlen (wM τ4))) 12 _) else τ4 9, if tn (τ4 0 6) < 400 then upd (τ4 10) (tn (τ4 0 6)) t else τ4 10, tn (τ4 0 7))
        rw [w2, hh, hpk]
        unfold tsM
        rw [q1, e6, e7, hg.1.1 9 (by decide) (by decide), hg.1.1 10 (by decide) (by decide), u6, u7, tn_nI (by omega)]
      refine ⟨fun h6 => ?_, fun h6 => ?_⟩
      · have h6' := fun z => h6 (hlt6.mpr z)
        rw [eadd]
        refine ⟨⟨_, rfl, ?_, ?_, l + 1, rfl, by omega, ?_⟩, fun τ6 hg => fin _ τ6 ?_ ?_ (fm_up0 fm_rf (by decide)) ?_ ?_ ?_ ?_ hg⟩
        · simp (disch := decide) only [up_c, kp_up_eq, pk_us, pk_un]
          exact t1
        · simp (disch := decide) only [up_c, kp_up_eq, pk_us, pk_un]
          exact h3
        · simp (disch := decide) only [up_c, kp_up_eq, pk_us, pk_un]
          exact hl
        · simp (disch := decide) only [up_c, kp_up_eq, pk_us, pk_un]
        · simp (disch := decide) only [up_c, kp_up_eq, pk_us, pk_un]
        · simp (disch := decide) only [up_c, kp_up_eq, pk_us, pk_un]
        · simp (disch := decide) only [up_c, kp_up_eq, pk_us, pk_un]
        · rw [if_neg h6']
          simp (disch := decide) only [up_c, kp_up_eq, pk_us, pk_un]
        · rw [if_neg h6']
          simp (disch := decide) only [up_c, kp_up_eq, pk_us, pk_un]
      · have h6' := hlt6.mp h6
        have hin : vp_in (τ4 0 6) 400 := by rw [t4]; exact (kp_in (tn_lt _)).mpr h6'
        have ea : kp_up τ4 9 (τ4 0 6).toNatClampNeg (mean (τ4 1) (mM τ4) (pkw (τ4 8) (l + 1)) 12 (tn (τ4 0 3))) 0 6 = τ4 0 6 := by simp (disch := decide) only [up_c, kp_up_eq, pk_us, pk_un]
        have eb : kp_up (kp_up τ4 9 (τ4 0 6).toNatClampNeg (mean (τ4 1) (mM τ4) (pkw (τ4 8) (l + 1)) 12 (tn (τ4 0 3)))) 10 (τ4 0 6).toNatClampNeg t 0 6 = τ4 0 6 := by simp (disch := decide) only [up_c, kp_up_eq, pk_us, pk_un]
        rw [ea, eb, eadd, hcl]
        refine ⟨hin, hin, ⟨_, rfl, ?_, ?_, l + 1, rfl, by omega, ?_⟩, fun τ6 hg => fin _ τ6 ?_ ?_ (fm_up0 (fm_up (fm_up fm_rf (by decide) (by decide)) (by decide) (by decide)) (by decide)) ?_ ?_ ?_ ?_ hg⟩
        · simp (disch := decide) only [up_c, kp_up_eq, pk_us, pk_un]
          exact t1
        · simp (disch := decide) only [up_c, kp_up_eq, pk_us, pk_un]
          exact h3
        · simp (disch := decide) only [up_c, kp_up_eq, pk_us, pk_un]
          exact hl
        · simp (disch := decide) only [up_c, kp_up_eq, pk_us, pk_un]
        · simp (disch := decide) only [up_c, kp_up_eq, pk_us, pk_un]
        · simp (disch := decide) only [up_c, kp_up_eq, pk_us, pk_un]
        · simp (disch := decide) only [up_c, kp_up_eq, pk_us, pk_un]
        · rw [if_pos h6']
          simp (disch := decide) only [up_c, kp_up_eq, pk_us, pk_un]
        · rw [if_pos h6']
          simp (disch := decide) only [up_c, kp_up_eq, pk_us, pk_un]
