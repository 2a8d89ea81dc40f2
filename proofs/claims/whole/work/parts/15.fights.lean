/-! fights: KeyPlan$Fights -/
theorem rlen_ok {x : Nat} (h : rowOK x = true) : (rlen x = 1 ∧ 1 ≤ x ∧ x < 256) ∨ (rlen x = 2 ∧ 256 ≤ x ∧ x < 65536) ∨ (rlen x = 3 ∧ 65536 ≤ x ∧ x < 16777216) := by
  have h := rowOK_iff.mp h
  unfold rlen
  rw [if_neg (by omega)]
  by_cases h1 : x / 256 % 256 = 0
  · rw [if_pos h1]; left; omega
  · rw [if_neg h1]
    by_cases h2 : x / 65536 % 256 = 0
    · rw [if_pos h2]; right; left; omega
    · rw [if_neg h2]; right; right; omega
/-- x is the beginning of y -/
def bgn (x y : Nat) : Bool := decide (rlen x < rlen y ∧ y % 256 ^ rlen x = x)
theorem bgn_lt {x y : Nat} (hx : rowOK x = true) (hy : rowOK y = true) (h : bgn x y = true) : x < y := by
  have h := of_decide_eq_true h
  rcases rlen_ok hx with ⟨a, b⟩ | ⟨a, b⟩ | ⟨a, b⟩ <;> rcases rlen_ok hy with ⟨c, d⟩ | ⟨c, d⟩ | ⟨c, d⟩ <;> omega
theorem bgn_iff {x y : Nat} (hx : rowOK x = true) (hy : rowOK y = true) (hne : y ≠ x) : bgn x y = decide (y % 256 ^ rlen x = x) := by
  unfold bgn
  by_cases h : y % 256 ^ rlen x = x
  · rw [decide_eq_true h]
    refine decide_eq_true ⟨?_, h⟩
    rcases rlen_ok hx with ⟨a, b⟩ | ⟨a, b⟩ | ⟨a, b⟩ <;> rcases rlen_ok hy with ⟨c, d⟩ | ⟨c, d⟩ | ⟨c, d⟩ <;> rw [a] at h ⊢ <;> rw [c] <;> omega
  · rw [decide_eq_false h]
    exact decide_eq_false (fun z => h z.2)
def fIn (G : Nat → Nat) (a : Nat) : Nat → List (Nat × Nat)
  | 0 => []
  | m + 1 => fIn G a m ++ (if bgn (G a) (G m) = true then [(G a, G m)] else [])
def fOut (G : Nat → Nat) (f : Nat) : Nat → List (Nat × Nat)
  | 0 => []
  | a + 1 => fOut G f a ++ fIn G a f
/-- the fights among the rows G 0 .. G (f - 1) -/
def FL (G : Nat → Nat) (f : Nat) : List (Nat × Nat) := fOut G f f
theorem fIn_low {G : Nat → Nat} {f a : Nat} (hok : ∀ i, i < f → rowOK (G i) = true) (hs : ∀ i j, i < j → j < f → G i < G j) (ha : a < f) : ∀ m, m ≤ a + 1 → fIn G a m = []
  | 0, _ => rfl
  | m + 1, h => by
    rw [fIn, fIn_low hok hs ha m (by omega), if_neg]
    · rfl
    · intro hb
      have := bgn_lt (hok a ha) (hok m (by omega)) hb
      by_cases e : m = a
      · subst e; omega
      · have := hs m a (by omega) ha; omega
theorem fIn_congr {G G' : Nat → Nat} {f a : Nat} (h : ∀ i, i < f → G i = G' i) (ha : a < f) : ∀ m, m ≤ f → fIn G a m = fIn G' a m
  | 0, _ => rfl
  | m + 1, hm => by rw [fIn, fIn, fIn_congr h ha m (by omega), h a ha, h m (by omega)]
theorem fOut_congr {G G' : Nat → Nat} {f : Nat} (h : ∀ i, i < f → G i = G' i) : ∀ a, a ≤ f → fOut G f a = fOut G' f a
  | 0, _ => rfl
  | a + 1, ha => by rw [fOut, fOut, fOut_congr h a (by omega), fIn_congr h (by omega) f (by omega)]
theorem FL_congr {G G' : Nat → Nat} {f : Nat} (h : ∀ i, i < f → G i = G' i) : FL G f = FL G' f := fOut_congr h f (Nat.le_refl _)
-- how many there can be
def cB (G : Nat → Nat) (b : Nat) : Nat → Nat
  | 0 => 0
  | a + 1 => cB G b a + (if bgn (G a) (G b) = true then 1 else 0)
def sB (F : Nat → Nat) : Nat → Nat
  | 0 => 0
  | b + 1 => sB F b + F b
theorem sB_add {F F' : Nat → Nat} : ∀ n, sB (fun b => F b + F' b) n = sB F n + sB F' n
  | 0 => rfl
  | n + 1 => by rw [sB, sB, sB, sB_add n]; omega
theorem sB_le {F : Nat → Nat} {k : Nat} : ∀ n, (∀ b, b < n → F b ≤ k) → sB F n ≤ k * n
  | 0, _ => by simp [sB]
  | n + 1, h => by
    have := sB_le n (fun b hb => h b (by omega))
    have := h n (by omega)
    rw [sB, Nat.mul_succ]; omega
theorem sB_zero : ∀ n, sB (fun _ => 0) n = 0
  | 0 => rfl
  | n + 1 => by rw [sB, sB_zero n]
theorem fIn_len {G : Nat → Nat} {a : Nat} : ∀ m, (fIn G a m).length = sB (fun b => if bgn (G a) (G b) = true then 1 else 0) m
  | 0 => rfl
  | m + 1 => by
    rw [fIn, sB, List.length_append, fIn_len m]
    by_cases h : bgn (G a) (G m) = true
    · rw [if_pos h, if_pos h]; rfl
    · rw [if_neg h, if_neg h]; rfl
theorem fOut_len {G : Nat → Nat} {f : Nat} : ∀ a, (fOut G f a).length = sB (fun b => cB G b a) f
  | 0 => by rw [fOut]; exact (sB_zero f).symm
  | a + 1 => by rw [fOut, List.length_append, fOut_len a, fIn_len, ← sB_add]; rfl
theorem cB_le {G : Nat → Nat} {f b : Nat} (hok : ∀ i, i < f → rowOK (G i) = true) (hs : ∀ i j, i < j → j < f → G i < G j) (hb : b < f) : ∀ a, a ≤ f → cB G b a ≤ (if ∃ i, i < a ∧ G i = G b % 256 then 1 else 0) + (if ∃ i, i < a ∧ G i = G b % 65536 ∧ 256 ≤ G b % 65536 then 1 else 0)
  | 0, _ => by simp [cB]
  | a + 1, ha => by
    have ih := cB_le hok hs hb a (by omega)
    have inj := srt_inj hs
    rw [cB]
    by_cases h : bgn (G a) (G b) = true
    · rw [if_pos h]
      have h' := of_decide_eq_true h
      rcases rlen_ok (hok a (by omega)) with ⟨c, d⟩ | ⟨c, d⟩ | ⟨c, d⟩
      · rw [c] at h'
        rw [if_neg (fun ⟨i, hi, e⟩ => by have := inj i a (by omega) (by omega) (by omega); omega)] at ih
        rw [if_pos ⟨a, by omega, by omega⟩]
        by_cases h2 : ∃ i, i < a ∧ G i = G b % 65536 ∧ 256 ≤ G b % 65536
        · rw [if_pos h2] at ih
          obtain ⟨i, hi, e⟩ := h2
          rw [if_pos ⟨i, by omega, e⟩]; omega
        · rw [if_neg h2] at ih; omega
      · rw [c] at h'
        rw [if_neg (show ¬ ∃ i, i < a ∧ G i = G b % 65536 ∧ 256 ≤ G b % 65536 from fun ⟨i, hi, e⟩ => by have := inj i a (by omega) (by omega) (by omega); omega)] at ih
        rw [if_pos (show ∃ i, i < a + 1 ∧ G i = G b % 65536 ∧ 256 ≤ G b % 65536 from ⟨a, by omega, by omega, by omega⟩)]
        by_cases h2 : ∃ i, i < a ∧ G i = G b % 256
        · rw [if_pos h2] at ih
          obtain ⟨i, hi, e⟩ := h2
          rw [if_pos ⟨i, by omega, e⟩]; omega
        · rw [if_neg h2] at ih; omega
      · rcases rlen_ok (hok b hb) with ⟨c2, d2⟩ | ⟨c2, d2⟩ | ⟨c2, d2⟩ <;> omega
    · rw [if_neg h]
      have e1 : (if ∃ i, i < a ∧ G i = G b % 256 then 1 else 0) ≤ (if ∃ i, i < a + 1 ∧ G i = G b % 256 then 1 else 0) := by
        by_cases z : ∃ i, i < a ∧ G i = G b % 256
        · obtain ⟨i, hi, e⟩ := z
          rw [if_pos (show ∃ i, i < a + 1 ∧ G i = G b % 256 from ⟨i, by omega, e⟩)]
          split <;> omega
        · rw [if_neg z]; omega
      have e2 : (if ∃ i, i < a ∧ G i = G b % 65536 ∧ 256 ≤ G b % 65536 then 1 else 0) ≤ (if ∃ i, i < a + 1 ∧ G i = G b % 65536 ∧ 256 ≤ G b % 65536 then 1 else 0) := by
        by_cases z : ∃ i, i < a ∧ G i = G b % 65536 ∧ 256 ≤ G b % 65536
        · obtain ⟨i, hi, e⟩ := z
          rw [if_pos (show ∃ i, i < a + 1 ∧ G i = G b % 65536 ∧ 256 ≤ G b % 65536 from ⟨i, by omega, e⟩)]
          split <;> omega
        · rw [if_neg z]; omega
      omega
theorem fOut_le {G : Nat → Nat} {f : Nat} (hok : ∀ i, i < f → rowOK (G i) = true) (hs : ∀ i j, i < j → j < f → G i < G j) (a : Nat) (ha : a ≤ f) : (fOut G f a).length ≤ 2 * f := by
  rw [fOut_len]
  refine sB_le f (fun b hb => ?_)
  have := cB_le hok hs hb a ha
  have e1 : (if ∃ i, i < a ∧ G i = G b % 256 then 1 else 0) ≤ 1 := by split <;> omega
  have e2 : (if ∃ i, i < a ∧ G i = G b % 65536 ∧ 256 ≤ G b % 65536 then 1 else 0) ≤ 1 := by split <;> omega
  omega
theorem fIn_mono {G : Nat → Nat} {a : Nat} : ∀ (d m : Nat), (fIn G a m).length ≤ (fIn G a (m + d)).length
  | 0, _ => Nat.le_refl _
  | d + 1, m => by
    have := fIn_mono (G := G) (a := a) d m
    rw [← Nat.add_assoc, fIn, List.length_append]; omega
/-- the rows found are rows -/
theorem rows_ok {σ : Sg} {g : Nat → Int32} {f c : Nat} (hb : bOK (σ 5) (σ 6) (σ 4 2)) (h : isRows g f (σ 3) (mC σ) c) : ∀ i, i < f → rowOK (tn (g i)) = true := by
  intro i hi
  obtain ⟨h1, h2⟩ := (h.2 _).mp ⟨i, hi, rfl⟩
  obtain ⟨c', h3, -⟩ := mean_in _ _ h2
  rcases mpC_val hb (c' * 16777216 + tn (g i)) with e | ⟨e, -⟩
  · exact absurd e h3
  · have := e.2
    rwa [(key_div h1).2] at this
def pr_X4_add : SPre := fun As σ => ∃ a : Int32, ∃ b : Int32, As = [.ref 11, .int a, .int b] ∧ (∃ s : Nat, σ 11 3 = nI s ∧ s < 240)
def po_X4_add : SPost := fun As σ r τ => match As with
  | [.ref _, .int a, .int b] => (τ = kp_up (kp_up (kp_up σ 13 (tn (σ 11 3)) a) 14 (tn (σ 11 3)) b) 11 3 (σ 11 3 + nI 1))
  | _ => True
def ms_X4_add : List Me := []
theorem mk_X4_add : ∀ q ∈ ms_X4_add, kp_okM layC RX4 0 q := fun _ h => absurd h List.not_mem_nil
set_option maxRecDepth 100000 in
theorem v_X4_add {J : Nat → Lcl → List Value → Sg → Prop} {Q : Int32 → Sg → Prop} (a b : Int32) (σ : Sg) (h : (¬ (σ 11 3) < (nI 240) → Q (nI 0) σ) ∧ ((σ 11 3) < (nI 240) → vp_in (σ 11 3) 240 ∧ (vp_in ((kp_up σ 13 (σ 11 3).toNatClampNeg a) 11 3) 240 ∧ (Q (nI 0) (kp_up (kp_up (kp_up σ 13 (σ 11 3).toNatClampNeg a) 14 ((kp_up σ 13 (σ 11 3).toNatClampNeg a) 11 3).toNatClampNeg b) 11 3 (((kp_up (kp_up σ 13 (σ 11 3).toNatClampNeg a) 14 ((kp_up σ 13 (σ 11 3).toNatClampNeg a) 11 3).toNatClampNeg b) 11 3) + (nI 1))))))) : kp_T layC gl_X4 pl_X4 (ms_X4_add) tb_X4_add (kp_rk none) J Q 30 tb_X4_add (kp_en [.ref 11, .int a, .int b] 3) [] σ := h
set_option maxRecDepth 100000 in
set_option maxHeartbeats 4000000 in
theorem c_X4_add : kp_Met layC 0 yX4_add cX4_add 3 none (pr_X4_add) (po_X4_add) := by
  refine kp_met (N := 30) (by decide) tk_X4_add gk_X4 pk_X4 (mk_X4_add) rfl (fun _ _ _ _ _ _ _ => False) ?_ (fun _ _ _ _ _ _ _ _ h => h.elim)
  rintro As σ ⟨a, b, rfl, hp⟩
  refine ⟨⟨rfl, Nat.le_of_ble_eq_true rfl⟩, v_X4_add a b σ ?_⟩
  obtain ⟨s, hs, h1⟩ := hp
  have e1 : kp_up σ 13 (σ 11 3).toNatClampNeg a 11 3 = σ 11 3 := by simp (disch := decide) only [up_c, kp_up_eq, pk_us, pk_un]
  have e2 : kp_up (kp_up σ 13 (σ 11 3).toNatClampNeg a) 14 (σ 11 3).toNatClampNeg b 11 3 = σ 11 3 := by simp (disch := decide) only [up_c, kp_up_eq, pk_us, pk_un]
  rw [e1, e2]
  refine ⟨fun g => ?_, fun g => ⟨?_, ?_, rfl⟩⟩
  · rw [hs, nI_ltI (by omega) (by omega)] at g; exact absurd h1 g
  · rw [hs]; exact (kp_in (by omega)).mpr h1
  · rw [hs]; exact (kp_in (by omega)).mpr h1
/-- the list stands in the two rows of numbers -/
def fgOK (σ : Sg) (l : List (Nat × Nat)) : Prop := σ 11 3 = nI l.length ∧ ∀ (i : Nat) (p : Nat × Nat), l[i]? = some p → σ 13 i = nI p.1 ∧ σ 14 i = nI p.2
theorem fgOK_add {σ : Sg} {l : List (Nat × Nat)} {x y : Nat} (h : fgOK σ l) (hl : l.length < 240) : fgOK (kp_up (kp_up (kp_up σ 13 (tn (σ 11 3)) (nI x)) 14 (tn (σ 11 3)) (nI y)) 11 3 (σ 11 3 + nI 1)) (l ++ [(x, y)]) := by
  obtain ⟨h1, h2⟩ := h
  have e : tn (σ 11 3) = l.length := by rw [h1, tn_nI (by omega)]
  refine ⟨?_, fun i p hi => ?_⟩
  · rw [up_s, h1, nI_add, List.length_append]; rfl
  · rw [e]
    simp (disch := decide) only [up_c, kp_up_eq, pk_us, pk_un]
    by_cases q : i < l.length
    · rw [List.getElem?_append_left q] at hi
      rw [pk_un (by omega), pk_un (by omega)]
      exact h2 i p hi
    · rw [List.getElem?_append_right (by omega)] at hi
      have hz : i - l.length < 1 := (List.getElem?_eq_some_iff.mp hi).1
      have : i = l.length := by omega
      subst this
      rw [Nat.sub_self] at hi
      cases hi
      rw [pk_us, pk_us]
      exact ⟨rfl, rfl⟩
def pr_X4_collect : SPre := fun As σ => ∃ ctx : Int32, As = [.ref 11, .ref 1, .int ctx] ∧ (LI σ ∧ ∃ c : Nat, ctx = nI c ∧ c < tn (σ 2 1))
def po_X4_collect : SPost := fun As σ r τ => match As with
  | [.ref _, .ref _, .int ctx] => (fr [11, 12, 13, 14] σ τ ∧ ∃ (g : Nat → Int32) (f : Nat), isRows g f (σ 3) (mC σ) (tn ctx) ∧ fgOK τ (FL (fun i => tn (g i)) f) ∧ (FL (fun i => tn (g i)) f).length ≤ 240)
  | _ => True
def ms_X4_collect : List Me := [(25, 0, 5, 2, true, pr_X5_meaningRows, po_X5_meaningRows), (31, 1, 0, 2, true, pr_X7_beginsWith, po_X7_beginsWith), (37, 0, 4, 2, false, pr_X4_add, po_X4_add)]
theorem mk_X4_collect : ∀ q ∈ ms_X4_collect, kp_okM layC RX4 4 q := List.forall_mem_cons.mpr ⟨Or.inl ⟨3, yX5_meaningRows, cX5_meaningRows, 6, (some .int), c_X5_meaningRows, by omega, by decide, rfl, lk_X4_25⟩, List.forall_mem_cons.mpr ⟨Or.inl ⟨2, yX7_beginsWith, cX7_beginsWith, 2, (some .boolean), c_X7_beginsWith, by omega, by decide, rfl, lk_X4_31⟩, List.forall_mem_cons.mpr ⟨Or.inl ⟨0, yX4_add, cX4_add, 3, none, c_X4_add, by omega, by decide, rfl, lk_X4_37⟩, fun _ h => absurd h List.not_mem_nil⟩⟩⟩
set_option maxRecDepth 100000 in
theorem v_X4_collect {J : Nat → Lcl → List Value → Sg → Prop} {Q : Int32 → Sg → Prop} (ctx : Int32) (σ : Sg) (h : pr_X5_meaningRows [.ref 1, .int ctx, .ref 12] σ ∧ ∀ (x2 : Int32) (τ1 : Sg), po_X5_meaningRows [.ref 1, .int ctx, .ref 12] σ x2 τ1 → (J 18 [some (.ref 11), some (.ref 1), some (.int ctx), some (.int x2), some (.int (nI 0)), none] [] (kp_up τ1 11 3 (nI 0)))) : kp_T layC gl_X4 pl_X4 (ms_X4_collect) tb_X4_collect (kp_rk none) J Q 51 tb_X4_collect (kp_en [.ref 11, .ref 1, .int ctx] 6) [] σ := h
set_option maxRecDepth 100000 in
theorem v_X4_collect_18 {J : Nat → Lcl → List Value → Sg → Prop} {Q : Int32 → Sg → Prop} (ctx found first : Int32) (o5 : Option Value) (σ : Sg) (h : (¬ first < found → Q (nI 0) σ) ∧ (first < found → J 30 [some (.ref 11), some (.ref 1), some (.int ctx), some (.int found), some (.int first), some (.int (first + (nI 1)))] [] σ)) : kp_T1 layC gl_X4 pl_X4 (ms_X4_collect) tb_X4_collect (kp_rk none) J Q 51 18 [some (.ref 11), some (.ref 1), some (.int ctx), some (.int found), some (.int first), o5] [] σ := h
set_option maxRecDepth 100000 in
theorem v_X4_collect_30 {J : Nat → Lcl → List Value → Sg → Prop} {Q : Int32 → Sg → Prop} (ctx found first second : Int32) (σ : Sg) (h : (¬ second < found → J 18 [some (.ref 11), some (.ref 1), some (.int ctx), some (.int found), some (.int (first + nI 1)), some (.int second)] [] σ) ∧ (second < found → vp_in second 120 ∧ (vp_in first 120 ∧ (pr_X7_beginsWith [.int (σ 12 (second).toNatClampNeg), .int (σ 12 (first).toNatClampNeg)] σ ∧ ∀ (x2 : Int32) (τ1 : Sg), po_X7_beginsWith [.int (σ 12 (second).toNatClampNeg), .int (σ 12 (first).toNatClampNeg)] σ x2 τ1 → ((x2 = (nI 0) → J 30 [some (.ref 11), some (.ref 1), some (.int ctx), some (.int found), some (.int first), some (.int (second + nI 1))] [] τ1) ∧ (¬ x2 = (nI 0) → vp_in first 120 ∧ (vp_in second 120 ∧ (pr_X4_add [.ref 11, .int (τ1 12 (first).toNatClampNeg), .int (τ1 12 (second).toNatClampNeg)] τ1 ∧ ∀ (τ3 : Sg), po_X4_add [.ref 11, .int (τ1 12 (first).toNatClampNeg), .int (τ1 12 (second).toNatClampNeg)] τ1 (nI 0) τ3 → (J 30 [some (.ref 11), some (.ref 1), some (.int ctx), some (.int found), some (.int first), some (.int (second + nI 1))] [] τ3))))))))) : kp_T1 layC gl_X4 pl_X4 (ms_X4_collect) tb_X4_collect (kp_rk none) J Q 51 30 [some (.ref 11), some (.ref 1), some (.int ctx), some (.int found), some (.int first), some (.int second)] [] σ := h
abbrev iv_X4_collect : List Value → Sg → Nat → Nat → Lcl → List Value → Sg → Prop := fun As σ n pc ls st τ => st = [] ∧ ∃ (c f a : Nat), As = [.ref 11, .ref 1, .int (nI c)] ∧ c < tn (σ 2 1) ∧ f ≤ 120 ∧ fr [11, 12, 13, 14] σ τ ∧ isRows (τ 12) f (σ 3) (mC σ) c ∧ ((pc = 18 ∧ a ≤ f ∧ n = 1000 * (f - a) + 999 ∧ (∃ o5, ls = [some (.ref 11), some (.ref 1), some (.int (nI c)), some (.int (nI f)), some (.int (nI a)), o5]) ∧ fgOK τ (fOut (fun i => tn (τ 12 i)) f a)) ∨ (pc = 30 ∧ a < f ∧ ∃ b, a < b ∧ b ≤ f ∧ n = 1000 * (f - a) + (f - b) ∧ ls = [some (.ref 11), some (.ref 1), some (.int (nI c)), some (.int (nI f)), some (.int (nI a)), some (.int (nI b))] ∧ fgOK τ (fOut (fun i => tn (τ 12 i)) f a ++ fIn (fun i => tn (τ 12 i)) a b)))
set_option maxRecDepth 100000 in
set_option maxHeartbeats 4000000 in
theorem c_X4_collect : kp_Met layC 4 yX4_collect cX4_collect 6 none (pr_X4_collect) (po_X4_collect) := by
  refine kp_met (N := 51) (by decide) tk_X4_collect gk_X4 pk_X4 (mk_X4_collect) rfl (iv_X4_collect) ?_ ?_
  · rintro As σ ⟨ctx, rfl, hp⟩
    refine ⟨⟨rfl, Nat.le_of_ble_eq_true rfl⟩, v_X4_collect ctx σ ?_⟩
    obtain ⟨hL, c, rfl, hc⟩ := hp
    have := tn_lt (σ 2 1)
    refine ⟨⟨_, rfl, hL, c, rfl, hc⟩, ?_⟩
    rintro x2 τ1 ⟨h1, f, rfl, h2, h3⟩
    rw [tn_nI (show c < 2 ^ 31 by omega)] at h3
    refine ⟨1000 * (f - 0) + 999, rfl, c, f, 0, rfl, hc, h2, fr_up (fr_mono h1 (by decide)) (by decide), ?_, Or.inl ⟨rfl, by omega, rfl, ⟨none, rfl⟩, ?_⟩⟩
    · rw [up_c (by decide)]; exact h3
    · exact ⟨by rw [up_s]; rfl, fun i p hi => by simp [fOut] at hi⟩
  · rintro As σ ⟨ctx, rfl, hp⟩ n pc ls st τ hI
    obtain ⟨⟨hcx, hbo⟩, -⟩ := hp
    obtain ⟨rfl, c, f, a, hAs, hcn, hf, hfr, hrows, hI⟩ := hI
    cases hAs
    have := tn_lt (σ 2 1)
    have hok := rows_ok hbo hrows
    have hsr := hrows.1.2
    rcases hI with ⟨rfl, haf, rfl, ⟨o5, rfl⟩, hfg⟩ | ⟨rfl, haf, b, hab, hbf, rfl, rfl, hfg⟩
    · refine v_X4_collect_18 _ _ _ o5 τ ?_
      rw [nI_ltI (by omega) (by omega), nI_add]
      refine ⟨fun g1 => ⟨hfr, τ 12, f, by rw [tn_nI (by omega)]; exact hrows, ?_, ?_⟩, fun g1 => ?_⟩
      · have : a = f := by omega
        subst this; exact hfg
      · have := fOut_le hok hsr f (Nat.le_refl _)
        unfold FL; omega
      · refine ⟨1000 * (f - a) + (f - (a + 1)), by omega, rfl, c, f, a, rfl, hcn, hf, hfr, hrows, Or.inr ⟨rfl, g1, a + 1, by omega, by omega, rfl, rfl, ?_⟩⟩
        rw [fIn_low hok hsr g1 (a + 1) (by omega), List.append_nil]; exact hfg
    · refine v_X4_collect_30 _ _ _ _ τ ?_
      have ea : (nI a).toNatClampNeg = a := nI_clamp (by omega)
      have eb : (nI b).toNatClampNeg = b := nI_clamp (by omega)
      rw [nI_ltI (by omega) (by omega), ea, eb, nI_add, nI_add]
      refine ⟨fun g1 => ?_, fun g1 => ⟨(kp_in (by omega)).mpr (by omega), (kp_in (by omega)).mpr (by omega), ⟨_, _, rfl, tn (τ 12 b), tn (τ 12 a), hrows.1.1 b g1, rowOK_lt (hok b g1), hrows.1.1 a haf, rowOK_lt (hok a haf)⟩, ?_⟩⟩
      · have : b = f := by omega
        subst this
        exact ⟨1000 * (b - (a + 1)) + 999, by omega, rfl, c, b, a + 1, rfl, hcn, hf, hfr, hrows, Or.inl ⟨rfl, by omega, rfl, ⟨_, rfl⟩, hfg⟩⟩
      · rintro x2 τ1 ⟨rfl, rfl⟩
        have hne : tn (τ1 12 b) ≠ tn (τ1 12 a) := by have := hsr a b hab g1; omega
        rw [← bgn_iff (hok a haf) (hok b g1) hne, bI_0]
        refine ⟨fun g2 => ?_, fun g2 => ⟨(kp_in (by omega)).mpr (by omega), (kp_in (by omega)).mpr (by omega), ?_⟩⟩
        · refine ⟨1000 * (f - a) + (f - (b + 1)), by omega, rfl, c, f, a, rfl, hcn, hf, hfr, hrows, Or.inr ⟨rfl, haf, b + 1, by omega, by omega, rfl, rfl, ?_⟩⟩
          rw [fIn, if_neg (by rw [g2]; decide), List.append_nil]; exact hfg
        · have g2 : bgn (tn (τ1 12 a)) (tn (τ1 12 b)) = true := by simpa using g2
          have hlen : (fOut (fun i => tn (τ1 12 i)) f a ++ fIn (fun i => tn (τ1 12 i)) a b).length < 240 := by
            have h1 := fOut_le hok hsr (a + 1) (by omega)
            rw [fOut, List.length_append] at h1
            have h2 := fIn_mono (G := fun i => tn (τ1 12 i)) (a := a) (f - (b + 1)) (b + 1)
            rw [show b + 1 + (f - (b + 1)) = f by omega, fIn, if_pos g2, List.length_append] at h2
            rw [List.length_append]
            simp only [List.length_cons, List.length_nil] at h2
            omega
          refine ⟨⟨_, _, rfl, _, hfg.1, hlen⟩, ?_⟩
          rintro τ3 rfl
          refine ⟨1000 * (f - a) + (f - (b + 1)), by omega, rfl, c, f, a, rfl, hcn, hf, fr_up (fr_up (fr_up hfr (by decide)) (by decide)) (by decide), ?_, Or.inr ⟨rfl, haf, b + 1, by omega, by omega, rfl, rfl, ?_⟩⟩
          · simp (disch := decide) only [up_c, kp_up_eq, pk_us, pk_un]
            exact hrows
          · have e12 : kp_up (kp_up (kp_up τ1 13 (tn (τ1 11 3)) (τ1 12 a)) 14 (tn (τ1 11 3)) (τ1 12 b)) 11 3 (τ1 11 3 + nI 1) 12 = τ1 12 := by simp (disch := decide) only [up_c, kp_up_eq, pk_us, pk_un]
            rw [e12, fIn, if_pos g2, ← List.append_assoc]
            have := fgOK_add (x := tn (τ1 12 a)) (y := tn (τ1 12 b)) hfg hlen
            rw [← hrows.1.1 b g1, ← hrows.1.1 a haf] at this
            exact this
