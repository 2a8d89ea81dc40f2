/-! the class and the model side by side -/
theorem pre_uniq {G G' : Nat → Nat} {f m : Nat} (h1 : ∀ i j, i < j → j < f → G i < G j) (h2 : ∀ i j, i < j → j < m → G' i < G' j) (h3 : ∀ i, i < m → ∃ j, j < f ∧ G j = G' i) (h4 : ∀ j i, j < f → i < m → G j < G' i → ∃ p, p < m ∧ G' p = G j) : ∀ n, n ≤ m → n ≤ f ∧ ∀ i, i < n → G i = G' i := by
  intro n
  induction n with
  | zero => exact fun _ => ⟨Nat.zero_le _, fun i hi => by omega⟩
  | succ n ih =>
    intro hn
    obtain ⟨a1, a2⟩ := ih (by omega)
    obtain ⟨j, hj, ej⟩ := h3 n (by omega)
    have : j = n := by
      rcases Nat.lt_trichotomy j n with q | q | q
      · have := a2 j q
        have := h2 j n q (by omega)
        omega
      · exact q
      · have hlt := h1 n j q hj
        obtain ⟨p, hp, ep⟩ := h4 n n (by omega) (by omega) (by omega)
        have hpn : p < n := by
          rcases Nat.lt_trichotomy p n with z | z | z
          · exact z
          · subst z; omega
          · have := h2 n p z hp; omega
        have := a2 p hpn
        have := h1 p n hpn (by omega)
        omega
    subst this
    refine ⟨by omega, fun i hi => ?_⟩
    by_cases e : i = j
    · rw [e, ej]
    · exact a2 i (by omega)
theorem srt_uniq {G G' : Nat → Nat} {f m : Nat} (h1 : ∀ i j, i < j → j < f → G i < G j) (h2 : ∀ i j, i < j → j < m → G' i < G' j) (h : ∀ k, (∃ i, i < f ∧ G i = k) ↔ ∃ i, i < m ∧ G' i = k) : f = m ∧ ∀ i, i < f → G i = G' i := by
  obtain ⟨a1, a2⟩ := pre_uniq h1 h2 (fun i hi => (h (G' i)).mpr ⟨i, hi, rfl⟩) (fun j i hj _ _ => (h (G j)).mp ⟨j, hj, rfl⟩) m (Nat.le_refl _)
  obtain ⟨b1, b2⟩ := pre_uniq h2 h1 (fun i hi => (h (G i)).mp ⟨i, hi, rfl⟩) (fun j i hj _ _ => (h (G' j)).mpr ⟨j, hj, rfl⟩) f (Nat.le_refl _)
  exact ⟨by omega, fun i hi => a2 i (by omega)⟩
theorem rows_uniq {g g' : Nat → Int32} {f f' : Nat} {o M : Nat → Int32} {c : Nat} (h : isRows g f o M c) (h' : isRows g' f' o M c) : FL (fun i => tn (g i)) f = FL (fun i => tn (g' i)) f' := by
  obtain ⟨e, e2⟩ := srt_uniq (G := fun i => tn (g i)) (G' := fun i => tn (g' i)) h.1.2 h'.1.2 (fun k => (h.2 k).trans (h'.2 k).symm)
  subst e
  exact FL_congr e2
theorem isD_uniq {g g' : Nat → Int32} {f f' : Nat} {M K : Nat → Int32} (h : isD g f M K) (h' : isD g' f' M K) : f = f' ∧ ∀ i, i < f → tn (g i) = tn (g' i) :=
  srt_uniq (G := fun i => tn (g i)) (G' := fun i => tn (g' i)) h.2.1 h'.2.1 (fun k => (h.2.2 k).symm.trans (h'.2.2 k))
theorem isDp_uniq {g g' : Nat → Int32} {f m lo : Nat} {M K : Nat → Int32} (h : isD g f M K) (h' : isDp g' m lo M K) : m ≤ f ∧ ∀ i, i < m → tn (g i) = tn (g' i) :=
  pre_uniq (G := fun i => tn (g i)) (G' := fun i => tn (g' i)) h.2.1 h'.2.1 (fun i hi => (h.2.2 _).mp ((h'.2.2.2 _ (h'.2.2.1 i hi)).mpr ⟨i, hi, rfl⟩)) (fun j i hj hi hlt => (h'.2.2.2 _ (Nat.lt_trans hlt (h'.2.2.1 i hi))).mp ((h.2.2 _).mpr ⟨j, hj, rfl⟩)) m (Nat.le_refl _)
theorem ch_same {g g' : Nat → Int32} {f m lo : Nat} {M K : Nat → Int32} {i w r : Int32} (hi : ¬ i < nI 0) (hw : inR w (nI 0) (nI 3) = true) (h : isD g f M K) (h' : isDp g' m lo M K) (hr : (m = tn i + 1 ∧ r = chV M K (tn (g' (tn i))) w) ∨ (m ≤ tn i ∧ (∀ k, lo ≤ k → M k = K k) ∧ r = -1)) : r = chA g f M K i w := by
  unfold chA
  rw [if_neg hi]
  obtain ⟨a1, a2⟩ := isDp_uniq h h'
  rcases hr with ⟨e, rfl⟩ | ⟨e, he, rfl⟩
  · rw [if_pos (by omega), a2 (tn i) (by omega)]
    unfold chV
    by_cases w0 : w = nI 0
    · rw [if_pos w0, if_pos w0]
    · rw [if_neg w0, if_neg w0]
      by_cases w1 : w = nI 1
      · rw [if_pos w1, if_pos w1]
      · rw [if_neg w1, if_neg w1]
        by_cases w2 : w = nI 2
        · rw [if_pos w2, if_pos w2]
        · rw [if_neg w2, if_neg w2]
          have w3 : w = nI 3 := by
            obtain ⟨b1, b2, b3⟩ := inR_nat (by omega) (by omega) hw
            rw [nn_eq b1 (by omega)] at w0 w1 w2
            rw [nn_eq b1 (by omega)]; omega
          rw [if_pos w3]
  · obtain ⟨e1, -⟩ := isD_uniq h (isDp_end h' he)
    rw [if_neg (by omega)]
theorem ch_out {g : Nat → Int32} {f : Nat} {M K : Nat → Int32} {i w : Int32} (h : i < nI 0 ∨ ¬ inR w (nI 0) (nI 3) = true) : chA g f M K i w = -1 := by
  unfold chA
  by_cases hi : i < nI 0
  · rw [if_pos hi]
  · rw [if_neg hi]
    have hw := h.resolve_left hi
    have key : ∀ v : Nat, v ≤ 3 → w ≠ nI v := fun v hv e => hw (by rw [e]; exact inR_iff.mpr ⟨by rw [nI_ltI (by omega) (by omega)]; omega, by rw [nI_ltI (by omega) (by omega)]; omega⟩)
    rw [if_neg (key 0 (by omega)), if_neg (key 1 (by omega)), if_neg (key 2 (by omega)), if_neg (key 3 (by omega))]
    split <;> rfl
-- the relation
def RA (σ τ : Sg) : Prop := σ 2 1 = τ 0 2 ∧ σ 3 = τ 1 ∧ mC σ = mM τ ∧ tn (σ 4 2) = tn (τ 0 8)
def RK (σ τ : Sg) : Prop := kC σ = kM τ ∧ tn (σ 7 2) = tn (τ 0 9)
def RT (σ τ : Sg) : Prop := tsC σ = tsM τ ∧ σ 15 4 = τ 0 3 ∧ σ 15 5 = τ 0 4 ∧ σ 15 6 = τ 0 5
def RP (σ τ : Sg) : Prop := (∀ s, s ≠ 0 → σ 19 s = τ 11 s) ∧ σ 20 = τ 12 ∧ σ 21 = τ 13 ∧ σ 22 = τ 14
def RWl (σ τ : Sg) : Prop := σ 24 = τ 15 ∧ σ 25 = τ 16 ∧ σ 26 = τ 17 ∧ σ 23 2 = τ 0 10 ∧ σ 23 4 = τ 0 11
/-- both are as they should be, and agree; at most b strokes were typed -/
def RR (b : Nat) (σ τ : Sg) : Prop := InvC σ ∧ InvM τ ∧ szT (tsC σ) ≤ b ∧ RA σ τ ∧ RK σ τ ∧ RT σ τ ∧ RP σ τ ∧ RWl σ τ
theorem RA_f {l m s : List Nat} {σ τ σ' τ' : Sg} (h : RA σ τ) (hc : fr l σ σ') (hm : fm m s τ τ') (h1 : ∀ c ∈ [2, 3, 4, 5, 6], c ∉ l) (h2 : ∀ c ∈ [1, 2, 3, 4], c ∉ m) (h3 : ∀ k ∈ [2, 8], k ∉ s) : RA σ' τ' := by
  unfold RA mC mM at *
  rw [hc 2 (h1 2 (by decide)), hc 3 (h1 3 (by decide)), hc 4 (h1 4 (by decide)), hc 5 (h1 5 (by decide)), hc 6 (h1 6 (by decide)), hm.1 1 (by decide) (h2 1 (by decide)), hm.1 2 (by decide) (h2 2 (by decide)), hm.1 3 (by decide) (h2 3 (by decide)), hm.1 4 (by decide) (h2 4 (by decide)), hm.2 2 (h3 2 (by decide)), hm.2 8 (h3 8 (by decide))]
  exact h
theorem RK_f {l m s : List Nat} {σ τ σ' τ' : Sg} (h : RK σ τ) (hc : fr l σ σ') (hm : fm m s τ τ') (h1 : ∀ c ∈ [7, 8, 9], c ∉ l) (h2 : ∀ c ∈ [5, 6, 7], c ∉ m) (h3 : ∀ k ∈ [9], k ∉ s) : RK σ' τ' := by
  unfold RK kC kM at *
  rw [hc 7 (h1 7 (by decide)), hc 8 (h1 8 (by decide)), hc 9 (h1 9 (by decide)), hm.1 5 (by decide) (h2 5 (by decide)), hm.1 6 (by decide) (h2 6 (by decide)), hm.1 7 (by decide) (h2 7 (by decide)), hm.2 9 (h3 9 (by decide))]
  exact h
theorem ts_f {l m s : List Nat} {σ τ σ' τ' : Sg} (hc : fr l σ σ') (hm : fm m s τ τ') (h1 : ∀ c ∈ [15, 16, 17], c ∉ l) (h2 : ∀ c ∈ [8, 9, 10], c ∉ m) (h3 : ∀ k ∈ [3, 4, 5, 6, 7, 21], k ∉ s) : tsC σ' = tsC σ ∧ tsM τ' = tsM τ := by
  unfold tsC tsM wM
  rw [hc 15 (h1 15 (by decide)), hc 16 (h1 16 (by decide)), hc 17 (h1 17 (by decide)), hm.1 8 (by decide) (h2 8 (by decide)), hm.1 9 (by decide) (h2 9 (by decide)), hm.1 10 (by decide) (h2 10 (by decide)), hm.2 6 (h3 6 (by decide)), hm.2 7 (h3 7 (by decide)), hm.2 21 (h3 21 (by decide))]
  exact ⟨rfl, rfl⟩
theorem RT_f {l m s : List Nat} {σ τ σ' τ' : Sg} (h : RT σ τ) (hc : fr l σ σ') (hm : fm m s τ τ') (h1 : ∀ c ∈ [15, 16, 17], c ∉ l) (h2 : ∀ c ∈ [8, 9, 10], c ∉ m) (h3 : ∀ k ∈ [3, 4, 5, 6, 7, 21], k ∉ s) : RT σ' τ' := by
  obtain ⟨e1, e2⟩ := ts_f hc hm h1 h2 h3
  unfold RT at *
  rw [e1, e2, hc 15 (h1 15 (by decide)), hm.2 3 (h3 3 (by decide)), hm.2 4 (h3 4 (by decide)), hm.2 5 (h3 5 (by decide))]
  exact h
theorem RP_f {l m s : List Nat} {σ τ σ' τ' : Sg} (h : RP σ τ) (hc : fr l σ σ') (hm : fm m s τ τ') (h1 : ∀ c ∈ [19, 20, 21, 22], c ∉ l) (h2 : ∀ c ∈ [11, 12, 13, 14], c ∉ m) : RP σ' τ' := by
  unfold RP at *
  rw [hc 19 (h1 19 (by decide)), hc 20 (h1 20 (by decide)), hc 21 (h1 21 (by decide)), hc 22 (h1 22 (by decide)), hm.1 11 (by decide) (h2 11 (by decide)), hm.1 12 (by decide) (h2 12 (by decide)), hm.1 13 (by decide) (h2 13 (by decide)), hm.1 14 (by decide) (h2 14 (by decide))]
  exact h
theorem RW_f {l m s : List Nat} {σ τ σ' τ' : Sg} (h : RWl σ τ) (hc : fr l σ σ') (hm : fm m s τ τ') (h1 : ∀ c ∈ [24, 25, 26], c ∉ l) (h2 : ∀ c ∈ [15, 16, 17], c ∉ m) (h3 : ∀ k ∈ [10, 11], k ∉ s) (e1 : σ' 23 2 = σ 23 2) (e2 : σ' 23 4 = σ 23 4) : RWl σ' τ' := by
  unfold RWl at *
  rw [hc 24 (h1 24 (by decide)), hc 25 (h1 25 (by decide)), hc 26 (h1 26 (by decide)), hm.1 15 (by decide) (h2 15 (by decide)), hm.1 16 (by decide) (h2 16 (by decide)), hm.1 17 (by decide) (h2 17 (by decide)), hm.2 10 (h3 10 (by decide)), hm.2 11 (h3 11 (by decide)), e1, e2]
  exact h
/-- only what both use for themselves has changed -/
theorem RR_f {b : Nat} {l m s : List Nat} {σ τ σ' τ' : Sg} (h : RR b σ τ) (hI : InvC σ') (hJ : InvM τ') (hc : fr l σ σ') (hm : fm m s τ τ') (h1 : ∀ c ∈ [2, 3, 4, 5, 6, 7, 8, 9, 15, 16, 17, 19, 20, 21, 22, 24, 25, 26], c ∉ l) (h2 : ∀ c ∈ [1, 2, 3, 4, 5, 6, 7, 8, 9, 10, 11, 12, 13, 14, 15, 16, 17], c ∉ m) (h3 : ∀ k ∈ [2, 3, 4, 5, 6, 7, 8, 9, 10, 11, 21], k ∉ s) (e1 : σ' 23 2 = σ 23 2) (e2 : σ' 23 4 = σ 23 4) : RR b σ' τ' := by
  obtain ⟨-, -, a0, a1, a2, a3, a4, a5⟩ := h
  have g1 : ∀ l' : List Nat, (∀ c ∈ l', c ∈ [2, 3, 4, 5, 6, 7, 8, 9, 15, 16, 17, 19, 20, 21, 22, 24, 25, 26]) → ∀ c ∈ l', c ∉ l := fun l' hl c hc => h1 c (hl c hc)
  have g2 : ∀ l' : List Nat, (∀ c ∈ l', c ∈ [1, 2, 3, 4, 5, 6, 7, 8, 9, 10, 11, 12, 13, 14, 15, 16, 17]) → ∀ c ∈ l', c ∉ m := fun l' hl c hc => h2 c (hl c hc)
  have g3 : ∀ l' : List Nat, (∀ c ∈ l', c ∈ [2, 3, 4, 5, 6, 7, 8, 9, 10, 11, 21]) → ∀ c ∈ l', c ∉ s := fun l' hl c hc => h3 c (hl c hc)
  refine ⟨hI, hJ, ?_, RA_f a1 hc hm (g1 _ (by decide)) (g2 _ (by decide)) (g3 _ (by decide)), RK_f a2 hc hm (g1 _ (by decide)) (g2 _ (by decide)) (g3 _ (by decide)), RT_f a3 hc hm (g1 _ (by decide)) (g2 _ (by decide)) (g3 _ (by decide)), RP_f a4 hc hm (g1 _ (by decide)) (g2 _ (by decide)), RW_f a5 hc hm (g1 _ (by decide)) (g2 _ (by decide)) (g3 _ (by decide)) e1 e2⟩
  rw [(ts_f hc hm (g1 _ (by decide)) (g2 _ (by decide)) (g3 _ (by decide))).1]; exact a0
theorem RS_same {b : Nat} {σ τ : Sg} (h : RR b σ τ) : RS σ = RSM τ := by
  obtain ⟨hI, hJ, -, ⟨a1, a2, a3, a4⟩, -, -, ⟨p1, p2, p3, p4⟩, ⟨w1, w2, w3, w4, w5⟩⟩ := h
  have has := hJ.2.2.2.2
  unfold RS RSM nwC noC nwM noM
  rw [w4, w5]
  refine gv_congr (fun i s hi hs => ?_) (fun i j hi hj => ?_) (fun s hs => ?_) _ 0 _ _ _ _ (Nat.zero_add _) (fun j hj => by omega)
  · show prc (σ 19) (σ 20) (σ 21) (σ 22) (tn (σ 24 i)) (tn (σ 26 s)) = prc (τ 11) (τ 12) (τ 13) (τ 14) (tn (τ 15 i)) (tn (τ 17 s))
    have := (has.2.2.2.2.2 s hs).2.1
    rw [p2, p3, p4, w1, w3]
    unfold prc
    rw [p1 (tn (τ 17 s)) (by omega)]
  · show meets (σ 3) (tn (σ 25 i)) (tn (σ 25 j)) = meets (τ 1) (tn (τ 16 i)) (tn (τ 16 j))
    rw [a2, w2]
  · show tn (σ 26 s) = tn (τ 17 s)
    rw [w3]
theorem rsm_congr {st st' : Nat → Int32} (h : ∀ s, s ≠ 0 → st s = st' s) {r : Nat} (hr : rowOK r = true) : ∀ i, i ≤ rlen r → rsm st r i = rsm st' r i
  | 0, _ => rfl
  | i + 1, hi => by rw [rsm, rsm, rsm_congr h hr i (by omega), h _ (by have := (row_stroke hr (show i < rlen r by omega)).1; omega)]
theorem isSv_congr {st st' us M : Nat → Int32} (h : ∀ s, s ≠ 0 → st s = st' s) (hM : ∀ k, M k ≠ -1 → keyOK k) {c v : Nat} (hc : c < 2 ^ 31) (hs : isSv st us M c v) : isSv st' us M c v := by
  have e : ∀ k, M k = nI c → svk st us c k = svk st' us c k := fun k hk => by
    unfold svk rst
    rw [rsm_congr h (hM k (by rw [hk]; exact nI_m1 hc)).2 _ (Nat.le_refl _)]
  refine ⟨fun k hk => by rw [← e k hk]; exact hs.1 k hk, ?_⟩
  rcases hs.2 with z | ⟨k, hk, z⟩
  · exact Or.inl z
  · exact Or.inr ⟨k, hk, by rw [← e k hk]; exact z⟩
theorem sv_same {b : Nat} {σ τ : Sg} (h : RR b σ τ) {c v : Nat} (hc : c < 2 ^ 31) (hs : isSv (σ 19) (σ 20) (mC σ) c v) : isSv (τ 11) (τ 12) (mM τ) c v := by
  obtain ⟨hI, hJ, -, ⟨a1, a2, a3, a4⟩, -, -, ⟨p1, p2, p3, p4⟩, -⟩ := h
  rw [p2, a3] at hs
  exact isSv_congr p1 (fun k hk => ((mpM_val hJ.1.2 k).resolve_left hk).1) hc hs
