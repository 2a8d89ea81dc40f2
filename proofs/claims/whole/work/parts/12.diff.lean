/-! what two maps have otherwise: KeyPlan$Bindings.differences -/
/-- the keys g 0 .. g (f - 1), rising, are just those that M and K have otherwise -/
def isD (g : Nat → Int32) (f : Nat) (M K : Nat → Int32) : Prop := (∀ i, i < f → g i = nI (tn (g i))) ∧ (∀ i j, i < j → j < f → tn (g i) < tn (g j)) ∧ ∀ k, M k ≠ K k ↔ ∃ i, i < f ∧ tn (g i) = k
def df_P (a : Nat → Nat) (m : Nat) (b : Nat → Nat) (t : Nat) (k : Nat) : Prop := (∃ p, p < m ∧ a p = k) ∨ ∃ q, q < t ∧ b q = k
def df_I (a : Nat → Nat) (zA : Nat) (b : Nat → Nat) (zB : Nat) (M K g : Nat → Int32) (f m t : Nat) : Prop :=
  m ≤ zA ∧ t ≤ zB ∧ (∀ i j, i < m → t ≤ j → j < zB → a i < b j) ∧ (∀ i j, m ≤ i → i < zA → j < t → b j < a i) ∧
  (∀ i, i < f → g i = nI (tn (g i)) ∧ df_P a m b t (tn (g i))) ∧ (∀ i j, i < j → j < f → tn (g i) < tn (g j)) ∧ ∀ k, df_P a m b t k → (M k ≠ K k ↔ ∃ i, i < f ∧ tn (g i) = k)
def df_hm (a : Nat → Nat) (zA : Nat) (b : Nat → Nat) (zB m t : Nat) : Bool := decide (m < zA ∧ (zB ≤ t ∨ a m ≤ b t))
def df_ht (a : Nat → Nat) (zA : Nat) (b : Nat → Nat) (zB m t : Nat) : Bool := decide (t < zB ∧ (zA ≤ m ∨ b t ≤ a m))
/-- one step of the walk over both -/
theorem df_step {a : Nat → Nat} {zA : Nat} {b : Nat → Nat} {zB : Nat} {M K g g' : Nat → Int32} {f f' m t m' t' k0 : Nat} (hA : ∀ i j, i < j → j < zA → a i < a j) (hB : ∀ i j, i < j → j < zB → b i < b j)
    (h : df_I a zA b zB M K g f m t) (hm' : m ≤ m') (ht' : t ≤ t') (hmA : m' ≤ zA) (htB : t' ≤ zB)
    (hlo : ∀ k, df_P a m b t k → k < k0) (hP : ∀ k, df_P a m' b t' k ↔ df_P a m b t k ∨ k = k0)
    (hs1 : ∀ i j, i < m' → t' ≤ j → j < zB → a i < b j) (hs2 : ∀ i j, m' ≤ i → i < zA → j < t' → b j < a i) (hk0 : k0 < 2 ^ 31)
    (hg : (M k0 = K k0 ∧ f' = f ∧ g' = g) ∨ (M k0 ≠ K k0 ∧ f' = f + 1 ∧ g' = upd g f (nI k0))) : df_I a zA b zB M K g' f' m' t' := by
  obtain ⟨h1, h2, h3, h4, h5, h6, h7⟩ := h
  rcases hg with ⟨e, rfl, rfl⟩ | ⟨e, rfl, rfl⟩
  · refine ⟨hmA, htB, hs1, hs2, fun i hi => ⟨(h5 i hi).1, (hP _).mpr (Or.inl (h5 i hi).2)⟩, h6, fun k hk => ?_⟩
    rcases (hP k).mp hk with q | q
    · exact h7 k q
    · subst q
      refine ⟨fun z => absurd e z, fun ⟨i, hi, ei⟩ => ?_⟩
      have := hlo _ (h5 i hi).2
      omega
  · have gn : ∀ i, i < f → upd g f (nI k0) i = g i := fun i hi => by simp only [upd]; rw [if_neg (by omega)]
    have gf : upd g f (nI k0) f = nI k0 := by simp [upd]
    refine ⟨hmA, htB, hs1, hs2, fun i hi => ?_, fun i j hij hj => ?_, fun k hk => ?_⟩
    · by_cases q : i = f
      · subst q
        rw [gf, tn_nI hk0]
        exact ⟨rfl, (hP _).mpr (Or.inr rfl)⟩
      · rw [gn i (by omega)]
        exact ⟨(h5 i (by omega)).1, (hP _).mpr (Or.inl (h5 i (by omega)).2)⟩
    · rw [gn i (by omega)]
      by_cases q : j = f
      · subst q
        rw [gf, tn_nI hk0]
        exact hlo _ (h5 i (by omega)).2
      · rw [gn j (by omega)]
        exact h6 i j hij (by omega)
    · by_cases q : k = k0
      · subst q
        exact ⟨fun _ => ⟨f, by omega, by rw [gf, tn_nI hk0]⟩, fun _ => e⟩
      · have hk := ((hP k).mp hk).resolve_right q
        rw [h7 k hk]
        constructor
        · rintro ⟨i, hi, ei⟩
          exact ⟨i, by omega, by rw [gn i hi]; exact ei⟩
        · rintro ⟨i, hi, ei⟩
          by_cases z : i = f
          · subst z
            rw [gf, tn_nI hk0] at ei
            exact absurd ei.symm q
          · rw [gn i (by omega)] at ei
            exact ⟨i, by omega, ei⟩
theorem df_P_s {a b : Nat → Nat} {m t k : Nat} : df_P a (m + 1) b t k ↔ df_P a m b t k ∨ k = a m := by
  unfold df_P
  constructor
  · rintro (⟨p, hp, e⟩ | h)
    · by_cases q : p = m
      · subst q; exact Or.inr e.symm
      · exact Or.inl (Or.inl ⟨p, by omega, e⟩)
    · exact Or.inl (Or.inr h)
  · rintro ((⟨p, hp, e⟩ | h) | h)
    · exact Or.inl ⟨p, by omega, e⟩
    · exact Or.inr h
    · exact Or.inl ⟨m, by omega, h.symm⟩
theorem df_P_t {a b : Nat → Nat} {m t k : Nat} : df_P a m b (t + 1) k ↔ df_P a m b t k ∨ k = b t := by
  unfold df_P
  constructor
  · rintro (h | ⟨p, hp, e⟩)
    · exact Or.inl (Or.inl h)
    · by_cases q : p = t
      · subst q; exact Or.inr e.symm
      · exact Or.inl (Or.inr ⟨p, by omega, e⟩)
  · rintro ((h | ⟨p, hp, e⟩) | h)
    · exact Or.inl h
    · exact Or.inr ⟨p, by omega, e⟩
    · exact Or.inr ⟨t, by omega, h.symm⟩
/-- mine alone -/
theorem df_mine {a : Nat → Nat} {zA : Nat} {b : Nat → Nat} {zB : Nat} {M K g : Nat → Int32} {f m t : Nat} (hA : ∀ i j, i < j → j < zA → a i < a j) (hB : ∀ i j, i < j → j < zB → b i < b j) (hk : a m < 2 ^ 31) (h : df_I a zA b zB M K g f m t) (h1 : df_hm a zA b zB m t = true) (h2 : df_ht a zA b zB m t = false) (hM : M (a m) ≠ K (a m)) : df_I a zA b zB M K (upd g f (nI (a m))) (f + 1) (m + 1) t := by
  have h1 := of_decide_eq_true h1
  have h2 := of_decide_eq_false h2
  obtain ⟨i1, i2, i3, i4, -⟩ := id h
  refine df_step hA hB h (by omega) (by omega) (by omega) (by omega) (fun k hk => ?_) (fun k => df_P_s) (fun i j hi hj hz => ?_) (fun i j hi hz hj => ?_) hk (Or.inr ⟨hM, rfl, rfl⟩)
  · rcases hk with ⟨p, hp, rfl⟩ | ⟨q, hq, rfl⟩
    · exact hA p m hp h1.1
    · exact i4 m q (by omega) h1.1 hq
  · by_cases q : i = m
    · subst q
      have a1 : a i < b t := by omega
      by_cases z : j = t
      · subst z; exact a1
      · have := hB t j (by omega) hz; omega
    · exact i3 i j (by omega) hj hz
  · exact i4 i j (by omega) hz hj
/-- theirs alone -/
theorem df_their {a : Nat → Nat} {zA : Nat} {b : Nat → Nat} {zB : Nat} {M K g : Nat → Int32} {f m t : Nat} (hA : ∀ i j, i < j → j < zA → a i < a j) (hB : ∀ i j, i < j → j < zB → b i < b j) (hk : b t < 2 ^ 31) (h : df_I a zA b zB M K g f m t) (h1 : df_hm a zA b zB m t = false) (h2 : df_ht a zA b zB m t = true) (hM : M (b t) ≠ K (b t)) : df_I a zA b zB M K (upd g f (nI (b t))) (f + 1) m (t + 1) := by
  have h1 := of_decide_eq_false h1
  have h2 := of_decide_eq_true h2
  obtain ⟨i1, i2, i3, i4, -⟩ := id h
  refine df_step hA hB h (by omega) (by omega) (by omega) (by omega) (fun k hk => ?_) (fun k => df_P_t) (fun i j hi hj hz => ?_) (fun i j hi hz hj => ?_) hk (Or.inr ⟨hM, rfl, rfl⟩)
  · rcases hk with ⟨p, hp, rfl⟩ | ⟨q, hq, rfl⟩
    · exact i3 p t hp (by omega) h2.1
    · exact hB q t hq h2.1
  · exact i3 i j hi (by omega) hz
  · by_cases q : j = t
    · subst q
      have a1 : b j < a m := by omega
      by_cases z : i = m
      · subst z; exact a1
      · have := hA m i (by omega) hz; omega
    · exact i4 i j hi hz (by omega)
/-- both -/
theorem df_both {a : Nat → Nat} {zA : Nat} {b : Nat → Nat} {zB : Nat} {M K g g' : Nat → Int32} {f f' m t : Nat} (hA : ∀ i j, i < j → j < zA → a i < a j) (hB : ∀ i j, i < j → j < zB → b i < b j) (hk : a m < 2 ^ 31) (h : df_I a zA b zB M K g f m t) (h1 : df_hm a zA b zB m t = true) (h2 : df_ht a zA b zB m t = true) (hg : (M (a m) = K (a m) ∧ f' = f ∧ g' = g) ∨ (M (a m) ≠ K (a m) ∧ f' = f + 1 ∧ g' = upd g f (nI (a m)))) : df_I a zA b zB M K g' f' (m + 1) (t + 1) := by
  have h1 := of_decide_eq_true h1
  have h2 := of_decide_eq_true h2
  have he : a m = b t := by omega
  obtain ⟨i1, i2, i3, i4, -⟩ := id h
  refine df_step hA hB h (by omega) (by omega) (by omega) (by omega) (fun k hk => ?_) (fun k => ?_) (fun i j hi hj hz => ?_) (fun i j hi hz hj => ?_) hk hg
  · rcases hk with ⟨p, hp, rfl⟩ | ⟨q, hq, rfl⟩
    · exact hA p m hp h1.1
    · exact i4 m q (by omega) h1.1 hq
  · rw [df_P_t, df_P_s, ← he]
    constructor
    · rintro ((h | h) | h)
      · exact Or.inl h
      · exact Or.inr h
      · exact Or.inr h
    · rintro (h | h)
      · exact Or.inl (Or.inl h)
      · exact Or.inr h
  · have := hB t j (by omega) hz
    by_cases q : i = m
    · subst q; omega
    · have := hA i m (by omega) h1.1; omega
  · have := hA m i (by omega) hz
    by_cases q : j = t
    · subst q; omega
    · have := hB j t (by omega) h2.1; omega
theorem df_one {a : Nat → Nat} {zA : Nat} {b : Nat → Nat} {zB m t : Nat} (h : m < zA ∨ t < zB) (hf : df_hm a zA b zB m t = false) : df_ht a zA b zB m t = true := by
  have := of_decide_eq_false hf
  exact decide_eq_true (by omega)
