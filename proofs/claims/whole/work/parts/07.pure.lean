/-! numbers, rows and maps: what both classes speak of -/
def layC : List Ds := [.inl (8, [some 1, some 7, some 10, some 11, some 15, some 18, some 23, some 38]), .inl (5, [some 2, some 4]), .inl (2, [some 3, none]), .inr (0, 12, []), .inl (1, [some 5, some 6, none]), .inr (0, 120, []), .inr (0, 120, []), .inl (1, [some 8, some 9, none]), .inr (0, 120, []), .inr (0, 120, []), .inr (0, 240, []), .inl (4, [some 12, some 13, some 14, none]), .inr (0, 120, []), .inr (0, 240, []), .inr (0, 240, []), .inl (7, [some 16, some 17, none, none, none, none, none, none]), .inr (0, 400, []), .inr (0, 400, []), .inl (3, [some 19, some 20, some 21, some 22]), .inr (0, 241, []), .inr (0, 40, []), .inr (0, 40, []), .inr (0, 40, []), .inl (0, [some 24, some 25, none, some 26, none, none, none, some 27, some 28, some 29, some 36, some 37]), .inr (0, 6, []), .inr (0, 6, []), .inr (0, 8, []), .inr (0, 6, []), .inr (0, 6, []), .inr (2, 6, [30, 31, 32, 33, 34, 35]), .inr (0, 8, []), .inr (0, 8, []), .inr (0, 8, []), .inr (0, 8, []), .inr (0, 8, []), .inr (0, 8, []), .inr (0, 7, []), .inr (1, 36, []), .inl (6, [some 39]), .inr (0, 40, [])]
def layM : List Ds := [.inl (9, [none, some 1, none, none, none, none, none, none, none, none, none, none, some 2, some 3, some 4, some 5, some 6, some 7, some 8, some 9, some 10, none, some 11, some 12, some 13, some 14, some 15, some 16, some 17, some 18, none, some 19, some 20, none, none, none]), .inr (0, 12, []), .inr (0, 120, []), .inr (0, 120, []), .inr (0, 120, []), .inr (0, 120, []), .inr (0, 120, []), .inr (0, 120, []), .inr (0, 8, []), .inr (0, 400, []), .inr (0, 400, []), .inr (0, 241, []), .inr (0, 40, []), .inr (0, 40, []), .inr (0, 40, []), .inr (0, 6, []), .inr (0, 6, []), .inr (0, 8, []), .inr (0, 120, []), .inr (0, 6, []), .inr (0, 6, [])]
def tn (x : Int32) : Nat := x.toNatClampNeg
def bI (b : Bool) : Int32 := if b = true then nI 1 else nI 0
theorem bI_t : bI true = nI 1 := rfl
theorem bI_f : bI false = nI 0 := rfl
theorem bI_01 (b : Bool) : bI b = nI 0 ∨ bI b = nI 1 := by cases b <;> simp [bI]
theorem bI_0 {b : Bool} : bI b = nI 0 ↔ b = false := by cases b <;> decide
theorem bI_1 {b : Bool} : bI b = nI 1 ↔ b = true := by cases b <;> decide
theorem kp_in {a n : Nat} (h : a < 2 ^ 31) : vp_in (nI a) n ↔ a < n := by
  rw [vp_in_iff, nI_toInt h]; omega
theorem tn_nI {a : Nat} (h : a < 2 ^ 31) : tn (nI a) = a := nI_clamp h
theorem nI_tn {x : Int32} (h : ¬ x < nI 0) : nI (tn x) = x := by
  obtain ⟨j, hj, rfl⟩ := nI_of (show ¬ x < 0 from h)
  rw [tn_nI hj]
theorem tn_lt (x : Int32) : tn x < 2 ^ 31 := by
  unfold tn Int32.toNatClampNeg
  have := x.toInt_lt
  omega
theorem lt_I {x y : Int32} : x < y ↔ x.toInt < y.toInt := Int32.lt_iff_toInt_lt
theorem le_I {x y : Int32} : x ≤ y ↔ x.toInt ≤ y.toInt := Int32.le_iff_toInt_le
theorem eq_I {x y : Int32} : x = y ↔ x.toInt = y.toInt := Int32.toInt_inj.symm
theorem up_s {σ : Sg} {c k : Nat} {x : Int32} : kp_up σ c k x c k = x := by simp [kp_up, upd]
theorem up_n {σ : Sg} {c k : Nat} {x : Int32} {j : Nat} (h : j ≠ k) : kp_up σ c k x c j = σ c j := by simp [kp_up, upd, h]
theorem up_c {σ : Sg} {c k : Nat} {x : Int32} {a : Nat} (h : a ≠ c) : kp_up σ c k x a = σ a := if_neg h
theorem up_g {σ : Sg} {c k : Nat} {x : Int32} {a j : Nat} : kp_up σ c k x a j = if a = c ∧ j = k then x else σ a j := by
  unfold kp_up upd
  by_cases h1 : a = c
  · subst h1
    by_cases h2 : j = k <;> simp [h2]
  · simp [h1]
/-- all cells but those stay -/
def fr (l : List Nat) (σ τ : Sg) : Prop := ∀ c, c ∉ l → τ c = σ c
theorem fr_rf {l : List Nat} {σ : Sg} : fr l σ σ := fun _ _ => rfl
theorem fr_up {l : List Nat} {σ τ : Sg} {c k : Nat} {x : Int32} (h : fr l σ τ) (hc : c ∈ l) : fr l σ (kp_up τ c k x) := fun a ha => by
  have hne : a ≠ c := fun e => ha (by rw [e]; exact hc)
  rw [up_c hne]
  exact h a ha
theorem fr_tr {l : List Nat} {σ τ υ : Sg} (h : fr l σ τ) (h2 : fr l τ υ) : fr l σ υ := fun a ha => (h2 a ha).trans (h a ha)
theorem fr_mono {l l' : List Nat} {σ τ : Sg} (h : fr l σ τ) (hs : ∀ c ∈ l, c ∈ l') : fr l' σ τ := fun a ha => h a (fun q => ha (hs a q))
