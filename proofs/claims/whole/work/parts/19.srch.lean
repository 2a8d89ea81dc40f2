/-! the search for the cheapest assignment, as both classes do it -/
/-- the best so far: its sum, and the strokes that it gives -/
abbrev BS : Type := Option (Nat × List Nat)
def updN (tr : Nat → Nat) (i s : Nat) : Nat → Nat := fun j => if j = i then s else tr j
def okT (mt : Nat → Nat → Bool) (tr : Nat → Nat) (i s : Nat) : Bool := decide (∀ j, j < i → ¬ (tr j = s ∧ mt i j = true))
def vcT (nw : Nat) (of tr : Nat → Nat) : List Nat := (List.range nw).map fun j => of (tr j)
def lfT (nw : Nat) (of : Nat → Nat) (sum : Nat) (tr : Nat → Nat) (b : BS) : BS := match b with
  | none => some (sum, vcT nw of tr)
  | some q => if sum < q.1 then some (sum, vcT nw of tr) else some q
def gvL (stp : Nat → BS → BS) : Nat → Nat → BS → BS
  | 0, _, b => b
  | k + 1, s, b => gvL stp k (s + 1) (stp s b)
def gv (nw no : Nat) (P : Nat → Nat → Nat) (mt : Nat → Nat → Bool) (of : Nat → Nat) : Nat → Nat → Nat → (Nat → Nat) → BS → BS
  | 0, _, sum, tr, b => lfT nw of sum tr b
  | f + 1, i, sum, tr, b => gvL (fun s b => if okT mt tr i s = true then gv nw no P mt of f (i + 1) (sum + P i s) (updN tr i s) b else b) no 0 b
def gvS (nw no : Nat) (P : Nat → Nat → Nat) (mt : Nat → Nat → Bool) (of : Nat → Nat) (f i sum : Nat) (tr : Nat → Nat) (s : Nat) (b : BS) : BS := if okT mt tr i s = true then gv nw no P mt of f (i + 1) (sum + P i s) (updN tr i s) b else b
theorem gv_s (nw no : Nat) (P : Nat → Nat → Nat) (mt : Nat → Nat → Bool) (of : Nat → Nat) (f i sum : Nat) (tr : Nat → Nat) (b : BS) : gv nw no P mt of (f + 1) i sum tr b = gvL (gvS nw no P mt of f i sum tr) no 0 b := rfl
theorem gvL_congr {a b : Nat → BS → BS} {no : Nat} : ∀ (k s : Nat) (x : BS), s + k ≤ no → (∀ t, t < no → ∀ x, a t x = b t x) → gvL a k s x = gvL b k s x
  | 0, _, _, _, _ => rfl
  | k + 1, s, x, h, e => by rw [gvL, gvL, e s (by omega), gvL_congr k (s + 1) _ (by omega) e]
theorem okT_congr {mt mt' : Nat → Nat → Bool} {tr tr' : Nat → Nat} {i s : Nat} (h : ∀ j, j < i → tr j = tr' j ∧ mt i j = mt' i j) : okT mt tr i s = okT mt' tr' i s := by
  unfold okT
  congr 1
  apply propext
  constructor
  · intro q j hj
    rw [← (h j hj).1, ← (h j hj).2]; exact q j hj
  · intro q j hj
    rw [(h j hj).1, (h j hj).2]; exact q j hj
theorem vcT_congr {nw : Nat} {of of' tr tr' : Nat → Nat} (h : ∀ j, j < nw → of (tr j) = of' (tr' j)) : vcT nw of tr = vcT nw of' tr' := by
  unfold vcT
  exact List.map_congr_left (fun j hj => h j (List.mem_range.mp hj))
/-- what the search finds hangs on the data alone -/
theorem gv_congr {nw no : Nat} {P P' : Nat → Nat → Nat} {mt mt' : Nat → Nat → Bool} {of of' : Nat → Nat} (hP : ∀ i s, i < nw → s < no → P i s = P' i s) (hm : ∀ i j, i < nw → j < i → mt i j = mt' i j) (ho : ∀ s, s < no → of s = of' s) : ∀ (f i sum : Nat) (tr tr' : Nat → Nat) (b : BS), i + f = nw → (∀ j, j < i → tr j = tr' j ∧ tr j < no) → gv nw no P mt of f i sum tr b = gv nw no P' mt' of' f i sum tr' b
  | 0, i, sum, tr, tr', b, h, ht => by
    have e : vcT nw of tr = vcT nw of' tr' := vcT_congr (fun j hj => by rw [← (ht j (by omega)).1, ho _ (ht j (by omega)).2])
    unfold gv lfT
    rw [e]
  | f + 1, i, sum, tr, tr', b, h, ht => by
    rw [gv_s, gv_s]
    refine gvL_congr (no := no) no 0 b (by omega) (fun s hs x => ?_)
    unfold gvS
    rw [okT_congr (mt := mt) (mt' := mt') (tr := tr) (tr' := tr') (fun j hj => ⟨(ht j hj).1, hm i j (by omega) hj⟩), hP i s (by omega) hs]
    by_cases hk : okT mt' tr' i s = true
    · rw [if_pos hk, if_pos hk]
      refine gv_congr hP hm ho f (i + 1) _ _ _ x (by omega) (fun j hj => ?_)
      unfold updN
      by_cases e : j = i
      · rw [if_pos e, if_pos e]; exact ⟨rfl, hs⟩
      · rw [if_neg e, if_neg e]; exact ht j (by omega)
    · rw [if_neg hk, if_neg hk]
theorem gvL_fix {stp : Nat → BS → BS} {no : Nat} {b : BS} : ∀ (k s : Nat), s + k ≤ no → (∀ t, t < no → stp t b = b) → gvL stp k s b = b
  | 0, _, _, _ => rfl
  | k + 1, s, h, e => by rw [gvL, e s (by omega), gvL_fix k (s + 1) (by omega) e]
/-- what can't be cheaper changes nothing -/
theorem gv_A {nw no : Nat} {P : Nat → Nat → Nat} {mt : Nat → Nat → Bool} {of : Nat → Nat} {Lb : Nat → Nat} (hL : ∀ i s, i < nw → s < no → Lb i ≤ P i s + Lb (i + 1)) (h0 : Lb nw = 0) : ∀ (f i sum : Nat) (tr : Nat → Nat) (v : Nat) (l : List Nat), i + f = nw → v ≤ sum + Lb i → gv nw no P mt of f i sum tr (some (v, l)) = some (v, l)
  | 0, i, sum, tr, v, l, h, hv => by
    have : i = nw := by omega
    subst this
    show (if sum < v then some (sum, vcT i of tr) else some (v, l)) = some (v, l)
    rw [if_neg (by omega)]
  | f + 1, i, sum, tr, v, l, h, hv => by
    rw [gv_s]
    refine gvL_fix (no := no) no 0 (by omega) (fun s hs => ?_)
    unfold gvS
    by_cases hk : okT mt tr i s = true
    · rw [if_pos hk]
      have := hL i s (by omega) hs
      exact gv_A hL h0 f (i + 1) _ _ v l (by omega) (by omega)
    · rw [if_neg hk]
/-- a search that has found something keeps something, and never a dearer one -/
theorem gvL_step {stp : Nat → BS → BS} {no s : Nat} {b : BS} (h : s < no) : gvL stp (no - s) s b = gvL stp (no - (s + 1)) (s + 1) (stp s b) := by
  rw [show no - s = (no - (s + 1)) + 1 by omega]; rfl
