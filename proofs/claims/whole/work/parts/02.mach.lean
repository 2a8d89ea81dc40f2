/-! THE PURE MACHINE: one method's bytecode over a fixed world of cells (ints alone move), as a predicate transformer -/
abbrev Sg : Type := Nat → Nat → Int32
/-- a cell: an object (its class by number, its fields: none an int, some r the cell r), or an array (0 ints, 1 booleans, 2 cells; its length; the cells) -/
abbrev Ds : Type := (Nat × List (Option Nat)) ⊕ (Nat × Nat × List Nat)
/-- a row of code: place, instruction, length, is it a cut, the constant that it pushes -/
abbrev Ent : Type := Nat × Instr × Nat × Bool × Int32
abbrev Lcl : Type := List (Option Value)
abbrev SPre : Type := List Value → Sg → Prop
abbrev SPost : Type := List Value → Sg → Int32 → Sg → Prop
/-- a field by its pool index: class number, slot, is it a boolean -/
abbrev Fe : Type := Nat × Nat × Nat × Bool
/-- a method by its pool index: kind (0 virtual, 1 static, 2 static of a nest mate), class number, parameters, an answer?, pre, post -/
abbrev Me : Type := Nat × Nat × Nat × Nat × Bool × SPre × SPost
def kp_fnd {α : Type} : List (Nat × α) → Nat → Option α
  | [], _ => none
  | q :: r, k => if q.1 = k then some q.2 else kp_fnd r k
def kp_jmp : List Ent → Nat → List Ent
  | [], _ => []
  | q :: r, k => if q.1 = k then q :: r else kp_jmp r k
def kp_tgt (pc : Nat) (off : Int) : Nat := ((pc : Int) + off).toNat
def kp_tk : Nat → List Value → List Value → Option (List Value × List Value)
  | 0, st, acc => some (acc, st)
  | _ + 1, [], _ => none
  | n + 1, v :: r, acc => kp_tk n r (v :: acc)
def kp_up (σ : Sg) (c k : Nat) (x : Int32) : Sg := fun a => if a = c then upd (σ c) k x else σ a
def kp_R (o : Option (Option Value)) (f : Nat → Prop) : Prop := match o with
  | some (some (.ref a)) => f a
  | _ => False
def kp_I (o : Option (Option Value)) (f : Int32 → Prop) : Prop := match o with
  | some (some (.int a)) => f a
  | _ => False
def kp_pI (st : List Value) (f : Int32 → List Value → Prop) : Prop := match st with
  | .int x :: r => f x r
  | _ => False
def kp_pR (st : List Value) (f : Nat → List Value → Prop) : Prop := match st with
  | .ref a :: r => f a r
  | _ => False
def kp_arr (lay : List Ds) (a kind : Nat) (f : Nat → List Nat → Prop) : Prop := match lay[a]? with
  | some (.inr (kd, n, rs)) => if kd = kind then f n rs else False
  | _ => False
def kp_len (lay : List Ds) (a : Nat) (f : Nat → Prop) : Prop := match lay[a]? with
  | some (.inr (_, n, _)) => f n
  | _ => False
def kp_obj (lay : List Ds) (a ci : Nat) (f : List (Option Nat) → Prop) : Prop := match lay[a]? with
  | some (.inl (cj, fs)) => if cj = ci then f fs else False
  | _ => False
def kp_if (c : ClassFile.Cond) (x y : Int32) (t f : Prop) : Prop := match c with
  | .eq => (x = y → t) ∧ (¬ x = y → f)
  | .ne => (¬ x = y → t) ∧ (x = y → f)
  | .lt => (x < y → t) ∧ (¬ x < y → f)
  | .ge => (¬ x < y → t) ∧ (x < y → f)
  | .gt => (y < x → t) ∧ (¬ y < x → f)
  | .le => (¬ y < x → t) ∧ (y < x → f)
def kp_sw (x : Int32) (g : Int → Prop) (d : Prop) : List (Int × Int) → Prop
  | [] => d
  | q :: r => (x = nI q.1.toNat → g q.2) ∧ (¬ x = nI q.1.toNat → kp_sw x g d r)
def kp_tl : Int → List Int → List (Int × Int)
  | _, [] => []
  | j, o :: r => (j, o) :: kp_tl (j + 1) r
def kp_ret (ri : Bool) (f : Option Int32 → Prop) (g : (Int32 → Prop) → Prop) : Prop := match ri with
  | true => g (fun x => f (some x))
  | false => f none
def kp_call (lay : List Ds) (ms : List Me) (idx : Nat) (virt : Bool) (st : List Value) (σ : Sg) (k : List Value → Sg → Prop) : Prop := match kp_fnd ms idx with
  | none => False
  | some (kind, ci, n, ri, pre, post) => match kp_tk n st [] with
    | none => False
    | some (As, r) => match virt with
      | true => if kind = 0 then kp_pR r (fun a r' => kp_obj lay a ci (fun _ => if r'.length ≤ 4 then pre (.ref a :: As) σ ∧ (match ri with
          | true => ∀ (x : Int32) (τ : Sg), post (.ref a :: As) σ x τ → k (.int x :: r') τ
          | false => ∀ τ : Sg, post (.ref a :: As) σ (nI 0) τ → k r' τ) else False)) else False
      | false => if kind = 0 then False else if r.length ≤ 4 then pre As σ ∧ (match ri with
          | true => ∀ (x : Int32) (τ : Sg), post As σ x τ → k (.int x :: r) τ
          | false => ∀ τ : Sg, post As σ (nI 0) τ → k r τ) else False
/-- one instruction -/
def kp_S (lay : List Ds) (gl pl : List Fe) (ms : List Me) (tab : List Ent) (rk : Nat) (Q : Int32 → Sg → Prop) (k : List Ent → Lcl → List Value → Sg → Prop) (pc : Nat) (i : Instr) (v : Int32) (is : List Ent) (ls : Lcl) (st : List Value) (σ : Sg) : Prop := match i with
  | .aload_n n => kp_R ls[n.val]? fun a => k is ls (.ref a :: st) σ
  | .aload n => kp_R ls[n]? fun a => k is ls (.ref a :: st) σ
  | .iload_n n => kp_I ls[n.val]? fun a => k is ls (.int a :: st) σ
  | .iload n => kp_I ls[n]? fun a => k is ls (.int a :: st) σ
  | .istore_n n => kp_pI st fun x r => if n.val < ls.length then k is (ls.set n.val (some (.int x))) r σ else False
  | .istore n => kp_pI st fun x r => if n < ls.length then k is (ls.set n (some (.int x))) r σ else False
  | .iinc n d => kp_I ls[n]? fun x => k is (ls.set n (some (.int (x + v)))) st σ
  | .iconst _ => k is ls (.int v :: st) σ
  | .bipush _ => k is ls (.int v :: st) σ
  | .sipush _ => k is ls (.int v :: st) σ
  | .ldc _ => k is ls (.int v :: st) σ
  | .iadd => kp_pI st fun y r => kp_pI r fun x r' => k is ls (.int (x + y) :: r') σ
  | .isub => kp_pI st fun y r => kp_pI r fun x r' => k is ls (.int (x - y) :: r') σ
  | .imul => kp_pI st fun y r => kp_pI r fun x r' => k is ls (.int (x * y) :: r') σ
  | .iand => kp_pI st fun y r => kp_pI r fun x r' => k is ls (.int (x &&& y) :: r') σ
  | .ior => kp_pI st fun y r => kp_pI r fun x r' => k is ls (.int (x ||| y) :: r') σ
  | .ishl => kp_pI st fun y r => kp_pI r fun x r' => k is ls (.int (x <<< (y &&& 31)) :: r') σ
  | .ishr => kp_pI st fun y r => kp_pI r fun x r' => k is ls (.int (x >>> (y &&& 31)) :: r') σ
  | .iushr => kp_pI st fun y r => kp_pI r fun x r' => k is ls (.int (x.toUInt32 >>> (y.toUInt32 &&& Int32.toUInt32 31)).toInt32 :: r') σ
  | .dup => match st with
    | .int x :: r => k is ls (.int x :: .int x :: r) σ
    | .ref a :: r => k is ls (.ref a :: .ref a :: r) σ
    | _ => False
  | .getfield idx => kp_pR st fun a r => match kp_fnd gl idx with
    | none => False
    | some (ci, kk, _) => kp_obj lay a ci fun fs => match fs[kk]? with
      | some none => k is ls (.int (σ a kk) :: r) σ
      | some (some q) => k is ls (.ref q :: r) σ
      | none => False
  | .putfield idx => kp_pI st fun x r => kp_pR r fun a r' => match kp_fnd pl idx with
    | none => False
    | some (ci, kk, b) => kp_obj lay a ci fun fs => match fs[kk]? with
      | some none => match b with
        | false => k is ls r' (kp_up σ a kk x)
        | true => (x = nI 0 ∨ x = nI 1) ∧ k is ls r' (kp_up σ a kk x)
      | _ => False
  | .iaload => kp_pI st fun j r => kp_pR r fun a r' => kp_arr lay a 0 fun n _ => vp_in j n ∧ k is ls (.int (σ a j.toNatClampNeg) :: r') σ
  | .baload => kp_pI st fun j r => kp_pR r fun a r' => kp_arr lay a 1 fun n _ => vp_in j n ∧ k is ls (.int (σ a j.toNatClampNeg) :: r') σ
  | .aaload => kp_pI st fun j r => kp_pR r fun a r' => kp_arr lay a 2 fun n rs => (vp_in j n ∧ n = rs.length) ∧ ∀ q, rs[j.toNatClampNeg]? = some q → k is ls (.ref q :: r') σ
  | .iastore => kp_pI st fun x r => kp_pI r fun j r' => kp_pR r' fun a r2 => kp_arr lay a 0 fun n _ => vp_in j n ∧ k is ls r2 (kp_up σ a j.toNatClampNeg x)
  | .bastore => kp_pI st fun x r => kp_pI r fun j r' => kp_pR r' fun a r2 => kp_arr lay a 1 fun n _ => vp_in j n ∧ (x = nI 0 ∨ x = nI 1) ∧ k is ls r2 (kp_up σ a j.toNatClampNeg x)
  | .arraylength => kp_pR st fun a r => kp_len lay a fun n => k is ls (.int (nI n) :: r) σ
  | .ifCond c off => kp_pI st fun x r => kp_if c x (nI 0) (k (kp_jmp tab (kp_tgt pc off)) ls r σ) (k is ls r σ)
  | .if_icmp c off => kp_pI st fun y r => kp_pI r fun x r' => kp_if c x y (k (kp_jmp tab (kp_tgt pc off)) ls r' σ) (k is ls r' σ)
  | .goto off => k (kp_jmp tab (kp_tgt pc off)) ls st σ
  | .tableswitch d lo _ offs => kp_pI st fun x r => kp_sw x (fun o => k (kp_jmp tab (kp_tgt pc o)) ls r σ) (k (kp_jmp tab (kp_tgt pc d)) ls r σ) (kp_tl lo offs.toList)
  | .lookupswitch d ps => kp_pI st fun x r => kp_sw x (fun o => k (kp_jmp tab (kp_tgt pc o)) ls r σ) (k (kp_jmp tab (kp_tgt pc d)) ls r σ) ps.toList
  | .invokevirtual idx => kp_call lay ms idx true st σ fun st' τ => k is ls st' τ
  | .invokestatic idx => kp_call lay ms idx false st σ fun st' τ => k is ls st' τ
  | .ireturn => match rk with
    | 1 => kp_pI st fun x r => if r.length = 0 then Q x σ else False
    | 2 => kp_pI st fun x r => if r.length = 0 then (x = nI 0 ∨ x = nI 1) ∧ Q x σ else False
    | _ => False
  | .return_ => match rk with
    | 0 => if st.length = 0 then Q (nI 0) σ else False
    | _ => False
  | _ => False
/-- a stretch of code up to a cut or the end, with fuel -/
def kp_T (lay : List Ds) (gl pl : List Fe) (ms : List Me) (tab : List Ent) (rk : Nat) (J : Nat → Lcl → List Value → Sg → Prop) (Q : Int32 → Sg → Prop) : Nat → List Ent → Lcl → List Value → Sg → Prop
  | 0, _, _, _, _ => False
  | _ + 1, [], _, _, _ => False
  | n + 1, e :: is, ls, st, σ => match e.2.2.2.1 with
    | true => J e.1 ls st σ
    | false => kp_S lay gl pl ms tab rk Q (fun is ls st σ => kp_T lay gl pl ms tab rk J Q n is ls st σ) e.1 e.2.1 e.2.2.2.2 is ls st σ
/-- the same from a cut on -/
def kp_T1 (lay : List Ds) (gl pl : List Fe) (ms : List Me) (tab : List Ent) (rk : Nat) (J : Nat → Lcl → List Value → Sg → Prop) (Q : Int32 → Sg → Prop) (n : Nat) (pc : Nat) (ls : Lcl) (st : List Value) (σ : Sg) : Prop := match kp_jmp tab pc with
  | [] => False
  | e :: is => kp_S lay gl pl ms tab rk Q (fun is ls st σ => kp_T lay gl pl ms tab rk J Q n is ls st σ) e.1 e.2.1 e.2.2.2.2 is ls st σ
-- the world's cells
def kp_re (ad : Nat → Nat) : Value → Value
  | .ref a => .ref (ad a)
  | v => v
def kp_fv (ad : Nat → Nat) (σ : Sg) (c : Nat) (k : Nat) (o : Option Nat) : Value := match o with
  | none => .int (σ c k)
  | some q => .ref (ad q)
def kp_e (ad : Nat → Nat) (cI cZ cR : ClassId) (σ : Sg) (i : Nat) (d : Ds) : va_E := match d with
  | .inl q => .inr (q.1, q.2.mapIdx (kp_fv ad σ i))
  | .inr q => if q.1 = 0 then .inl (cI, q.2.1, .inl (σ i)) else if q.1 = 1 then .inl (cZ, q.2.1, .inl (σ i)) else .inl (cR, q.2.1, .inr (.inr (.inr (.inr fun j => (q.2.2[j]?).map ad))))
def kp_w (ad : Nat → Nat) (cI cZ cR : ClassId) (lay : List Ds) (σ : Sg) : va_W := lay.mapIdx fun i d => (ad i, kp_e ad cI cZ cR σ i d)
theorem kp_w_at {ad : Nat → Nat} {cI cZ cR : ClassId} {lay : List Ds} {σ : Sg} {a : Nat} {d : Ds} (h : lay[a]? = some d) : (kp_w ad cI cZ cR lay σ)[a]? = some (ad a, kp_e ad cI cZ cR σ a d) := by
  simp [kp_w, List.getElem?_mapIdx, h]
theorem kp_w_some {ad : Nat → Nat} {cI cZ cR : ClassId} {lay : List Ds} {σ : Sg} {a : Nat} {q : Nat × va_E} (h : (kp_w ad cI cZ cR lay σ)[a]? = some q) : ∃ d, lay[a]? = some d ∧ q = (ad a, kp_e ad cI cZ cR σ a d) := by
  rw [kp_w, List.getElem?_mapIdx] at h
  cases hd : lay[a]? with
  | none => rw [hd] at h; cases h
  | some d => rw [hd] at h; exact ⟨d, rfl, (Option.some.inj h).symm⟩
theorem kp_up_ne {σ : Sg} {c k : Nat} {x : Int32} {a : Nat} (h : a ≠ c) : kp_up σ c k x a = σ a := if_neg h
theorem kp_up_eq {σ : Sg} {c k : Nat} {x : Int32} : kp_up σ c k x c = upd (σ c) k x := if_pos rfl
theorem kp_e_ne {ad : Nat → Nat} {cI cZ cR : ClassId} {σ τ : Sg} {i : Nat} {d : Ds} (h : σ i = τ i) : kp_e ad cI cZ cR σ i d = kp_e ad cI cZ cR τ i d := by
  have hf : kp_fv ad σ i = kp_fv ad τ i := by
    funext k o
    cases o with
    | none => simp [kp_fv, h]
    | some q => rfl
  cases d with
  | inl q => simp [kp_e, hf]
  | inr q => simp [kp_e, h]
theorem kp_w_set {ad : Nat → Nat} {cI cZ cR : ClassId} {lay : List Ds} {σ τ : Sg} {a : Nat} {d : Ds} {e : va_E} (h : lay[a]? = some d) (he : e = kp_e ad cI cZ cR τ a d) (hn : ∀ i, i ≠ a → τ i = σ i) : (kp_w ad cI cZ cR lay σ).set a (ad a, e) = kp_w ad cI cZ cR lay τ := by
  apply List.ext_getElem?
  intro i
  by_cases hi : i = a
  · subst hi
    rw [List.getElem?_set_self (by have := (List.getElem?_eq_some_iff.mp h).1; simpa [kp_w] using this), kp_w_at h, he]
  · rw [List.getElem?_set_ne (Ne.symm hi)]
    simp only [kp_w, List.getElem?_mapIdx]
    cases hd : lay[i]? with
    | none => rfl
    | some d' => simp only [Option.map_some]; rw [kp_e_ne (hn i hi).symm]
theorem kp_w_D {A : Nat → Prop} {ad : Nat → Nat} {cI cZ cR : ClassId} {lay : List Ds} {σ : Sg} (τ : Sg) (h : va_D A (kp_w ad cI cZ cR lay σ)) : va_D A (kp_w ad cI cZ cR lay τ) := by
  refine ⟨fun i j p q hi hj hpq => ?_, fun k q hk => ?_⟩
  · obtain ⟨d, h1, rfl⟩ := kp_w_some hi
    obtain ⟨d', h2, rfl⟩ := kp_w_some hj
    exact h.1 i j _ _ (kp_w_at h1) (kp_w_at h2) hpq
  · obtain ⟨d, h1, rfl⟩ := kp_w_some hk
    exact h.2 k (ad k, kp_e ad cI cZ cR σ k d) (kp_w_at h1)
theorem kp_w_A {ad : Nat → Nat} {cI cZ cR : ClassId} {lay : List Ds} {σ : Sg} (τ : Sg) {sz q : Nat} (h : va_A (kp_w ad cI cZ cR lay σ) sz q) : va_A (kp_w ad cI cZ cR lay τ) sz q := by
  rcases h with ⟨k, e, hk⟩ | h
  · obtain ⟨d, h1, h2⟩ := kp_w_some hk
    refine Or.inl ⟨k, kp_e ad cI cZ cR τ k d, ?_⟩
    rw [kp_w_at h1]
    exact congrArg some (Prod.ext (congrArg Prod.fst h2).symm rfl)
  · exact Or.inr h
-- the locals
def kp_ll (ad : Nat → Nat) : Nat → Lcl → List (Nat × Value)
  | _, [] => []
  | i, none :: r => kp_ll ad (i + 1) r
  | i, some v :: r => (i, kp_re ad v) :: kp_ll ad (i + 1) r
theorem kp_ll_mem {ad : Nat → Nat} : ∀ (ls : Lcl) (i j : Nat) (w : Value), (j, w) ∈ kp_ll ad i ls ↔ ∃ (t : Nat) (v : Value), ls[t]? = some (some v) ∧ j = i + t ∧ w = kp_re ad v
  | [], i, j, w => by simp [kp_ll]
  | none :: r, i, j, w => by
    rw [kp_ll, kp_ll_mem r]
    constructor
    · rintro ⟨t, v, h1, h2, h3⟩
      exact ⟨t + 1, v, by simpa using h1, by omega, h3⟩
    · rintro ⟨t, v, h1, h2, h3⟩
      cases t with
      | zero => simp at h1
      | succ t => exact ⟨t, v, by simpa using h1, by omega, h3⟩
  | some u :: r, i, j, w => by
    rw [kp_ll, List.mem_cons, kp_ll_mem r]
    constructor
    · rintro (h | ⟨t, v, h1, h2, h3⟩)
      · cases h
        exact ⟨0, u, rfl, rfl, rfl⟩
      · exact ⟨t + 1, v, by simpa using h1, by omega, h3⟩
    · rintro ⟨t, v, h1, h2, h3⟩
      cases t with
      | zero =>
        simp at h1
        subst h1
        exact Or.inl (by rw [h2, h3]; rfl)
      | succ t => exact Or.inr ⟨t, v, by simpa using h1, by omega, h3⟩
theorem kp_re_cat (ad : Nat → Nat) (v : Value) : (kp_re ad v).category = v.category := by cases v <;> rfl
def kp_lh (ad : Nat → Nat) (la : Array Slot) (ls : Lcl) : Prop := la.size = ls.length ∧ lv_wf la ∧ ∀ (i : Nat) (v : Value), ls[i]? = some (some v) → la[i]? = some (.val (kp_re ad v)) ∧ v.category = 1
theorem kp_lh_has {ad : Nat → Nat} {la : Array Slot} {ls : Lcl} (h : kp_lh ad la ls) : lv_has la ls.length (kp_ll ad 0 ls) := by
  refine ⟨h.1, h.2.1, fun q hq => ?_⟩
  obtain ⟨t, v, h1, h2, h3⟩ := (kp_ll_mem ls 0 q.1 q.2).mp hq
  rw [h2, h3, Nat.zero_add]
  exact (h.2.2 t v h1).1
theorem kp_lh_set {ad : Nat → Nat} {la la' : Array Slot} {ls : Lcl} {i : Nat} {v : Value} (h : kp_lh ad la ls) (hi : i < ls.length) (hc : v.category = 1) (h' : lv_has la' ls.length ((i, kp_re ad v) :: (kp_ll ad 0 ls).filter (fun q => !(q.1 == i) && !(q.1 + 1 == i && q.2.category == 2)))) : kp_lh ad la' (ls.set i (some v)) := by
  refine ⟨by rw [List.length_set]; exact h'.1, h'.2.1, fun j w hj => ?_⟩
  by_cases hji : j = i
  · subst hji
    rw [List.getElem?_set_self hi] at hj
    cases hj
    exact ⟨h'.2.2 (j, kp_re ad v) List.mem_cons_self, hc⟩
  · rw [List.getElem?_set_ne (Ne.symm hji)] at hj
    have hcw := (h.2.2 j w hj).2
    refine ⟨h'.2.2 (j, kp_re ad w) (List.mem_cons_of_mem _ (List.mem_filter.mpr ⟨(kp_ll_mem ls 0 j _).mpr ⟨j, w, hj, by omega, rfl⟩, ?_⟩)), hcw⟩
    simp [hji, kp_re_cat, hcw]
-- suffixes of the code
theorem kp_jmp_suf : ∀ (tab : List Ent) (t : Nat), kp_jmp tab t <:+ tab
  | [], _ => by simp [kp_jmp]
  | q :: r, t => by
    rw [kp_jmp]
    by_cases h : q.1 = t
    · rw [if_pos h]; exact List.suffix_refl _
    · rw [if_neg h]; exact (kp_jmp_suf r t).trans (List.suffix_cons q r)
theorem kp_jmp_head : ∀ (tab : List Ent) (t : Nat) (e : Ent) (r : List Ent), kp_jmp tab t = e :: r → e.1 = t
  | [], _, _, _, h => by simp [kp_jmp] at h
  | q :: r, t, e, r', h => by
    rw [kp_jmp] at h
    by_cases hq : q.1 = t
    · rw [if_pos hq] at h; cases h; exact hq
    · rw [if_neg hq] at h; exact kp_jmp_head r t e r' h
theorem kp_fnd_mem {α : Type} : ∀ (l : List (Nat × α)) (k : Nat) (x : α), kp_fnd l k = some x → (k, x) ∈ l
  | [], _, _, h => by simp [kp_fnd] at h
  | q :: r, k, x, h => by
    rw [kp_fnd] at h
    by_cases hq : q.1 = k
    · rw [if_pos hq] at h
      cases h
      subst hq
      exact List.mem_cons_self
    · rw [if_neg hq] at h; exact List.mem_cons_of_mem _ (kp_fnd_mem r k x h)
theorem kp_tk_spec : ∀ (n : Nat) (st acc As r : List Value), kp_tk n st acc = some (As, r) → ∃ B : List Value, B.length = n ∧ As = B.reverse ++ acc ∧ st = B ++ r
  | 0, st, acc, As, r, h => by
    simp only [kp_tk, Option.some.injEq, Prod.mk.injEq] at h
    exact ⟨[], rfl, by simp [h.1], by simp [h.2]⟩
  | n + 1, [], acc, As, r, h => by simp [kp_tk] at h
  | n + 1, v :: t, acc, As, r, h => by
    rw [kp_tk] at h
    obtain ⟨B, h1, h2, h3⟩ := kp_tk_spec n t (v :: acc) As r h
    exact ⟨v :: B, by simp [h1], by simp [h2], by simp [h3]⟩
-- switches
theorem kp_sw_look {x : Int32} {g : Int → Prop} {d : Int} : ∀ (L : List (Int × Int)), (∀ q ∈ L, 0 ≤ q.1 ∧ q.1 < 2147483648) → kp_sw x g (g d) L → g (Op.lookupswitch.offset L d x.toInt)
  | [], _, h => by rw [Op.lookupswitch.offset_nil]; exact h
  | (a, o) :: r, hL, h => by
    have ha := hL (a, o) List.mem_cons_self
    dsimp only at ha
    have hk : (nI a.toNat).toInt = a := by rw [nI_toInt (by omega)]; omega
    rw [kp_sw] at h
    rw [Op.lookupswitch.offset_cons]
    by_cases hx : x = nI a.toNat
    · rw [if_pos (by rw [hx, hk])]
      exact h.1 hx
    · rw [if_neg (fun q => hx (Int32.toInt_inj.mp (by rw [hk]; exact q.symm)))]
      exact kp_sw_look r (fun q hq => hL q (List.mem_cons_of_mem _ hq)) (h.2 hx)
theorem kp_sw_out {x : Int32} {g : Int → Prop} {d : Prop} : ∀ (L : List (Int × Int)), (∀ q ∈ L, 0 ≤ q.1 ∧ q.1 < 2147483648 ∧ ¬ x.toInt = q.1) → kp_sw x g d L → d
  | [], _, h => h
  | (a, o) :: r, hL, h => by
    have ha := hL (a, o) List.mem_cons_self
    dsimp only at ha
    rw [kp_sw] at h
    refine kp_sw_out r (fun q hq => hL q (List.mem_cons_of_mem _ hq)) (h.2 fun q => ha.2.2 ?_)
    rw [q]
    show (nI a.toNat).toInt = a
    rw [nI_toInt (by omega)]
    omega
theorem kp_sw_in {x : Int32} {g : Int → Prop} {d : Prop} : ∀ (offs : List Int) (lo : Int) (j : Nat) (o : Int), 0 ≤ lo → lo + offs.length < 2147483648 → offs[j]? = some o → x.toInt = lo + j → kp_sw x g d (kp_tl lo offs) → g o
  | [], _, _, _, _, _, h, _, _ => by simp at h
  | a :: r, lo, 0, o, h0, h1, h, hx, hs => by
    simp at h
    subst h
    rw [kp_tl, kp_sw] at hs
    refine hs.1 (Int32.toInt_inj.mp ?_)
    simp only [List.length_cons] at h1
    rw [hx, nI_toInt (by omega)]
    omega
  | a :: r, lo, j + 1, o, h0, h1, h, hx, hs => by
    simp only [List.length_cons] at h1
    rw [kp_tl, kp_sw] at hs
    have hne : ¬ x = nI lo.toNat := by
      intro q
      rw [q, nI_toInt (by omega)] at hx
      omega
    exact kp_sw_in r (lo + 1) j o (by omega) (by omega) (by simpa using h) (by rw [hx]; omega) (hs.2 hne)
theorem kp_tl_mem : ∀ (offs : List Int) (lo : Int) (q : Int × Int), q ∈ kp_tl lo offs → lo ≤ q.1 ∧ q.1 < lo + offs.length ∧ q.2 ∈ offs
  | [], _, _, h => by simp [kp_tl] at h
  | a :: r, lo, q, h => by
    rw [kp_tl, List.mem_cons] at h
    simp only [List.length_cons]
    rcases h with rfl | h
    · dsimp only
      exact ⟨by omega, by omega, List.mem_cons_self⟩
    · obtain ⟨h1, h2, h3⟩ := kp_tl_mem r (lo + 1) q h
      exact ⟨by omega, by omega, List.mem_cons_of_mem _ h3⟩
