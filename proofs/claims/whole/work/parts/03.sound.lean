/-! THE PURE MACHINE IS SOUND: what it says holds of the machine itself -/
def kp_nest : Cond → Bool
  | .fieldLinkNest _ _ _ _ _ _ => true
  | .methodLinkNest _ _ _ _ => true
  | _ => false
def kp_tb : List Cond := lw_tbl.filter goodWord
def kp_nw : List Cond := lw_tbl.filter kp_nest
def kp_ws (y : MethodName) (cc : ByteArray) (mL : Nat) (ret : Option FieldType) : List Cond := .code y cc mL ret :: kp_tb
abbrev kp_ty (cI cZ cR : ClassId) : List (ClassId × FieldType) := [(cI, .int), (cZ, .boolean), (cR, .array .int)]
abbrev kp_rm (h : Nat) : Room := { frames := h, cells := 0, slots := 0, locals := 40 * h }
def kp_rv (ret : Option FieldType) (r : Int32) : Option Value := match ret with
  | none => none
  | some _ => some (.int r)
def kp_rk : Option FieldType → Nat
  | none => 0
  | some .int => 1
  | some .boolean => 2
  | _ => 3
def kp_B (D : va_G) (cI cZ cR : ClassId) (ad : Nat → Nat) (lay : List Ds) (σ : Sg) (U : State) : Prop :=
  (∀ w ∈ kp_nw, va_Nw w U) ∧ va_P D vwCl (kp_w ad cI cZ cR lay σ) U.heap ∧ va_K D vwCl (kp_ty cI cZ cR) U ∧ va_D (fun _ => True) (kp_w ad cI cZ cR lay σ)
def kp_Q (lay : List Ds) (ret : Option FieldType) (post : SPost) (D : va_G) (cI cZ cR : ClassId) (ad : Nat → Nat) (sz : Nat) (As : List Value) (σ : Sg) : Array Value → State → Outcome → State → Prop :=
  fun _ st oc t => (∃ (r : Int32) (τ : Sg), oc = .returned (kp_rv ret r) ∧ ((ret = none → r = nI 0) ∧ post As σ r τ) ∧ va_P D vwCl (kp_w ad cI cZ cR lay τ) t.heap) ∧ va_F (va_A (kp_w ad cI cZ cR lay σ) sz) st t
/-- a method's contract over the pure world -/
def kp_Met (lay : List Ds) (h : Nat) (y : MethodName) (cc : ByteArray) (mL : Nat) (ret : Option FieldType) (pre : SPre) (post : SPost) : Prop :=
  ∀ (l : Launch) (D : va_G) (cI cZ cR : ClassId) (ad : Nat → Nat) (sz : Nat) (As : List Value) (σ : Sg), pre As σ →
    Met l y (kp_ws y cc mL ret) (kp_rm h) (va_Pc (As.map (kp_re ad)) (fun U => U.heap.size = sz ∧ kp_B D cI cZ cR ad lay σ U)) (kp_Q lay ret post D cI cZ cR ad sz As σ) 0 0 (va_A (kp_w ad cI cZ cR lay σ) sz)
/-- the words of a call -/
def kp_lnk (own : String) (idx kind ci n : Nat) (y : MethodName) (cc : ByteArray) (mL : Nat) (ret : Option FieldType) : Prop :=
  (y.cls ≠ "java/lang/invoke/MethodHandle" ∧ y.cls ≠ "java/lang/invoke/VarHandle" ∧ (parseMethodDescriptor y.desc).map (fun d => d.parameters.length) = some n) ∧ Cond.code y cc mL ret ∈ kp_tb ∧ Cond.initialized y.cls ∈ kp_tb ∧
  ((kind = 0 ∧ Cond.methodLink own idx y ∈ kp_tb ∧ Cond.instanceMethod y ∈ kp_tb ∧ Cond.selects y.cls y y ∈ kp_tb ∧ (vwCl[ci]?).map (fun q => q.1) = some y.cls) ∨
   (kind = 1 ∧ Cond.methodLink own idx y ∈ kp_tb ∧ Cond.static y ∈ kp_tb) ∨
   (kind = 2 ∧ (∃ host, Cond.methodLinkNest own idx y host ∈ kp_nw) ∧ Cond.static y ∈ kp_tb))
/-- max and min of the library, by its own rows -/
def kp_okX (own : String) (h : Nat) (q : Me) : Prop := 1 ≤ h ∧ q.2.1 = 1 ∧ q.2.2.2.1 = 2 ∧ q.2.2.2.2.1 = true ∧ Cond.initialized "java/lang/Math" ∈ kp_tb ∧
  ((Cond.methodLink own q.1 Lib.Math.max.name ∈ kp_tb ∧ Cond.static Lib.Math.max.name ∈ kp_tb ∧ Cond.code Lib.Math.max.name Lib.Math.max.code 2 (some .int) ∈ kp_tb ∧ ∀ As σ, q.2.2.2.2.2.1 As σ → ∃ x y : Int32, As = [.int x, .int y] ∧ q.2.2.2.2.2.2 As σ (if x < y then y else x) σ) ∨
   (Cond.methodLink own q.1 Lib.Math.min.name ∈ kp_tb ∧ Cond.static Lib.Math.min.name ∈ kp_tb ∧ Cond.code Lib.Math.min.name Lib.Math.min.code 2 (some .int) ∈ kp_tb ∧ ∀ As σ, q.2.2.2.2.2.1 As σ → ∃ x y : Int32, As = [.int x, .int y] ∧ q.2.2.2.2.2.2 As σ (if y < x then y else x) σ))
def kp_okM (lay : List Ds) (own : String) (h : Nat) (q : Me) : Prop :=
  (∃ (h' : Nat) (y : MethodName) (cc : ByteArray) (mL : Nat) (ret : Option FieldType), kp_Met lay h' y cc mL ret q.2.2.2.2.2.1 q.2.2.2.2.2.2 ∧ h' + 1 ≤ h ∧ mL ≤ 20 ∧ ret.isSome = q.2.2.2.2.1 ∧ kp_lnk own q.1 q.2.1 q.2.2.1 q.2.2.2.1 y cc mL ret) ∨ kp_okX own h q
def kp_okG (own : String) (q : Fe) : Prop := ∃ (C : String) (T : u_T) (N : Nat), vwCl[q.2.1]? = some (C, T, N) ∧ q.2.2.1 < N ∧
  (Cond.fieldLink own q.1 (T q.2.2.1).1 (T q.2.2.1).2.1 (T q.2.2.1).2.2.1 ∈ kp_tb ∨ ∃ host, Cond.fieldLinkNest own q.1 (T q.2.2.1).1 (T q.2.2.1).2.1 (T q.2.2.1).2.2.1 host ∈ kp_nw)
def kp_okP (own : String) (q : Fe) : Prop := ∃ (C : String) (T : u_T) (N : Nat), vwCl[q.2.1]? = some (C, T, N) ∧ q.2.2.1 < N ∧
  (Cond.fieldLink own q.1 (T q.2.2.1).1 (T q.2.2.1).2.1 (T q.2.2.1).2.2.1 ∈ kp_tb ∨ ∃ host, Cond.fieldLinkNest own q.1 (T q.2.2.1).1 (T q.2.2.1).2.1 (T q.2.2.1).2.2.1 host ∈ kp_nw) ∧
  (T q.2.2.1).2.2.2 = false ∧ parseFieldDescriptor (T q.2.2.1).2.2.1 = some (if q.2.2.2 = true then .boolean else .int)
def kp_ln : Instr → Nat
  | .iload _ | .aload _ | .istore _ | .bipush _ | .ldc _ => 2
  | .iinc _ _ | .sipush _ | .getfield _ | .putfield _ | .ifCond _ _ | .if_icmp _ _ | .goto _ | .invokevirtual _ | .invokestatic _ => 3
  | _ => 1
def kp_okb (own : String) (e : Ent) : Bool := match e.2.1 with
  | .iconst n => decide (Int32.ofInt n = e.2.2.2.2) && decide (e.2.2.1 = 1)
  | .bipush n => decide ((Int8.ofInt n).toInt32 = e.2.2.2.2) && decide (e.2.2.1 = 2)
  | .sipush n => decide ((Int16.ofInt n).toInt32 = e.2.2.2.2) && decide (e.2.2.1 = 3)
  | .iinc _ d => decide (Int32.ofInt d = e.2.2.2.2) && decide (e.2.2.1 = 3)
  | .ldc idx => decide (Cond.constant own idx e.2.2.2.2 ∈ kp_tb) && decide (e.2.2.1 = 2)
  | .ifCond _ off => decide (0 ≤ (e.1 : Int) + off) && decide (e.2.2.1 = 3)
  | .if_icmp _ off => decide (0 ≤ (e.1 : Int) + off) && decide (e.2.2.1 = 3)
  | .goto off => decide (0 ≤ (e.1 : Int) + off) && decide (e.2.2.1 = 3)
  | .tableswitch d lo hi offs => decide (0 ≤ (e.1 : Int) + d ∧ 0 ≤ lo ∧ hi + 1 = lo + offs.toList.length ∧ hi < 2147483647) && offs.toList.all (fun o => decide (0 ≤ (e.1 : Int) + o))
  | .lookupswitch d ps => decide (0 ≤ (e.1 : Int) + d) && (ps.toList.zip (ps.toList.drop 1)).all (fun (a, next) => a.1 < next.1) && ps.toList.all (fun q => decide (0 ≤ q.1 ∧ q.1 < 2147483648 ∧ 0 ≤ (e.1 : Int) + q.2))
  | i => decide (e.2.2.1 = kp_ln i)
def kp_chb : List Ent → Bool
  | e :: e' :: r => decide (e'.1 = e.1 + e.2.2.1) && kp_chb (e' :: r)
  | _ => true
def kp_ok (cc : ByteArray) (own : String) (tab : List Ent) : Bool := tab.all (fun e => decide (decode cc e.1 = .ok (e.2.1, e.2.2.1)) && kp_okb own e) && kp_chb tab
theorem kp_chb_suf : ∀ (tab is : List Ent), kp_chb tab = true → is <:+ tab → kp_chb is = true
  | [], is, _, h => by rw [List.suffix_nil.mp h]; rfl
  | e :: r, is, hc, h => by
    rcases List.suffix_cons_iff.mp h with rfl | h
    · exact hc
    · refine kp_chb_suf r is ?_ h
      cases r with
      | nil => rfl
      | cons e' r => rw [kp_chb, Bool.and_eq_true] at hc; exact hc.2
theorem kp_tb_good (w : Cond) (h : w ∈ kp_tb) : w ∈ lw_tbl ∧ goodWord w = true := List.mem_filter.mp h
theorem kp_GI {Ts : List Cond} (hT : ∀ w ∈ kp_tb, w ∈ Ts) {ws : List Cond} (h : ∀ w ∈ ws, w ∈ kp_tb) : GoodIn Ts ws := fun w hw => ⟨hT w (h w hw), good_of_word (kp_tb_good w (h w hw)).2⟩
theorem kp_ws_in {y : MethodName} {cc : ByteArray} {mL : Nat} {ret : Option FieldType} (h : Cond.code y cc mL ret ∈ kp_tb) : ∀ w ∈ kp_ws y cc mL ret, w ∈ kp_tb := fun w hw => (List.mem_cons.mp hw).elim (fun e => e ▸ h) id
theorem kp_nw_warm {w : Cond} (hw : w ∈ kp_nw) {s U : State} (hW : s.WarmedH U.vm) (h : va_Nw w s) : va_Nw w U := by
  have hn := (List.mem_filter.mp hw).2
  cases w <;> first | exact va_Nw.warmF hW h | exact va_Nw.warmM hW h | exact absurd hn Bool.false_ne_true
theorem kp_nw_same {w : Cond} (hw : w ∈ kp_nw) {s U : State} (hW : s.vm = U.vm) (h : va_Nw w s) : va_Nw w U := by
  have hn := (List.mem_filter.mp hw).2
  cases w <;> first | exact va_Nw.same rfl hW h | exact absurd hn Bool.false_ne_true
theorem kp_nw_use {w : Cond} (hw : w ∈ kp_nw) {s : State} {A : Array Value} (h : va_Nw w s) : w.before A s = true := by
  have hn := (List.mem_filter.mp hw).2
  cases w <;> first | exact va_Nw.use rfl h | exact absurd hn Bool.false_ne_true
set_option maxRecDepth 100000 in
theorem kp_u0 : ∀ w ∈ u_ws RX0 TX0 12, w ∈ kp_tb := by decide +kernel
set_option maxRecDepth 100000 in
theorem kp_u1 : ∀ w ∈ u_ws RX1 TX1 3, w ∈ kp_tb := by decide +kernel
set_option maxRecDepth 100000 in
theorem kp_u2 : ∀ w ∈ u_ws RX2 TX2 2, w ∈ kp_tb := by decide +kernel
set_option maxRecDepth 100000 in
theorem kp_u3 : ∀ w ∈ u_ws RX3 TX3 4, w ∈ kp_tb := by decide +kernel
set_option maxRecDepth 100000 in
theorem kp_u4 : ∀ w ∈ u_ws RX4 TX4 4, w ∈ kp_tb := by decide +kernel
set_option maxRecDepth 100000 in
theorem kp_u5 : ∀ w ∈ u_ws RX5 TX5 2, w ∈ kp_tb := by decide +kernel
set_option maxRecDepth 100000 in
theorem kp_u6 : ∀ w ∈ u_ws RX6 TX6 1, w ∈ kp_tb := by decide +kernel
set_option maxRecDepth 100000 in
theorem kp_u7 : ∀ w ∈ u_ws RX8 TX8 8, w ∈ kp_tb := by decide +kernel
set_option maxRecDepth 100000 in
theorem kp_u8 : ∀ w ∈ u_ws RX9 TX9 8, w ∈ kp_tb := by decide +kernel
set_option maxRecDepth 100000 in
theorem kp_u9 : ∀ w ∈ u_ws RX10 TX10 36, w ∈ kp_tb := by decide +kernel
theorem kp_cl {ci : Nat} {C : String} {T : u_T} {N : Nat} (h : vwCl[ci]? = some (C, T, N)) : (∀ w ∈ u_ws C T N, w ∈ kp_tb) ∧ ∃ ty0 : Nat → FieldType, (∀ k, k < N → parseFieldDescriptor (T k).2.2.1 = some (ty0 k)) ∧ ∀ a, a < N → ∀ b, b < N → a ≠ b → (T a).2.1 ≠ (T b).2.1 := by
  match ci, h with
  | 0, h => cases h; exact ⟨kp_u0, tyX0, tyX0_ok, nmX0⟩
  | 1, h => cases h; exact ⟨kp_u1, tyX1, tyX1_ok, nmX1⟩
  | 2, h => cases h; exact ⟨kp_u2, tyX2, tyX2_ok, nmX2⟩
  | 3, h => cases h; exact ⟨kp_u3, tyX3, tyX3_ok, nmX3⟩
  | 4, h => cases h; exact ⟨kp_u4, tyX4, tyX4_ok, nmX4⟩
  | 5, h => cases h; exact ⟨kp_u5, tyX5, tyX5_ok, nmX5⟩
  | 6, h => cases h; exact ⟨kp_u6, tyX6, tyX6_ok, nmX6⟩
  | 7, h => cases h; exact ⟨kp_u7, tyX8, tyX8_ok, nmX8⟩
  | 8, h => cases h; exact ⟨kp_u8, tyX9, tyX9_ok, nmX9⟩
  | 9, h => cases h; exact ⟨kp_u9, tyX10, tyX10_ok, nmX10⟩
  | k + 10, h => simp [vwCl] at h
-- what the words of the pure machine say
theorem kp_R_spec {o : Option (Option Value)} {f : Nat → Prop} (h : kp_R o f) : ∃ a, o = some (some (.ref a)) ∧ f a := by
  unfold kp_R at h
  split at h
  · exact ⟨_, rfl, h⟩
  · exact h.elim
theorem kp_I_spec {o : Option (Option Value)} {f : Int32 → Prop} (h : kp_I o f) : ∃ a, o = some (some (.int a)) ∧ f a := by
  unfold kp_I at h
  split at h
  · exact ⟨_, rfl, h⟩
  · exact h.elim
theorem kp_pI_spec {st : List Value} {f : Int32 → List Value → Prop} (h : kp_pI st f) : ∃ x r, st = .int x :: r ∧ f x r := by
  unfold kp_pI at h
  split at h
  · exact ⟨_, _, rfl, h⟩
  · exact h.elim
theorem kp_pR_spec {st : List Value} {f : Nat → List Value → Prop} (h : kp_pR st f) : ∃ x r, st = .ref x :: r ∧ f x r := by
  unfold kp_pR at h
  split at h
  · exact ⟨_, _, rfl, h⟩
  · exact h.elim
theorem kp_arr_spec {lay : List Ds} {a kind : Nat} {f : Nat → List Nat → Prop} (h : kp_arr lay a kind f) : ∃ n rs, lay[a]? = some (.inr (kind, n, rs)) ∧ f n rs := by
  unfold kp_arr at h
  split at h
  · rename_i kd n rs hl
    by_cases hk : kd = kind
    · rw [if_pos hk] at h
      subst hk
      exact ⟨n, rs, hl, h⟩
    · rw [if_neg hk] at h
      exact h.elim
  · exact h.elim
theorem kp_len_spec {lay : List Ds} {a : Nat} {f : Nat → Prop} (h : kp_len lay a f) : ∃ kd n rs, lay[a]? = some (.inr (kd, n, rs)) ∧ f n := by
  unfold kp_len at h
  split at h
  · rename_i kd n rs hl
    exact ⟨kd, n, rs, hl, h⟩
  · exact h.elim
theorem kp_obj_spec {lay : List Ds} {a ci : Nat} {f : List (Option Nat) → Prop} (h : kp_obj lay a ci f) : ∃ fs, lay[a]? = some (.inl (ci, fs)) ∧ f fs := by
  unfold kp_obj at h
  split at h
  · rename_i cj fs hl
    by_cases hk : cj = ci
    · rw [if_pos hk] at h
      subst hk
      exact ⟨fs, hl, h⟩
    · rw [if_neg hk] at h
      exact h.elim
  · exact h.elim
theorem kp_ite_spec {c A : Prop} [Decidable c] (h : if c then A else False) : c ∧ A := by
  by_cases hc : c
  · rw [if_pos hc] at h; exact ⟨hc, h⟩
  · rw [if_neg hc] at h; exact h.elim
theorem kp_tgt_eq {pc : Nat} {off : Int} (h : 0 ≤ (pc : Int) + off) : (pc : Int) + off = (kp_tgt pc off : Int) := by
  unfold kp_tgt
  omega
theorem kp_bool_nar {x : Int32} (h : x = nI 0 ∨ x = nI 1) : narrow .boolean (.int x) = .int x ∧ fits .boolean (.int x) = true ∧ vp_nar .boolean x = x := by
  rcases h with rfl | rfl <;> exact ⟨rfl, rfl, rfl⟩
theorem kp_catsum : ∀ (st : List Value), (st.map fun v => v.category).sum ≤ 2 * st.length
  | [] => by simp
  | v :: r => by
    have := kp_catsum r
    have hv : v.category ≤ 2 := by rcases lv_cat v with h | h <;> omega
    simp only [List.map_cons, List.sum_cons, List.length_cons]
    omega
