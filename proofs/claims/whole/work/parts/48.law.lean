/-! THE LAW'S LOOP: what stands at its head, a load from the script, a call of each of the two -/
def R_law : String := "KeyPlanLaw"
def lw_P (b : Addr) (xs : List Int32) (args : Array Value) (s : State) : Prop := args = #[.ref b] ∧ s.IntsAt b xs ∧ xs.length ≤ 2048 ∧ (Jvm.Cond.and given_1 narrow_1).before args s = true
def lw_Q (_ : Array Value) (s : State) (o : Outcome) (t : State) : Prop := o = .returned (some (.int 1)) ∧ Framed s o t [] 601024 7293034
def lw_Z (below : List Frame) (a : Array Value) (s : State) : State → Prop := fun t => ∃ o, t.status = .running ∧ Ended t below o ∧ lw_Q a s o t
/-- the law's own end, with 1 on the stack, nothing written that was there before, its room as the claim has it -/
theorem lw_ret {p : Program} {l : Launch} {e : Env} {s : State} {m : MethodId} {below : List Frame} {meth : Method} {c : Code} {b : Nat} (hx : p.tables.exec = Jvm.exec) (hb : c.code = code) (hr : meth.sig.returnType = ret) (hlocks : meth.locks = false) {pc : Nat} {H : Heap} {ls : Array Slot} (hdg : decode code pc = .ok (.ireturn, 1)) : W p l e room_1 s m #[Value.ref b] below meth c H [] 601024 7293034 (lw_Z below #[Value.ref b] s) (F0 m pc ls [.int 1]) := by
  intro T hT X
  obtain ⟨fs, hret, hrun, hended, hW, hframe⟩ := X.leave (v := some (.int 1)) (hlocks := hlocks) (fun h => by rw [hr] at h; cases h)
  have hmeth' : T.vm.method? m = some meth := X.method'
  refine ⟨T.setFrames fs, ?_, .returned (some (.int 1)), hrun, hended, rfl, ⟨_, rfl⟩, hW, hframe⟩
  jvm_step X.here [X.here.top, hx, hb, hdg, hmeth', hr, ret, narrow_b1]
  (try refine ⟨rfl, ?_⟩); (try refine ⟨rfl, ?_⟩)
  first | (intro acts; rw [hret _ acts rfl rfl rfl]) | rw [hret _ _ rfl rfl rfl]
  exact Steps.refl _
/-- what holds at the law's entry -/
def lw_At (p : Program) (s : State) (m : MethodId) (meth : Method) (c : Code) (b L : Nat) (xs : Nat → Int32) : Prop :=
  p.tables.exec = Jvm.exec ∧ c.code = code ∧ meth.sig.returnType = ret ∧ c.maxLocals = 7 ∧ s.vm.findClass R_law = some m.cls ∧ (∀ w ∈ lw_tbl, w.before #[Value.ref b] s = true) ∧ va_X b L xs s s.heap ∧ b < s.heap.size ∧ meth.locks = false ∧ (Jvm.Cond.and given_1 narrow_1).before #[Value.ref b] s = true
abbrev ll_A (s : State) : Nat → Prop := fun q => s.heap.size ≤ q
/-- what stays all the while -/
def ll_Cx (p : Program) (l : Launch) (s : State) (m : MethodId) (meth : Method) (c : Code) (b L : Nat) (xs : Nat → Int32) (D : va_G) (cI cZ cR cJ : ClassId) (aC aM : Nat → Nat) (ao s1 s2 : Nat) : Prop :=
  (p.tables.exec = Jvm.exec ∧ c.code = code ∧ meth.sig.returnType = ret ∧ c.maxLocals = 7 ∧ s.vm.findClass RL = some m.cls ∧ meth.locks = false ∧ l.stackTraces = false) ∧
  ((∀ w ∈ kp_tb, w.before #[.ref b] s = true) ∧ (∀ w ∈ kp_nw, va_Nw w s) ∧ va_X b L xs s s.heap ∧ b < s.heap.size ∧ L ≤ 2048) ∧
  (va_K D vwCl (kp_ty cI cZ cR) s ∧ va_K D vwCl [(cJ, .long)] s ∧ kx_Z (ll_A s) s1 s2 s s.heap) ∧
  (va_D (ll_A s) (kp_w aC cI cZ cR layC sg0) ∧ va_D (ll_A s) (kp_w aM cI cZ cR layM tg0) ∧ s.heap.size ≤ ao) ∧
  (∀ i j : Nat, i < layC.length → j < layM.length → aC i ≠ aM j) ∧ (∀ i : Nat, i < layC.length → aC i ≠ ao) ∧ (∀ j : Nat, j < layM.length → aM j ≠ ao)
/-- the heap: the two objects and the law's own array -/
def ll_H (D : va_G) (cI cZ cR cJ : ClassId) (aC aM : Nat → Nat) (ao : Nat) (s : State) (H : Heap) (locs : List Loc) (σ τ : Sg) (g : Nat → Int64) : Prop :=
  va_P D vwCl (kp_w aC cI cZ cR layC σ) H ∧ va_P D vwCl (kp_w aM cI cZ cR layM τ) H ∧ va_P D vwCl (lo_w ao cJ g) H ∧ va_S (ll_A s) s.heap H locs
/-- the locals -/
def ll_L (b i : Nat) (aC aM : Nat → Nat) (ao : Nat) (la : Array Slot) : Prop := lv_has la 7 [(0, .ref b), (1, .ref (aC 0)), (2, .ref (aM 0)), (3, .ref ao), (4, .int (nI i))]
theorem kl_keep {D : va_G} {w1 w2 : va_W} {H H1 : Heap} (h2 : va_P D vwCl w2 H) (hne : ∀ (i j : Nat) (p q : Nat × va_E), w1[i]? = some p → w2[j]? = some q → p.1 ≠ q.1) (hk : ∀ q : Nat, q < H.size → ¬ va_A w1 H.size q → H1[q]? = H[q]?) : va_P D vwCl w2 H1 := by
  refine h2.kept (fun k q hq => hk q.1 (vx_lt h2 hq) ?_)
  rintro (⟨i, e, hi⟩ | hz)
  · exact hne i k _ _ hi hq rfl
  · exact Nat.not_lt.mpr hz (vx_lt h2 hq)
theorem kl_at {ad : Nat → Nat} {cI cZ cR : ClassId} {lay : List Ds} {σ : Sg} {i : Nat} {q : Nat × va_E} (h : (kp_w ad cI cZ cR lay σ)[i]? = some q) : i < lay.length ∧ q.1 = ad i := by
  obtain ⟨d, h1, h2⟩ := kp_w_some h
  exact ⟨(List.getElem?_eq_some_iff.mp h1).1, by rw [h2]⟩
theorem kl_lo {ao : Nat} {cJ : ClassId} {g : Nat → Int64} {k : Nat} {q : Nat × va_E} (h : (lo_w ao cJ g)[k]? = some q) : q.1 = ao := by
  have h1 := (List.getElem?_eq_some_iff.mp h).1
  simp only [List.length_cons, List.length_nil] at h1
  have : k = 0 := by omega
  subst this
  cases h
  rfl
section LL
variable {p : Program} {l : Launch} {e : Env} {s : State} {m : MethodId} {below : List Frame} {meth : Method} {c : Code} {H : Heap} {locs : List Loc} {cells slots : Nat} {Q : State → Prop}
variable {b L : Nat} {xs : Nat → Int32} {D : va_G} {cI cZ cR cJ : ClassId} {aC aM : Nat → Nat} {ao s1 s2 : Nat} {pc i : Nat} {la : Array Slot} {rest : List Value} {σ τ : Sg} {g : Nat → Int64}
theorem kl_callW {R : Room} {args : Array Value} {lay : List Ds} {ad : Nat → Nat} {ret' : Option FieldType} {st0 : List Value} {P : Int32 → Sg → Prop} {A A1 free : Nat → Prop} (hr : va_Run p l e R s m args below meth c H locs cells slots 0 0 (F0 m pc la st0) rest (fun st oc t => (∃ (r : Int32) (τ : Sg), oc = .returned (kp_rv ret' r) ∧ P r τ ∧ va_P D vwCl (kp_w ad cI cZ cR lay τ) t.heap) ∧ va_F A1 st t) free) (hS : va_S A s.heap H locs) (hA : ∀ q, q < H.size → A1 q → A q) (hf : ∀ q, free q → A q)
    (kk : ∀ (r : Int32) (τ : Sg) (H1 : Heap) (locs1 : List Loc), P r τ → va_P D vwCl (kp_w ad cI cZ cR lay τ) H1 → (∀ q : Nat, q < H.size → ¬ A1 q → H1[q]? = H[q]?) → va_S A s.heap H1 locs1 → W p l e R s m args below meth c H1 locs1 cells slots Q (F0 m (pc + 3) la ((kp_rv ret' r).toList ++ rest))) : W p l e R s m args below meth c H locs cells slots Q (F0 m pc la st0) := by
  intro T hT X
  obtain ⟨v, st₀, t, T', L, h0, X', hL, e1, e2, ⟨⟨r, τ, hv, hp, hb⟩, hz, hk⟩, st⟩ := hr T hT X
  cases hv
  rw [h0] at hz hk
  obtain ⟨t2, a1, b1⟩ := kk r τ T'.heap (locs ++ L) hp (by rw [e1]; exact hb) (fun q h1 h2 => by rw [e1]; exact hk q h1 h2)
    ⟨Nat.le_trans hS.1 (by rw [e1]; exact hz), fun q h1 h2 => by rw [e1, hk q (Nat.lt_of_lt_of_le h1 hS.1) (fun z => h2 (hA q (Nat.lt_of_lt_of_le h1 hS.1) z))]; exact hS.2.1 q h1 h2, fun q hq => by
      rcases List.mem_append.mp hq with h | h
      · exact hS.2.2 q h
      · exact hf _ (hL q h)⟩ T' rfl X'
  exact ⟨t2, st t2 a1, b1⟩
/-- a call of either, by its contract -/
theorem kl_call (C : ll_Cx p l s m meth c b L xs D cI cZ cR cJ aC aM ao s1 s2) {lay : List Ds} {ad : Nat → Nat} {h' : Nat} {y : MethodName} {cc : ByteArray} {mL : Nat} {ret' : Option FieldType} {pre : SPre} {post : SPost} {idx ci n : Nat} {fs : List (Option Nat)}
    (hM : kp_Met lay h' y cc mL ret' pre post) (hlk : kp_lnk RL idx 0 ci n y cc mL ret') (hh : h' ≤ 1000 ∧ mL ≤ 20) (hobj : lay[0]? = some (.inl (ci, fs))) {As : List Value} (hAs : As.map (kp_re ad) = As) (hn : As.length = n) (hpre : pre (.ref 0 :: As) σ)
    (hrest : (rest.map fun v => v.category).sum ≤ 8) (hla : la.size = 7) (hd : decode code pc = .ok (.invokevirtual idx, 3)) (hcs : cells ≤ 601024 ∧ slots ≤ 7293034) (hP : va_P D vwCl (kp_w ad cI cZ cR lay σ) H) (hD : va_D (ll_A s) (kp_w ad cI cZ cR lay σ)) (hS : va_S (ll_A s) s.heap H locs)
    (kk : ∀ (r : Int32) (τ : Sg) (H1 : Heap) (locs1 : List Loc), post (.ref 0 :: As) σ r τ → va_P D vwCl (kp_w ad cI cZ cR lay τ) H1 → (∀ q : Nat, q < H.size → ¬ va_A (kp_w ad cI cZ cR lay σ) H.size q → H1[q]? = H[q]?) → va_S (ll_A s) s.heap H1 locs1 → W p l e room_1 s m #[.ref b] below meth c H1 locs1 cells slots Q (F0 m (pc + 3) la ((kp_rv ret' r).toList ++ rest))) :
    W p l e room_1 s m #[.ref b] below meth c H locs cells slots Q (F0 m pc la (As.reverse ++ .ref (ad 0) :: rest)) := by
  obtain ⟨⟨hx, hb, hr, hml, hown, hlocks, hl⟩, ⟨hts, hnw, -, -, -⟩, ⟨hK, -, -⟩, -⟩ := C
  obtain ⟨⟨hy1, hy2, hy3⟩, hcode, hini, hlk⟩ := hlk
  obtain ⟨-, hl1, hl2, hl3, hl4⟩ | ⟨q, -⟩ | ⟨q, -⟩ := hlk
  case inr.inl => cases q
  case inr.inr => cases q
  cases hci : vwCl[ci]? with
  | none => rw [hci] at hl4; cases hl4
  | some cq =>
    rw [hci] at hl4
    have hcy : cq.1 = y.cls := Option.some.inj hl4
    have hrecv := va_recv hK hP hci (kp_w_at hobj)
    rw [hcy] at hrecv
    have hfree : ∀ q, va_A (kp_w ad cI cZ cR lay σ) H.size q → ll_A s q := by
      intro q hq
      rcases hq with ⟨k1, e1, h1⟩ | h1
      · exact hD.2 k1 (q, e1) h1
      · exact Nat.le_trans hS.1 h1
    have cw : CallW room_1 s #[.ref b] RL y.cls idx y cc mL ret' (kp_ws y cc mL ret') (kp_rm h') 0 0 n :=
      ⟨callB_of n hts (kp_GI (fun _ q => q) (kp_ws_in hcode)) rfl rfl rfl (hts _ hini) (hts _ hl1) ⟨hy1, hy2, hy3⟩ ⟨by show h' + 1 ≤ 2048; omega, by show 8 + (mL + 11) + 40 * h' ≤ 84000; omega⟩, hts _ hl2, hts _ hl3⟩
    have hbody : ∀ U : State, U.heap = H → s.WarmedH U.vm → U.heap.size = H.size ∧ kp_B D cI cZ cR ad lay σ U := fun U hU hW => ⟨by rw [hU], fun w hw => kp_nw_warm hw hW (hnw w hw), by rw [hU]; exact hP, va_K.moved hW.alike hK, hD.weaken (fun _ _ _ _ => trivial)⟩
    have hmap : (.ref 0 :: As : List Value).map (kp_re ad) = .ref (ad 0) :: As := by rw [List.map_cons, hAs]; rfl
    have hM' := hM l D cI cZ cR ad H.size (.ref 0 :: As) σ hpre
    have hbl := kp_blind (D := D) (cI := cI) (cZ := cZ) (cR := cR) (ad := ad) (lay := lay) (σ := σ) (sz := H.size) (Bs := (.ref 0 :: As : List Value).map (kp_re ad))
    rw [hmap] at hM' hbl
    refine kl_callW (va_runV (As := As) (b := ad 0) (rest := rest) ⟨hx, hb, hml, hown, hts⟩ hM' cw ⟨hbl, hrecv, fun U hU hW => ⟨rfl, hbody U hU hW⟩⟩ rfl hn hla rfl (lv_room hrest) hd ⟨hcs.1, hcs.2⟩) hS (fun q _ h => hfree q h) hfree (fun x τ H1 locs1 hp hP1 hk hS1 => kk x τ H1 locs1 hp.2 hP1 hk hS1)
/-- a call of the class -/
theorem kl_C (C : ll_Cx p l s m meth c b L xs D cI cZ cR cJ aC aM ao s1 s2) (hH : ll_H D cI cZ cR cJ aC aM ao s H locs σ τ g) {h' : Nat} {y : MethodName} {cc : ByteArray} {mL : Nat} {ret' : Option FieldType} {pre : SPre} {post : SPost} {idx n : Nat}
    (hM : kp_Met layC h' y cc mL ret' pre post) (hlk : kp_lnk RL idx 0 8 n y cc mL ret') (hh : h' ≤ 1000 ∧ mL ≤ 20) {As : List Value} (hAs : As.map (kp_re aC) = As) (hn : As.length = n) (hpre : pre (.ref 0 :: As) σ)
    (hrest : (rest.map fun v => v.category).sum ≤ 8) (hla : la.size = 7) (hd : decode code pc = .ok (.invokevirtual idx, 3)) (hcs : cells ≤ 601024 ∧ slots ≤ 7293034)
    (kk : ∀ (r : Int32) (σ' : Sg) (H1 : Heap) (locs1 : List Loc), post (.ref 0 :: As) σ r σ' → ll_H D cI cZ cR cJ aC aM ao s H1 locs1 σ' τ g → W p l e room_1 s m #[.ref b] below meth c H1 locs1 cells slots Q (F0 m (pc + 3) la ((kp_rv ret' r).toList ++ rest))) :
    W p l e room_1 s m #[.ref b] below meth c H locs cells slots Q (F0 m pc la (As.reverse ++ .ref (aC 0) :: rest)) := by
  obtain ⟨hPC, hPM, hPO, hS⟩ := hH
  obtain ⟨-, -, -, ⟨hDC, hDM, hao⟩, n1, n2, n3⟩ := id C
  refine kl_call C (fs := [some 1, some 7, some 10, some 11, some 15, some 18, some 23, some 38]) hM hlk hh rfl hAs hn hpre hrest hla hd hcs hPC (kp_w_D σ hDC) hS (fun r σ' H1 locs1 hp hP1 hk hS1 => kk r σ' H1 locs1 hp ⟨hP1, kl_keep hPM (fun i j p q h1 h2 => ?_) hk, kl_keep hPO (fun i j p q h1 h2 => ?_) hk, hS1⟩)
  · rw [(kl_at h1).2, (kl_at h2).2]
    exact n1 i j (kl_at h1).1 (kl_at h2).1
  · rw [(kl_at h1).2, kl_lo h2]
    exact n2 i (kl_at h1).1
/-- a call of the model -/
theorem kl_M (C : ll_Cx p l s m meth c b L xs D cI cZ cR cJ aC aM ao s1 s2) (hH : ll_H D cI cZ cR cJ aC aM ao s H locs σ τ g) {h' : Nat} {y : MethodName} {cc : ByteArray} {mL : Nat} {ret' : Option FieldType} {pre : SPre} {post : SPost} {idx n : Nat}
    (hM : kp_Met layM h' y cc mL ret' pre post) (hlk : kp_lnk RL idx 0 9 n y cc mL ret') (hh : h' ≤ 1000 ∧ mL ≤ 20) {As : List Value} (hAs : As.map (kp_re aM) = As) (hn : As.length = n) (hpre : pre (.ref 0 :: As) τ)
    (hrest : (rest.map fun v => v.category).sum ≤ 8) (hla : la.size = 7) (hd : decode code pc = .ok (.invokevirtual idx, 3)) (hcs : cells ≤ 601024 ∧ slots ≤ 7293034)
    (kk : ∀ (r : Int32) (τ' : Sg) (H1 : Heap) (locs1 : List Loc), post (.ref 0 :: As) τ r τ' → ll_H D cI cZ cR cJ aC aM ao s H1 locs1 σ τ' g → W p l e room_1 s m #[.ref b] below meth c H1 locs1 cells slots Q (F0 m (pc + 3) la ((kp_rv ret' r).toList ++ rest))) :
    W p l e room_1 s m #[.ref b] below meth c H locs cells slots Q (F0 m pc la (As.reverse ++ .ref (aM 0) :: rest)) := by
  obtain ⟨hPC, hPM, hPO, hS⟩ := hH
  obtain ⟨-, -, -, ⟨hDC, hDM, hao⟩, n1, n2, n3⟩ := id C
  refine kl_call C (fs := [none, some 1, none, none, none, none, none, none, none, none, none, none, some 2, some 3, some 4, some 5, some 6, some 7, some 8, some 9, some 10, none, some 11, some 12, some 13, some 14, some 15, some 16, some 17, some 18, none, some 19, some 20, none, none, none]) hM hlk hh rfl hAs hn hpre hrest hla hd hcs hPM (kp_w_D τ hDM) hS (fun r τ' H1 locs1 hp hP1 hk hS1 => kk r τ' H1 locs1 hp ⟨kl_keep hPC (fun i j p q h1 h2 => ?_) hk, hP1, kl_keep hPO (fun i j p q h1 h2 => ?_) hk, hS1⟩)
  · rw [(kl_at h1).2, (kl_at h2).2]
    exact fun z => n1 j i (kl_at h2).1 (kl_at h1).1 z.symm
  · rw [(kl_at h1).2, kl_lo h2]
    exact n3 i (kl_at h1).1
/-- script[i + k] -/
theorem kl_ld (C : ll_Cx p l s m meth c b L xs D cI cZ cR cJ aC aM ao s1 s2) (hS : va_S (ll_A s) s.heap H locs) (hl : ll_L b i aC aM ao la) {k : Int} {j : Nat} (hk : Int32.ofInt k = nI j) (hij : i + j < L)
    (d0 : decode code pc = .ok (.aload_n 0, 1)) (d1 : decode code (pc + 1) = .ok (.iload 4, 2)) (d3 : decode code (pc + 3) = .ok (.iconst k, 1)) (d4 : decode code (pc + 4) = .ok (.iadd, 1)) (d5 : decode code (pc + 5) = .ok (.iaload, 1))
    (kk : W p l e room_1 s m #[.ref b] below meth c H locs cells slots Q (F0 m (pc + 6) la (.int (xs (i + j)) :: rest))) : W p l e room_1 s m #[.ref b] below meth c H locs cells slots Q (F0 m pc la rest) := by
  obtain ⟨⟨hx, hb, hr, hml, hown, hlocks, hlt⟩, ⟨hts, hnw, hX, hbl, hL⟩, -⟩ := C
  refine lv_aload_n hx hb d0 rfl (lv_at hl 0 rfl) ?_
  refine lv_iload hx hb d1 (lv_at hl 4 rfl) ?_
  refine lv_iconst hx hb d3 hk ?_
  refine lv_iadd hx hb d4 ?_
  rw [nI_add]
  refine va_sld hx hb hX hbl (Nat.not_le.mpr hbl) hS (vp_in_nI hij (by omega)) d5 ?_
  rw [nI_clamp (by omega)]
  exact kk
end LL
