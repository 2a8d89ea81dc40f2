/-! 'throw new NoSuchElementException(..)': its constructor passes the message on at index 13 -/
abbrev neN : String := "java/util/NoSuchElementException"
abbrev neR : String := "java/lang/RuntimeException"
abbrev neE : List String := ["java/lang/Exception"]
abbrev neB : ByteArray := prog_18_method_4_code
theorem neB_0 : decode neB 0 = .ok (.aload_n 0, 1) := by decide +kernel
theorem neB_1 : decode neB 1 = .ok (.aload_n 1, 1) := by decide +kernel
theorem neB_2 : decode neB 2 = .ok (.invokespecial 13, 3) := by decide +kernel
theorem neB_5 : decode neB 5 = .ok (.return_, 1) := by decide +kernel
/-- the words of the throw: the superclasses' as the library has them, this class's own with its own index -/
def neT (own : String) (ic : Nat) : List Cond := [.methodLink own ic (Bundle.initS neN), .instantiable neN 6, .castable neN neN, .selects neN Bundle.tFill0 Bundle.tFill0, .selects neN Bundle.tFill Bundle.tFill, .lays neN Bundle.tN "cause" "Ljava/lang/Throwable;", .lays neN Bundle.tN "stackTrace" Bundle.steD, .lays neN Bundle.tN "suppressedExceptions" Bundle.listD, .lays neN Bundle.tN "detailMessage" "Ljava/lang/String;", .isRef (.static Bundle.tN "UNASSIGNED_STACK" Bundle.steD), .isRef (.static Bundle.tN "SUPPRESSED_SENTINEL" Bundle.listD), .fieldLink Bundle.tN 198 Bundle.tN "backtrace" "Ljava/lang/Object;", .lays Bundle.tN Bundle.tN "backtrace" "Ljava/lang/Object;", .lays neN Bundle.tN "backtrace" "Ljava/lang/Object;"]
def neA (own : String) (ic : Nat) : List Cond := Bundle.throwableAtoms ++ (Bundle.throwableSAtoms ++ (Bundle.passSAtoms neN neR 13 neB ++ (Bundle.chainSAtoms neR neE ++ neT own ic)))
set_option maxRecDepth 100000 in
theorem neA_in : ∀ w ∈ (neA RX9 148).filter goodWord, w ∈ kp_tb := by decide +kernel

section NE
variable {p : Program} {l : Launch} {e : Env} {R : Room} {s : State} {m : MethodId} {args : Array Value} {below : List Frame} {meth : Method} {c : Code} {cells slots : Nat}
theorem neN_fit : Bundle.fit neN = true := by decide +kernel
theorem neR_fit : Bundle.fit neR = true := by decide +kernel
theorem neE_fit : ∀ n ∈ neE, Bundle.fit n = true := by decide +kernel
/-- the chain of constructors that pass the message on: this one at 13, the others at 7 -/
theorem kx_chain {pl : Platform} (hpl : pl.magicAccessors = ({} : Platform).magicAccessors) {top : MethodId} (htop : s.methodNamed? (Bundle.initS Bundle.tN) = some top) {own : String} {ic : Nat}
    (h : ∀ w ∈ neA own ic, w.before args s = true) :
    ∃ Ps : List PassC, Ps.length = 3 ∧ (∀ P ∈ Ps, P.LinksS pl s) ∧ PassesOn top (Ps.map (·.toPassT)) ∧ s.methodNamed? (Bundle.initS neN) = some (firstOf top (Ps.map (·.toPassT))) := by
  obtain ⟨A, hA, hm, hs⟩ := PassC.ofS_atoms (args := args) (s := s) hpl (X := neN) (Y := neR) (Bundle.fit_spec neN_fit).1 (Bundle.fit_spec neR_fit).2 neB_0 neB_1 neB_2 neB_5
    (fun w hw => h w (by simp only [neA, List.mem_append]; exact Or.inr (Or.inr (Or.inl hw))))
  obtain ⟨B, Bs, hl, hB, hBs, hn, h1, h2⟩ := Bundle.chainS (args := args) hpl htop neE neR neR_fit neE_fit
    (fun w hw => h w (by simp only [neA, List.mem_append]; exact Or.inr (Or.inr (Or.inr (Or.inl hw)))))
  have hAB : A.sup = B.m := Option.some.inj (hs.symm.trans hn)
  refine ⟨A :: B :: Bs, by simp [hl], ?_, ⟨hAB, h1, h2⟩, hm⟩
  intro P hP
  rcases List.mem_cons.mp hP with rfl | hP
  · exact hA
  · rcases List.mem_cons.mp hP with rfl | hP
    · exact hB
    · exact hBs P hP
theorem kx_tail {own : String} {ic : Nat} (h : ∀ w ∈ neA own ic, w.before args s = true) : ∀ w ∈ neT own ic, w.before args s = true :=
  fun w hw => h w (by simp only [neA, List.mem_append]; exact Or.inr (Or.inr (Or.inr (Or.inr hw))))
set_option maxHeartbeats 1000000 in
/-- the constructor's run and the throw, from the message on the stack -/
theorem kx_ctor {W : State} (X : Stand p l e R s m args below meth c W [] cells slots) (hexec : p.tables.exec = Jvm.exec) (htr : e.platform.stackTraces = false) {own : String} {ic : Nat}
    (hown : s.vm.findClass own = some m.cls) (h : ∀ w ∈ neA own ic, w.before args s = true)
    {a : Addr} {cX : ClassId} {kX : Class} (hfX : s.vm.findClass neN = some cX) (hkX : s.vm.classes[cX]? = some kX) (hcell : W.heap[a]? = some (freshCell cX kX)) (hnew : s.heap.size ≤ a)
    {msg : Value} (hmsg : msg.isRef = true) {g : JFrame} (hg : g.method = m) (hsize : g.locals.size = c.maxLocals) (hlocked : g.locked = none) (hentered : g.entered = []) {rest : List Value} (hstack : g.stack = msg :: .ref a :: .ref a :: rest)
    (hd6 : decode c.code g.pc = .ok (.invokespecial ic, 3)) (hd9 : decode c.code (g.pc + 3) = .ok (.athrow, 1)) (hout : ∀ x ∈ c.exceptionTable.toList, covers x (g.pc + 3) = false)
    (hRf : 5 < R.frames) (hRl : 2 * g.monitorRoom + ((Value.ref a :: rest).map fun v => v.category).sum + 81 ≤ R.locals) (hlocks : meth.locks = false) :
    ∃ U : State, Steps p.tables e below (W.setTop g) U ∧ U.status = .running ∧ Ended U below (.threw a) ∧ s.WarmedH U.vm ∧ s.sameButNew ({ U with vm := s.vm } : State) [] cells slots ∧
      ∃ ce : Cell, U.heap[a]? = some ce ∧ ce.cls = cX ∧ ce.vm = .none := by
  have hpl : e.platform.magicAccessors = ({} : Platform).magicAccessors := by rw [X.admits.platform]
  have k := kx_tail h
  obtain ⟨T, Z0, L, -, Y⟩ := ThrowableC.of_atoms (args := args) (pl := e.platform) (s := s) (by rw [X.admits.platform]) (by rw [X.admits.platform]) hpl (fun w hw => h w (by simp only [neA, List.mem_append]; exact Or.inl hw))
  obtain ⟨Z, M, LZ, LM, hnZ⟩ := Init0T.ofS_atoms (args := args) hpl L Y (fun w hw => h w (by simp only [neA, List.mem_append]; exact Or.inr (Or.inl hw)))
  obtain ⟨Ps, hlen, hLs, hpass, hfirst⟩ := kx_chain hpl hnZ h
  obtain ⟨c1, k1, hc1, hk1, hord, -, -, -⟩ := Cond.instantiable_spec (k (.instantiable neN 6) (by simp [neT]))
  cases Option.some.inj (hc1.symm.trans hfX)
  cases Option.some.inj (hk1.symm.trans hkX)
  have hsel0 : selectMethod e.platform s.vm cX T.fill0 = .method T.fill0 := by
    obtain ⟨x1, x2, x3, q1, q2, q3, q4, -⟩ := Cond.selects_spec (k (.selects neN Bundle.tFill0 Bundle.tFill0) (by simp [neT]))
    cases Option.some.inj (q1.symm.trans hfX)
    cases Option.some.inj (q2.symm.trans (State.methodFound?_of_named Y.fill0 (by decide)))
    cases Option.some.inj (q3.symm.trans Y.fill0)
    rw [Launch.admits_selectMethod X.admits]; exact q4
  have hselF : selectMethod e.platform s.vm cX T.fill = .method T.fill := by
    obtain ⟨x1, x2, x3, q1, q2, q3, q4, -⟩ := Cond.selects_spec (k (.selects neN Bundle.tFill Bundle.tFill) (by simp [neT]))
    cases Option.some.inj (q1.symm.trans hfX)
    cases Option.some.inj (q2.symm.trans (State.methodFound?_of_named Y.fill (by decide)))
    cases Option.some.inj (q3.symm.trans Y.fill)
    rw [Launch.admits_selectMethod X.admits]; exact q4
  obtain ⟨cs, hcs, hiss⟩ := Y.statics
  obtain ⟨u0, hu0⟩ := Cond.staticRefV Y.unassigned L.unassignedStatic L.statics hcs hiss (k (.isRef (.static Bundle.tN "UNASSIGNED_STACK" Bundle.steD)) (by simp [neT]))
  obtain ⟨sen, hsen⟩ := Cond.staticRefV Y.sentinel L.sentinelStatic L.statics hcs hiss (k (.isRef (.static Bundle.tN "SUPPRESSED_SENTINEL" Bundle.listD)) (by simp [neT]))
  obtain ⟨bi, bj, fB, hB1, hB2, hB3, hB4, -, hBn, hBt, hBf⟩ := Cond.ownField (t := .object "java/lang/Object") Y.found L.cls (by decide +kernel) (k (.fieldLink Bundle.tN 198 Bundle.tN "backtrace" "Ljava/lang/Object;") (by simp [neT])) (k (.lays Bundle.tN Bundle.tN "backtrace" "Ljava/lang/Object;") (by simp [neT])) e.platform hpl
  obtain ⟨cs', hcs', hvs, -, hkeep⟩ := X.same.2.2.2.2.2 T.aS cs hcs
  have hks : cs'.vm ≠ .unknown := by
    rw [hvs]
    intro hu
    rw [show cs.vm = .unknown from hu] at hiss
    cases hiss
  have hne : T.aS ≠ a := Nat.ne_of_lt (Nat.lt_of_lt_of_le (Array.getElem?_eq_some_iff.mp hcs).1 hnew)
  obtain ⟨iM, hM⟩ := Y.msg
  obtain ⟨tC, dC, eC, nC⟩ := Cond.laysAt hfX hkX Y.cause (k (.lays neN Bundle.tN "cause" "Ljava/lang/Throwable;") (by simp [neT]))
  obtain ⟨tS, dS, eS, nS⟩ := Cond.laysAt hfX hkX Y.stack (k (.lays neN Bundle.tN "stackTrace" Bundle.steD) (by simp [neT]))
  obtain ⟨tP, dP, eP, nP⟩ := Cond.laysAt hfX hkX Y.supp (k (.lays neN Bundle.tN "suppressedExceptions" Bundle.listD) (by simp [neT]))
  obtain ⟨tM, dM, eM, nM⟩ := Cond.laysAt hfX hkX hM (k (.lays neN Bundle.tN "detailMessage" "Ljava/lang/String;") (by simp [neT]))
  obtain ⟨tB, dB, eB, nB⟩ := Cond.laysAt hfX hkX hBf (k (.lays neN Bundle.tN "backtrace" "Ljava/lang/Object;") (by simp [neT]))
  have bC := Cond.laysApart eB eC nB nC (by rw [hBn, Y.causeName]; decide)
  have bS := Cond.laysApart eB eS nB nS (by rw [hBn, Y.stackName]; decide)
  have bP := Cond.laysApart eB eP nB nP (by rw [hBn, Y.suppName]; decide)
  have hskip : SkipFacts T e.platform s (fun u => u) u0 ((preparedCellV T.toThrowableT (freshCell cX kX) a u0 sen).withEntry W.cur) := by
    refine ⟨{ ci198 := bi, i198 := bj, fBack := fB }, ⟨hB1, hB2, hB3, hB4⟩, ?_, fun _ _ => rfl⟩
    have hd := fresh_default (c := cX) tB
    rw [hBt] at hd
    simpa [preparedCellV, Cell.setSlot, Cell.withEntry, Array.getElem?_setIfInBounds, bC, bS, bP, bC.symm, bS.symm, bP.symm, defaultValue] using hd
  obtain ⟨tm, -, -, -, vm₁, hnC, -, -, -, -, -, -, -, hW₁, st1⟩ := Steps.initColdS (tb := p.tables) (e := e) (below := below) (s := s) (U := W) X.here hexec X.warmed hpl hown (t := Bundle.initS neN) rfl rfl (Bundle.fit_spec neN_fit).2
    (k (.methodLink own ic (Bundle.initS neN)) (by simp [neT])) (h (.instanceMethod (Bundle.initS neN)) (by simp [neA, Bundle.passSAtoms])) (bytes := neB) (maxL := 2) (h (.code (Bundle.initS neN) neB 2 none) (by simp [neA, Bundle.passSAtoms]))
    (f := g) hg (a := a) (msg := msg) (rest := .ref a :: rest) hstack hd6
  cases Option.some.inj (hnC.symm.trans hfirst)
  obtain ⟨vm₂, X₂, st2⟩ := (X.noted hW₁).ctorMessageOffV hexec (g := { g with stack := .ref a :: rest }) hg hsize T L Z LZ M LM Ps hLs hpass (u0 := u0) (sen := sen) (self := a) hmsg (cell := freshCell cX kX) (cellS := cs')
    hcell (fun _ => by simp) (by simp) rfl rfl hsel0 hselF hcs' hne hks (by rw [hkeep _ (fun z => nomatch z)]; exact hu0) (by rw [hkeep _ (fun z => nomatch z)]; exact hsen)
    (Takes.of_laid hkX hord tC (by rw [Y.causeType]; rfl)) (Takes.of_laid hkX hord tS (by rw [Y.stackType]; exact fits_refV_array _ u0)) (Takes.of_laid hkX hord tP (by rw [Y.suppType]; exact fits_refV_object _ sen))
    (Takes.of_laid hkX hord tM (by rw [Y.msgType]; exact fits_refV_object _ ⟨msg, hmsg⟩)) Y.objLocals hskip htr [] hd6 (by rw [hlen]; exact hRf) (by rw [hlen]; exact hRl)
  obtain ⟨hwalk, hrun, hended, hWU, hsame⟩ := X₂.athrowLeaves hexec (g := { g with stack := .ref a :: rest, pc := g.pc + 3 }) hg hlocked hentered hout (a := a) (rest := rest) rfl hd9
  have hlt : a < ((W.setVm vm₁).setVm vm₂).heap.size := (Array.getElem?_eq_some_iff.mp hcell).1
  refine ⟨_, st1 _ (fun acts => ?_), hrun, hended, hWU, hsame.weaken (fun y hy hlt' => ?_) (Nat.le_refl _) (Nat.le_refl _), _, heapAt_setCell_self (s := (W.setVm vm₁).setVm vm₂) (plainBareV T.toThrowableT (freshCell cX kX) a u0 sen msg) hlt, rfl, rfl⟩
  · rw [doInvoke_state]
    exact st2 _ hwalk
  · exfalso
    have hb : y.base = a := by
      simp only [List.nil_append, List.mem_cons, List.not_mem_nil, or_false] at hy
      rcases hy with rfl | rfl | rfl | rfl | rfl <;> rfl
    rw [hb] at hlt'
    exact Nat.not_lt.mpr hnew hlt'
end NE
