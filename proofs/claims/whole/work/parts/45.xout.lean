/-! KeyPlan.out: it answers, or throws -/
def nx_l : List Cond := [.declares (Bundle.initS neR), .declares (Bundle.initS "java/lang/Exception"), .declares (Bundle.initS Bundle.tN), .castable neN neN]
set_option maxRecDepth 100000 in
theorem nx_in : ∀ w ∈ (neA RX9 148).filter (fun w => vx_no w && !goodWord w), w ∈ nx_l := by decide +kernel
theorem nx_warm {s U : State} (hW : s.WarmedH U.vm) (h : ∀ w ∈ nx_l, va_Nw w s) : ∀ w ∈ nx_l, va_Nw w U := by
  intro w hw
  have hz := h w hw
  simp only [nx_l, List.mem_cons, List.not_mem_nil, or_false] at hw
  rcases hw with rfl | rfl | rfl | rfl
  · exact va_Nw.warmD hW hz
  · exact va_Nw.warmD hW hz
  · exact va_Nw.warmD hW hz
  · exact va_Nw.warmC hW hz
theorem nx_use {s : State} {A : Array Value} (h : ∀ w ∈ nx_l, va_Nw w s) : ∀ w ∈ nx_l, w.before A s = true := by
  intro w hw
  have hz := h w hw
  simp only [nx_l, List.mem_cons, List.not_mem_nil, or_false] at hw
  rcases hw with rfl | rfl | rfl | rfl
  · exact va_Nw.use rfl hz
  · exact va_Nw.use rfl hz
  · exact va_Nw.use rfl hz
  · exact va_Nw.use rfl hz
/-- what a throw of this class rests on, beyond the good words -/
def kx_Z (A : Nat → Prop) (s1 s2 : Nat) (U : State) (H : Heap) : Prop :=
  (∀ w ∈ nx_l, va_Nw w U) ∧ vk_R RX9 146 "no such command went out" s1 U ∧ vk_R RX9 157 "what is 0 or 1" s2 U ∧ vx_Zq Bundle.tN "UNASSIGNED_STACK" Bundle.steD A U H ∧ vx_Zq Bundle.tN "SUPPRESSED_SENTINEL" Bundle.listD A U H
theorem kx_Z.warm {A : Nat → Prop} {s1 s2 : Nat} {s U : State} {H : Heap} (hW : s.WarmedH U.vm) (h : kx_Z A s1 s2 s H) : kx_Z A s1 s2 U H :=
  ⟨nx_warm hW h.1, vk_R.warm hW h.2.1, vk_R.warm hW h.2.2.1, vx_Zq.moved hW.alike h.2.2.2.1, vx_Zq.moved hW.alike h.2.2.2.2⟩
theorem kx_Z.kept {A : Nat → Prop} {s1 s2 : Nat} {U : State} {H H1 : Heap} (h : kx_Z A s1 s2 U H) (hq : ∀ a : Nat, a < H.size → ¬ A a → H1[a]? = H[a]?) : kx_Z A s1 s2 U H1 :=
  ⟨h.1, h.2.1, h.2.2.1, h.2.2.2.1.kept hq, h.2.2.2.2.kept hq⟩
set_option maxRecDepth 100000 in
theorem kx_two : Cond.classLink RX9 144 neN ∈ kp_tb ∧ Cond.initialized neN ∈ kp_tb := by decide +kernel
theorem kx_hat {args : Array Value} {s : State} {A : Nat → Prop} (hts : ∀ w ∈ kp_tb, w.before args s = true) (hn : ∀ w ∈ nx_l, va_Nw w s)
    (hU : vx_Zq Bundle.tN "UNASSIGNED_STACK" Bundle.steD A s s.heap) (hN : vx_Zq Bundle.tN "SUPPRESSED_SENTINEL" Bundle.listD A s s.heap) : ∀ w ∈ neA RX9 148, w.before args s = true := by
  refine vx_own (fun w hw => ?_) (vx_isRefq hU.1) (vx_isRefq hN.1) hU.2.word hN.2.word
  obtain ⟨h1, h2⟩ := List.mem_filter.mp hw
  by_cases g : goodWord w = true
  · exact hts w (neA_in w (List.mem_filter.mpr ⟨h1, g⟩))
  · refine nx_use hn w (nx_in w (List.mem_filter.mpr ⟨h1, ?_⟩))
    rw [h2]
    simp [g]
section XO
variable {p : Program} {l : Launch} {e : Env} {R : Room} {s : State} {m : MethodId} {args : Array Value} {below : List Frame} {meth : Method} {c : Code} {H : Heap} {locs : List Loc} {cells slots : Nat} {free : Addr → Prop} {ls : Array Slot} {rest : List Value}
variable {Qc : Array Value → State → Outcome → State → Prop} {XC : String → State → State → Prop}
/-- 'throw new NoSuchElementException("text")' in KeyPlan -/
theorem kx_throw {cc : ByteArray} {pc : Nat} (hexec : p.tables.exec = Jvm.exec) (hb : c.code = cc) (hl : l.stackTraces = false) {text : String} {is mc ms sa : Nat} {A : Nat → Prop}
    (hown : s.vm.findClass RX9 = some m.cls) (hts : ∀ w ∈ kp_tb, w.before args s = true) (hn : ∀ w ∈ nx_l, va_Nw w s) (hstr : vk_R RX9 is text sa s)
    (hU : vx_Zq Bundle.tN "UNASSIGNED_STACK" Bundle.steD A s s.heap) (hN : vx_Zq Bundle.tN "SUPPRESSED_SENTINEL" Bundle.listD A s s.heap) (hS : va_S A s.heap H locs) (hsize : ls.size = c.maxLocals)
    (d0 : decode cc pc = .ok (.new 144, 3)) (d3 : decode cc (pc + 3) = .ok (.dup, 1)) (d4 : decode cc (pc + 4) = .ok (.ldc is, 2)) (d6 : decode cc (pc + 6) = .ok (.invokespecial 148, 3)) (d9 : decode cc (pc + 9) = .ok (.athrow, 1))
    (hout : ∀ x ∈ c.exceptionTable.toList, covers x (pc + 9) = false)
    (hRframes : 5 < R.frames) (hRlocals : (rest.map fun v => v.category).sum + 82 ≤ R.locals) (hRcells : cells + 1 ≤ R.cells) (hRslots : slots + 6 ≤ R.slots) (hlocks : meth.locks = false)
    (hx : ∀ t : State, s.vm.Alike t.vm → H.size ≤ t.heap.size → (∀ q : Nat, q < H.size → t.heap[q]? = H[q]?) → XC neN s t)
    (hf : ∀ z ∈ locs, free z.base) (hc : cells + 1 ≤ mc) (hs : slots + 6 ≤ ms) :
    W p l e R s m args below meth c H locs cells slots (vx_MQ below Qc XC args s mc ms free) (F0 m pc ls rest) := by
  intro T hT X
  have htr : e.platform.stackTraces = false := (show e.platform.stackTraces = l.stackTraces by rw [X.admits.platform]).trans hl
  have Y := vx_rebase X (R' := { frames := R.frames, locals := R.locals, cells := 1, slots := 6 }) (Nat.le_refl _) (Nat.le_refl _) hRcells hRslots
  obtain ⟨s', hA⟩ : ∃ z, z = (T.setVm s.vm).setFrames (.invoking m args :: below) := ⟨_, rfl⟩
  rw [← hA] at Y
  have hvm : s'.vm = s.vm := by rw [hA]; rfl
  have hhp : s'.heap = H := by rw [hA]; exact hT
  have hW0 : s.WarmedH s'.vm := by rw [hvm]; exact State.WarmedH.refl s
  have hts' : ∀ w ∈ kp_tb, w.before args s' = true := fun w hw => word_at hW0 (good_of_word (kp_tb_good w hw).2) (hts w hw)
  have hU' : vx_Zq Bundle.tN "UNASSIGNED_STACK" Bundle.steD A s' s'.heap := by rw [hhp]; exact vx_Zq.moved hW0.alike (hU.kept hS.2.1)
  have hN' : vx_Zq Bundle.tN "SUPPRESSED_SENTINEL" Bundle.listD A s' s'.heap := by rw [hhp]; exact vx_Zq.moved hW0.alike (hN.kept hS.2.1)
  have h : ∀ w ∈ neA RX9 148, w.before args s' = true := kx_hat hts' (nx_warm hW0 hn) hU' hN'
  have hown' : s'.vm.findClass RX9 = some m.cls := by rw [hvm]; exact hown
  obtain ⟨vm₁, cX, kX, hfX, hkX, -, -, X₁, st1⟩ := Y.newCold hexec (own := RX9) (C := neN) (index := 144) (n := 6) hown' (hts' _ kx_two.1) (kx_tail h (.instantiable neN 6) (by simp [neT])) (hts' _ kx_two.2)
    (g := F0 m pc ls rest) rfl (by rw [hb]; exact d0) (Nat.le_refl _) (Nat.le_refl _)
  generalize hT1 : (T.setVm vm₁).pushCell { cls := cX, slots := kX.instanceTypes.map defaultValue, vm := .none } = T1 at X₁ st1
  have hcat : (Value.ref T.heap.size).category = 1 := rfl
  have hcellA : T1.heap[T.heap.size]? = some (freshCell cX kX) := by rw [← hT1]; exact State.heap_pushCell_size _ _
  have d3' : decode c.code (pc + 3) = .ok (.dup, 1) := by rw [hb]; exact d3
  have d4' : decode c.code (pc + 4) = .ok (.ldc is, 2) := by rw [hb]; exact d4
  have hstr' : vk_R RX9 is text sa s' := vk_R.warm hW0 hstr
  obtain ⟨U, hsteps, hrun, hend, hW, hsame, ce, hce, hce1, hce2⟩ := kx_ctor X₁ hexec htr (own := RX9) (ic := 148) hown' h hfX hkX hcellA (by rw [hhp, hT]; exact Nat.le_refl _) (msg := .ref sa) rfl
    (g := { method := m, pc := pc + 6, locals := ls, stack := .ref sa :: .ref T.heap.size :: .ref T.heap.size :: rest, locked := none }) rfl hsize rfl rfl (rest := rest) rfl
    (by rw [hb]; exact d6) (by rw [hb]; exact d9) hout hRframes (by simp only [List.map_cons, List.sum_cons, hcat]; show 2 * 0 + _ + 81 ≤ _; omega) hlocks
  obtain ⟨f1, f2⟩ := vx_frame hsame
  rw [hhp] at f1 f2
  have hWs : s.WarmedH U.vm := State.WarmedH.trans hW0 hW
  have hcl : s.vm.findClass neN = some ce.cls := by rw [hce1, ← hvm]; exact hfX
  have hall : s.sameButNew ({ U with vm := s.vm } : State) locs mc ms := by
    subst hA
    obtain ⟨e1, e2⟩ := hsame
    rw [State.setFrames_setFrames] at e1
    have h2 : (T.setVm s.vm).sameButNew ({ U with vm := s.vm } : State) [] (0 + 1) (0 + 6) := ⟨e1, e2⟩
    have h3 := X.same.trans h2
    rw [List.append_nil] at h3
    exact h3.mono hc hs
  refine ⟨U, ?_, .threw T.heap.size, hrun, hend, Or.inr ⟨T.heap.size, rfl, neN, ce, locs, hx U hWs.alike f1 (fun q hq => f2 q hq (fun z hz => nomatch hz)), hce, hce2, hcl, hWs, hall, hf⟩⟩
  refine st1 _ ?_
  show Steps p.tables e below (T1.setTop { method := m, pc := pc + 3, locals := ls, stack := .ref T.heap.size :: rest, locked := none }) _
  jvm_step X₁.here [X₁.here.top, hexec, d3', Value.category]
  exact X₁.ldcString hexec (own := RX9) (text := text) (index := is) (a := sa) hown' hstr'.1 hstr'.2
    (g := { method := m, pc := pc + 4, locals := ls, stack := .ref T.heap.size :: .ref T.heap.size :: rest, locked := none }) rfl d4' _ hsteps
end XO
set_option maxRecDepth 100000 in
theorem gk_out : ∀ q ∈ ([(37, 8, 4, false), (141, 7, 2, false), (151, 7, 0, false), (154, 7, 1, false)] : List Fe), kp_okG RX9 q := kp_okGs_spec _ [265, 147, 143, 145] (by decide +kernel)
abbrev xo_rm : Room := { frames := 6, cells := 1, slots := 6, locals := 120 }
abbrev xo_pre (D : va_G) (cI cZ cR : ClassId) (ad : Nat → Nat) (sz : Nat) (σ : Sg) (i w : Int32) (A : Nat → Prop) (s1 s2 : Nat) : Array Value → State → Prop :=
  va_Pc (([.ref 0, .int i, .int w] : List Value).map (kp_re ad)) (fun U => U.heap.size = sz ∧ kp_B D cI cZ cR ad layC σ U ∧ kx_Z A s1 s2 U U.heap)
abbrev xo_Q (sz : Nat) (σ : Sg) (i w : Int32) : Array Value → State → Outcome → State → Prop :=
  va_Qi (fun (r : Int32) (_ : Unit) => outOK (σ 15 2) i w ∧ r = if w = nI 0 then σ 16 (tn i) else σ 17 (tn i)) (fun _ _ => True) (fun q => sz ≤ q)
abbrev xo_X (sz : Nat) (σ : Sg) (i w : Int32) : String → State → State → Prop := vx_X (fun _ : Unit => ¬ outOK (σ 15 2) i w) (fun E _ _ => E = neN) (fun q => sz ≤ q)
set_option maxHeartbeats 1000000 in
theorem c_X9_out {l : Launch} (hl : l.stackTraces = false) (D : va_G) (cI cZ cR : ClassId) (ad : Nat → Nat) (sz : Nat) (σ : Sg) (i w : Int32) (A : Nat → Prop) (s1 s2 : Nat) :
    vx_Met l yX9_out (kp_ws yX9_out cX9_out 3 (some .int)) xo_rm (xo_pre D cI cZ cR ad sz σ i w A s1 s2) (xo_Q sz σ i w) (xo_X sz σ i w) 1 6 (fun q => sz ≤ q) := by
  refine vx_ofW (cc := cX9_out) (maxL := 3) (ret := some .int) (by decide) rfl ?_
  intro p e s m args below meth c s₁ B hml hex hv
  obtain ⟨rfl, hsz, ⟨hnw, hP, hK, hD0⟩, hZ1, hZ2, hZ3, hZ4, hZ5⟩ := hv
  have hx := B.exec
  have hb := B.bytes
  have hr := B.returns
  have hts0 := atoms_spec (ws := kp_ws yX9_out cX9_out 3 (some .int)) B.pre
  have hts : ∀ w ∈ kp_tb, w.before _ s = true := fun w hw => hts0 w (List.mem_cons_of_mem _ hw)
  have hown : s.vm.findClass RX9 = some m.cls := findClass_of_methodNamed B.named
  have hlocks := B.notSynchronized
  subst hsz
  have C : kp_Cx p s m (([.ref 0, .int i, .int w] : List Value).map (kp_re ad)).toArray meth c cX9_out RX9 3 (some .int) D cI cZ cR := ⟨hx, hb, hml, hown, hts, hnw, hr, hlocks, hK⟩
  have hlh := kp_entry_lh (ad := ad) (As := [.ref 0, .int i, .int w]) (mL := 3) rfl (Nat.le_refl _)
  rw [lg_entry_eq]
  generalize ((lg_sl (([.ref 0, .int i, .int w] : List Value).map (kp_re ad)) ++ List.replicate (3 - (lg_sl (([.ref 0, .int i, .int w] : List Value).map (kp_re ad))).length) Slot.unset).toArray) = la at hlh ⊢
  have l0 : la[0]? = some (.val (.ref (ad 0))) := (hlh.2.2 0 (.ref 0) rfl).1
  have l1 : la[1]? = some (.val (.int i)) := (hlh.2.2 1 (.int i) rfl).1
  have l2 : la[2]? = some (.val (.int w)) := (hlh.2.2 2 (.int w) rfl).1
  have hls : la.size = c.maxLocals := hlh.1.trans hml.symm
  have hxx : ¬ outOK (σ 15 2) i w → ∀ t : State, s.vm.Alike t.vm → s.heap.size ≤ t.heap.size → (∀ q : Nat, q < s.heap.size → t.heap[q]? = s.heap[q]?) → xo_X s.heap.size σ i w neN s t :=
    fun h t _ z1 z2 => ⟨(), h, rfl, z1, fun q h1 _ => z2 q h1⟩
  have th1 : ¬ outOK (σ 15 2) i w → W p l e xo_rm s m _ below meth c s.heap [] 0 0 (vx_MQ below (xo_Q s.heap.size σ i w) (xo_X s.heap.size σ i w) _ s 1 6 (fun q => s.heap.size ≤ q)) (F0 m 22 la []) := fun h =>
    kx_throw hx hb hl hown hts hZ1 hZ2 hZ4 hZ5 va_S.rf hls dX9_out_22 dX9_out_25 dX9_out_26 dX9_out_28 dX9_out_31 (fun x hx => (hex x hx).elim) (by decide) (by decide) (by decide) (by decide) hlocks (hxx h) (fun _ z => nomatch z) (by decide) (by decide)
  have th2 : ¬ outOK (σ 15 2) i w → W p l e xo_rm s m _ below meth c s.heap [] 0 0 (vx_MQ below (xo_Q s.heap.size σ i w) (xo_X s.heap.size σ i w) _ s 1 6 (fun q => s.heap.size ≤ q)) (F0 m 80 la []) := fun h =>
    kx_throw hx hb hl hown hts hZ1 hZ3 hZ4 hZ5 va_S.rf hls dX9_out_80 dX9_out_83 dX9_out_84 dX9_out_86 dX9_out_89 (fun x hx => (hex x hx).elim) (by decide) (by decide) (by decide) (by decide) hlocks (hxx h) (fun _ z => nomatch z) (by decide) (by decide)
  have rt : ∀ (r : Int32) (pc : Nat), outOK (σ 15 2) i w → (r = if w = nI 0 then σ 16 (tn i) else σ 17 (tn i)) → decode cX9_out pc = .ok (.ireturn, 1) → W p l e xo_rm s m (([.ref 0, .int i, .int w] : List Value).map (kp_re ad)).toArray below meth c s.heap [] 0 0 (vx_MQ below (xo_Q s.heap.size σ i w) (xo_X s.heap.size σ i w) (([.ref 0, .int i, .int w] : List Value).map (kp_re ad)).toArray s 1 6 (fun q => s.heap.size ≤ q)) (F0 m pc la [.int r]) := fun r pc h1 h2 hd =>
    W.widen (k := 1) (n := 6) (by decide) (by decide) (vx_ret (W.iret hx hb hr (fun t ht hW => ⟨⟨r, (), rfl, ⟨h1, h2⟩, trivial⟩, by rw [ht]; exact Nat.le_refl _, fun q _ _ => by rw [ht]⟩) (fun _ z => nomatch z) hd))
  refine lv_iload_n hx hb dX9_out_0 rfl l1 ?_
  refine lv_if_lt hx hb dX9_out_1 (tgt := 22) rfl (fun h => th1 fun z => z.1 h) (fun h0 => ?_)
  refine lv_iload_n hx hb dX9_out_4 rfl l1 ?_
  refine lv_aload_n hx hb dX9_out_5 rfl l0 ?_
  refine kp_v_get (σ := σ) C (gk_out (37, 8, 4, false) (by decide)) (a := 0) (fs := [some 1, some 7, some 10, some 11, some 15, some 18, some 23, some 38]) rfl (o := some 15) rfl dX9_out_6 hP ?_
  refine kp_v_get (σ := σ) C (gk_out (141, 7, 2, false) (by decide)) (a := 15) (fs := [some 16, some 17, none, none, none, none, none, none]) rfl (o := none) rfl dX9_out_9 hP ?_
  refine lv_icmp_ge hx hb dX9_out_12 (tgt := 22) rfl (fun h => th1 fun z => Int32.not_le.mpr z.2.1 h) (fun h1 => ?_)
  have h1 : i < σ 15 2 := Int32.not_le.mp h1
  refine lv_iload_n hx hb dX9_out_15 rfl l1 ?_
  refine lv_sipush (v := nI 400) hx hb dX9_out_16 (by decide) ?_
  refine lv_icmp_lt hx hb dX9_out_19 (tgt := 32) rfl (fun h2 => ?_) (fun h => th1 fun z => h z.2.2.1)
  have hin : vp_in i 400 := by
    have hni : nn i := (nI_tn h0).symm
    have := (nn_lt hni (show 400 < 2 ^ 31 by omega)).2.mp h2
    rw [hni]; exact (kp_in (tn_lt _)).mpr this
  refine lv_iload_n hx hb dX9_out_32 rfl l2 ?_
  by_cases w0 : w = nI 0
  · subst w0
    refine lv_lookup (off := 27) (tgt := 60) hx hb dX9_out_33 (by decide) (by decide) rfl ?_
    refine lv_aload_n hx hb dX9_out_60 rfl l0 ?_
    refine kp_v_get (σ := σ) C (gk_out (37, 8, 4, false) (by decide)) (a := 0) (fs := [some 1, some 7, some 10, some 11, some 15, some 18, some 23, some 38]) rfl (o := some 15) rfl dX9_out_61 hP ?_
    refine kp_v_get (σ := σ) C (gk_out (151, 7, 0, false) (by decide)) (a := 15) (fs := [some 16, some 17, none, none, none, none, none, none]) rfl (o := some 16) rfl dX9_out_64 hP ?_
    refine lv_iload_n hx hb dX9_out_67 rfl l1 ?_
    refine va_iald (f := σ 16) hx hb hK hP 16 0 (kp_w_at (a := 16) (d := .inr (0, 400, [])) rfl) rfl hin dX9_out_68 ?_
    exact rt _ 69 ⟨h0, h1, h2, Or.inl rfl⟩ (by rw [if_pos rfl]; rfl) dX9_out_69
  · by_cases w1 : w = nI 1
    · subst w1
      refine lv_lookup (off := 37) (tgt := 70) hx hb dX9_out_33 (by decide) (by decide) rfl ?_
      refine lv_aload_n hx hb dX9_out_70 rfl l0 ?_
      refine kp_v_get (σ := σ) C (gk_out (37, 8, 4, false) (by decide)) (a := 0) (fs := [some 1, some 7, some 10, some 11, some 15, some 18, some 23, some 38]) rfl (o := some 15) rfl dX9_out_71 hP ?_
      refine kp_v_get (σ := σ) C (gk_out (154, 7, 1, false) (by decide)) (a := 15) (fs := [some 16, some 17, none, none, none, none, none, none]) rfl (o := some 17) rfl dX9_out_74 hP ?_
      refine lv_iload_n hx hb dX9_out_77 rfl l1 ?_
      refine va_iald (f := σ 17) hx hb hK hP 17 0 (kp_w_at (a := 17) (d := .inr (0, 400, [])) rfl) rfl hin dX9_out_78 ?_
      exact rt _ 79 ⟨h0, h1, h2, Or.inr rfl⟩ (by rw [if_neg (by decide)]; rfl) dX9_out_79
    · refine lv_lookup (off := 47) (tgt := 80) hx hb dX9_out_33 (by decide) ?_ rfl (th2 fun z => z.2.2.2.elim w0 w1)
      show Op.lookupswitch.offset [(0, 27), (1, 37)] 47 w.toInt = 47
      rw [Op.lookupswitch.offset_cons, Op.lookupswitch.offset_cons, Op.lookupswitch.offset_nil]
      rw [if_neg (fun q => w0 (Int32.toInt_inj.mp q.symm)), if_neg (fun q => w1 (Int32.toInt_inj.mp q.symm))]
