/-! the law's own helper: out, with its handler -/
abbrev lo_h : List (Nat × Nat × Nat × Nat) := [(0, 10, 13, 13)]
abbrev lo_ws : List Cond := .codeWith yL_out cL_out 5 (some .int) lo_h :: kp_tb
set_option maxRecDepth 100000 in
theorem lo_in : Cond.codeWith yL_out cL_out 5 (some .int) lo_h ∈ kp_tb ∧ Cond.classLink RL 13 neN ∈ kp_tb := by decide +kernel
abbrev lo_w (ao : Nat) (cJ : ClassId) (g : Nat → Int64) : va_W := [(ao, .inl (cJ, 1, .inr (.inl g)))]
abbrev lo_rm : Room := { frames := 7, cells := 1, slots := 6, locals := 160 }
abbrev lo_pre (D : va_G) (cI cZ cR cJ : ClassId) (ad : Nat → Nat) (sz : Nat) (σ : Sg) (i w : Int32) (A : Nat → Prop) (s1 s2 ao : Nat) (g : Nat → Int64) : Array Value → State → Prop :=
  va_Pc [.ref (ad 0), .int i, .int w, .ref ao] (fun U => U.heap.size = sz ∧ kp_B D cI cZ cR ad layC σ U ∧ kx_Z A s1 s2 U U.heap ∧ va_P D vwCl (lo_w ao cJ g) U.heap ∧ va_K D vwCl [(cJ, .long)] U)
abbrev lo_post (σ : Sg) (i w : Int32) (r : Int32) (u : Nat → Int64) : Prop := (outOK (σ 15 2) i w → r = nI 0 ∧ u 0 = (if w = nI 0 then σ 16 (tn i) else σ 17 (tn i)).toInt64) ∧ (¬ outOK (σ 15 2) i w → r = nI 1)
abbrev lo_Q (D : va_G) (cJ : ClassId) (sz : Nat) (σ : Sg) (i w : Int32) (ao : Nat) : Array Value → State → Outcome → State → Prop :=
  va_Qi (lo_post σ i w) (fun u t => va_P D vwCl (lo_w ao cJ u) t.heap) (fun q => q = ao ∨ sz ≤ q)
abbrev lo_X : String → State → State → Prop := vx_X (fun _ : Unit => False) (fun _ _ _ => True) (fun _ => False)
theorem xo_blind {D : va_G} {cI cZ cR : ClassId} {ad : Nat → Nat} {sz : Nat} {σ : Sg} {i w : Int32} {A : Nat → Prop} {s1 s2 : Nat} : FrameBlind (xo_pre D cI cZ cR ad sz σ i w A s1 s2) := by
  intro a U g mk h
  obtain ⟨h1, h2, ⟨h3, h4, h5, h6⟩, h7⟩ := h
  exact ⟨h1, h2, ⟨fun w hw => kp_nw_same (s := U) (U := U.calling g mk a) hw rfl (h3 w hw), h4, va_K.moved (u := U) (U := U.calling g mk a) (Vm.Alike.refl U.vm) h5, h6⟩, kx_Z.warm (s := U) (U := U.calling g mk a) (State.WarmedH.refl U) h7⟩
theorem lo_blind {D : va_G} {cI cZ cR cJ : ClassId} {ad : Nat → Nat} {sz : Nat} {σ : Sg} {i w : Int32} {A : Nat → Prop} {s1 s2 ao : Nat} {g : Nat → Int64} : FrameBlind (lo_pre D cI cZ cR cJ ad sz σ i w A s1 s2 ao g) := by
  intro a U g mk h
  obtain ⟨h1, h2, ⟨h3, h4, h5, h6⟩, h7, h8, h9⟩ := h
  exact ⟨h1, h2, ⟨fun w hw => kp_nw_same (s := U) (U := U.calling g mk a) hw rfl (h3 w hw), h4, va_K.moved (u := U) (U := U.calling g mk a) (Vm.Alike.refl U.vm) h5, h6⟩, kx_Z.warm (s := U) (U := U.calling g mk a) (State.WarmedH.refl U) h7, h8, va_K.moved (u := U) (U := U.calling g mk a) (Vm.Alike.refl U.vm) h9⟩
set_option maxHeartbeats 1000000 in
theorem c_L_out {l : Launch} (hl : l.stackTraces = false) (D : va_G) (cI cZ cR cJ : ClassId) (ad : Nat → Nat) (sz : Nat) (σ : Sg) (i w : Int32) (A : Nat → Prop) (s1 s2 ao : Nat) (g : Nat → Int64) :
    vx_Met l yL_out lo_ws lo_rm (lo_pre D cI cZ cR cJ ad sz σ i w A s1 s2 ao g) (lo_Q D cJ sz σ i w ao) lo_X 1 6 (fun q => q = ao ∨ sz ≤ q) := by
  refine vx_ofWH (cc := cL_out) (maxL := 5) (ret := some .int) (hh := lo_h) (by decide) rfl ?_
  intro p e s m args below meth c s₁ B hml hv
  obtain ⟨rfl, hsz, ⟨hnw, hP, hK, hD0⟩, hZ, hL, hKJ⟩ := hv
  have hx := B.exec
  have hb := B.bytes
  have hr := B.returns
  have hts0 := atoms_spec (ws := lo_ws) B.pre
  have hts : ∀ w ∈ kp_tb, w.before _ s = true := fun w hw => hts0 w (List.mem_cons_of_mem _ hw)
  have htab := vx_table (x := yL_out) B (hts0 _ List.mem_cons_self)
  have hown : s.vm.findClass RL = some m.cls := findClass_of_methodNamed B.named
  have hlocks := B.notSynchronized
  subst hsz
  have hh := lv_entry [.ref (ad 0), .int i, .int w, .ref ao] (n := 5) (show 4 ≤ 5 by decide)
  rw [lg_entry_eq]
  generalize ((lg_sl [.ref (ad 0), .int i, .int w, .ref ao] ++ List.replicate (5 - (lg_sl [.ref (ad 0), .int i, .int w, .ref ao]).length) Slot.unset).toArray) = la at hh ⊢
  have l0 : la[0]? = some (.val (.ref (ad 0))) := hh.2.2 (0, .ref (ad 0)) (by simp [lv_args])
  have l1 : la[1]? = some (.val (.int i)) := hh.2.2 (1, .int i) (by simp [lv_args, Value.category])
  have l2 : la[2]? = some (.val (.int w)) := hh.2.2 (2, .int w) (by simp [lv_args, Value.category])
  have l3 : la[3]? = some (.val (.ref ao)) := hh.2.2 (3, .ref ao) (by simp [lv_args, Value.category])
  have hao : ao < s.heap.size := vx_lt hL (k := 0) rfl
  have rt : ∀ (r : Int32) (u : Nat → Int64) (pc : Nat) (H1 : Heap) (locs1 : List Loc) (lb : Array Slot), lo_post σ i w r u → va_P D vwCl (lo_w ao cJ u) H1 → va_S (fun q => q = ao ∨ s.heap.size ≤ q) s.heap H1 locs1 → decode cL_out pc = .ok (.ireturn, 1) → W p l e lo_rm s m #[.ref (ad 0), .int i, .int w, .ref ao] below meth c H1 locs1 1 6 (vx_MQ below (lo_Q D cJ s.heap.size σ i w ao) lo_X #[.ref (ad 0), .int i, .int w, .ref ao] s 1 6 (fun q => q = ao ∨ s.heap.size ≤ q)) (F0 m pc lb [.int r]) := fun r u pc H1 locs1 lb h1 h2 h3 hd =>
    vx_ret (W.iret hx hb hr (fun t ht hW => ⟨⟨r, u, rfl, h1, by show va_P D vwCl (lo_w ao cJ u) t.heap; rw [ht]; exact h2⟩, h3.F ht⟩) h3.2.2 hd)
  refine lv_aload_n hx hb dL_out_0 rfl l3 ?_
  refine lv_iconst (v := nI 0) hx hb dL_out_1 rfl ?_
  refine lv_aload_n hx hb dL_out_2 rfl l0 ?_
  refine lv_iload_n hx hb dL_out_3 rfl l1 ?_
  refine lv_iload_n hx hb dL_out_4 rfl l2 ?_
  obtain ⟨⟨hy1, hy2, hy3⟩, hcode, hini, hlk⟩ := lk_L_7
  obtain ⟨-, hl1, hl2, hl3, hl4⟩ | ⟨q, -⟩ | ⟨q, -⟩ := hlk
  case inr.inl => cases q
  case inr.inr => cases q
  have hrecv := va_recv hK hP (ci := 8) rfl (kp_w_at (ad := ad) (cI := cI) (cZ := cZ) (cR := cR) (σ := σ) (lay := layC) (a := 0) rfl)
  have cw : CallW lo_rm s #[.ref (ad 0), .int i, .int w, .ref ao] RL RX9 7 yX9_out cX9_out 3 (some .int) (kp_ws yX9_out cX9_out 3 (some .int)) xo_rm 1 6 2 :=
    ⟨callB_of 2 hts (kp_GI (fun _ q => q) (kp_ws_in hcode)) rfl rfl rfl (hts _ hini) (hts _ hl1) ⟨hy1, hy2, hy3⟩ ⟨by decide, by decide⟩, hts _ hl2, hts _ hl3⟩
  refine vx_calli (rest := [.int (nI 0), .ref ao]) (A0 := fun q => q = ao ∨ s.heap.size ≤ q) (H0 := s.heap) (vx_runV (As := [.int i, .int w]) (b := ad 0) (rest := [.int (nI 0), .ref ao]) ⟨hx, hb, hml, hown, hts⟩ (c_X9_out hl D cI cZ cR ad s.heap.size σ i w A s1 s2) cw ⟨xo_blind, hrecv, fun U hU hW => ⟨rfl, by rw [hU], ⟨fun w hw => kp_nw_warm hw hW (hnw w hw), by rw [hU]; exact hP, va_K.moved hW.alike hK, hD0⟩, by rw [hU]; exact hZ.warm hW⟩⟩ rfl rfl hh.1 rfl (lv_room (show 2 ≤ 8 by decide)) dL_out_5 ⟨by decide, by decide⟩) va_S.rf (fun q _ h => Or.inr h) (fun q h => Or.inr h) (fun q _ h => Or.inr h) ?_ ?_
  · intro E ce q9 u t H1 locs1 ht hal hno hE hz hk hS hce hcv hcl
    subst hE
    refine vx_catch (own := RL) (name := neN) hown [] ⟨0, 10, 13, 13⟩ [] (by rw [htab]; rfl) (fun z hz => nomatch hz) (by decide) (by decide) (hts _ lo_in.2) (nx_use hZ.1 (.castable neN neN) (by simp [nx_l])) hce hcv hcl ?_
    refine lv_astore hx hb dL_out_13 hh (by decide) rfl (fun lb hlb => ?_)
    refine lv_iconst (v := nI 1) hx hb dL_out_15 rfl ?_
    refine rt (nI 1) g 16 H1 locs1 lb ⟨fun z => absurd z hno, fun _ => rfl⟩ (hL.kept (fun k q hk' => ?_)) hS dL_out_16
    exact hk q.1 (vx_lt hL hk') (Nat.not_le.mpr (vx_lt hL hk'))
  · intro r u t H1 locs1 ht hal ⟨hok, hr1⟩ hB hz hk hS
    have hL1 : va_P D vwCl (lo_w ao cJ g) H1 := hL.kept (fun k q hk' => hk q.1 (vx_lt hL hk') (Nat.not_le.mpr (vx_lt hL hk')))
    refine lv_i2l hx hb dL_out_8 rfl ?_
    refine va_last (A := fun q => q = ao ∨ s.heap.size ≤ q) (H0 := s.heap) (ws := lo_w ao cJ g) (D := D) (cl := vwCl) hx hb hKJ hL1 ⟨fun a b p q ha hb _ => ?_, fun k q hk' => ?_⟩ hS 0 0 rfl rfl (i := nI 0) ((kp_in (by decide)).mpr (by decide)) dL_out_9 (fun H2 locs2 hP2 hD2 hS2 => ?_)
    · have h1 := (List.getElem?_eq_some_iff.mp ha).1
      have h2 := (List.getElem?_eq_some_iff.mp hb).1
      simp only [List.length_cons, List.length_nil] at h1 h2
      omega
    · have h1 := (List.getElem?_eq_some_iff.mp hk').1
      simp only [List.length_cons, List.length_nil] at h1
      have : k = 0 := by omega
      subst this
      cases hk'
      exact Or.inl rfl
    · refine lv_goto (tgt := 17) hx hb dL_out_10 rfl ?_
      refine lv_iconst (v := nI 0) hx hb dL_out_17 rfl ?_
      refine rt (nI 0) _ 18 H2 locs2 la ⟨fun _ => ⟨rfl, ?_⟩, fun z => absurd hok z⟩ hP2 hS2 dL_out_18
      rw [← hr1]
      rfl
