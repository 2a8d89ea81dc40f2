/-! each instruction of the pure machine, over the machine itself -/
def kp_Cx (p : Program) (s : State) (m : MethodId) (args : Array Value) (meth : Method) (c : Code) (cc : ByteArray) (own : String) (nL : Nat) (ret : Option FieldType) (D : va_G) (cI cZ cR : ClassId) : Prop :=
  p.tables.exec = Jvm.exec ∧ c.code = cc ∧ c.maxLocals = nL ∧ s.vm.findClass own = some m.cls ∧ (∀ w ∈ kp_tb, w.before args s = true) ∧ (∀ w ∈ kp_nw, va_Nw w s) ∧ meth.sig.returnType = ret ∧ meth.locks = false ∧ va_K D vwCl (kp_ty cI cZ cR) s
def kp_V (p : Program) (l : Launch) (e : Env) (R : Room) (s : State) (m : MethodId) (args : Array Value) (below : List Frame) (meth : Method) (c : Code) (D : va_G) (cI cZ cR : ClassId) (lay : List Ds) (ad : Nat → Nat) (A : Nat → Prop) (Qs : State → Prop) (nL : Nat) (pc : Nat) (ls : Lcl) (st : List Value) (σ : Sg) : Prop :=
  ls.length = nL → ∀ (H : Heap) (locs : List Loc) (la : Array Slot), va_P D vwCl (kp_w ad cI cZ cR lay σ) H → va_S A s.heap H locs → kp_lh ad la ls → W p l e R s m args below meth c H locs 0 0 Qs (F0 m pc la (st.map (kp_re ad)))
section KPS
variable {p : Program} {l : Launch} {e : Env} {R : Room} {s : State} {m : MethodId} {args : Array Value} {below : List Frame} {meth : Method} {c : Code} {cc : ByteArray} {own : String} {nL : Nat} {ret : Option FieldType} {D : va_G} {cI cZ cR : ClassId} {lay : List Ds} {ad : Nat → Nat} {A : Nat → Prop} {Qs : State → Prop}
variable {pc : Nat} {is : List Ent} {ls : Lcl} {st : List Value} {σ : Sg}
theorem kp_v_get {idx : Nat} (C : kp_Cx p s m args meth c cc own nL ret D cI cZ cR) {ci kk : Nat} {b : Bool} (hg : kp_okG own (idx, ci, kk, b)) {a : Nat} {fs : List (Option Nat)} (ha : lay[a]? = some (.inl (ci, fs))) {o : Option Nat} (ho : fs[kk]? = some o) (hd : decode cc pc = .ok (.getfield idx, 3)) {rest : List Value} {H : Heap} {locs : List Loc} {la : Array Slot} (hP : va_P D vwCl (kp_w ad cI cZ cR lay σ) H)
    (kk' : W p l e R s m args below meth c H locs 0 0 Qs (F0 m (pc + 3) la (kp_fv ad σ a kk o :: rest))) : W p l e R s m args below meth c H locs 0 0 Qs (F0 m pc la (.ref (ad a) :: rest)) := by
  obtain ⟨hx, hb, hml, hown, hts, hnw, hr, hlk, hK⟩ := C
  obtain ⟨Cn, T, N, h1, h2, h3⟩ := hg
  dsimp only at h1 h2 h3
  have hv : (fs.mapIdx (kp_fv ad σ a))[kk]? = some (kp_fv ad σ a kk o) := by simp [List.getElem?_mapIdx, ho]
  rcases h3 with h3 | ⟨host, h3⟩
  · exact va_get hx hb hts (kp_cl h1).1 hown hK hP a (kp_w_at ha) h1 kk h2 (hts _ h3) (fun _ q => q) hv hd kk'
  · exact va_getN hx hb hts (kp_cl h1).1 hown hK hP a (kp_w_at ha) h1 kk h2 (kp_nw_use h3 (hnw _ h3)) (fun _ q => q) hv hd kk'
theorem kp_fv_set {fs : List (Option Nat)} {kk : Nat} {a : Nat} {x : Int32} (h : fs[kk]? = some none) : (fs.mapIdx (kp_fv ad σ a)).set kk (.int x) = fs.mapIdx (kp_fv ad (kp_up σ a kk x) a) := by
  apply List.ext_getElem?
  intro i
  by_cases hi : i = kk
  · subst hi
    rw [List.getElem?_set_self (by have := (List.getElem?_eq_some_iff.mp h).1; simpa using this)]
    simp [List.getElem?_mapIdx, h, kp_fv, kp_up_eq, upd]
  · rw [List.getElem?_set_ne (Ne.symm hi)]
    simp only [List.getElem?_mapIdx]
    cases ho : fs[i]? with
    | none => rfl
    | some o => cases o <;> simp [kp_fv, kp_up_eq, upd, hi]
theorem kp_v_put {idx : Nat} (C : kp_Cx p s m args meth c cc own nL ret D cI cZ cR) {ci kk : Nat} {b : Bool} (hg : kp_okP own (idx, ci, kk, b)) {a : Nat} {fs : List (Option Nat)} (ha : lay[a]? = some (.inl (ci, fs))) (ho : fs[kk]? = some none) {x : Int32} (hxb : b = true → x = nI 0 ∨ x = nI 1) (hd : decode cc pc = .ok (.putfield idx, 3)) {rest : List Value} {H : Heap} {locs : List Loc} {la : Array Slot} (hP : va_P D vwCl (kp_w ad cI cZ cR lay σ) H) (hD : va_D A (kp_w ad cI cZ cR lay σ)) (hS : va_S A s.heap H locs)
    (kk' : ∀ (H1 : Heap) (locs1 : List Loc), va_P D vwCl (kp_w ad cI cZ cR lay (kp_up σ a kk x)) H1 → va_S A s.heap H1 locs1 → W p l e R s m args below meth c H1 locs1 0 0 Qs (F0 m (pc + 3) la rest)) : W p l e R s m args below meth c H locs 0 0 Qs (F0 m pc la (.int x :: .ref (ad a) :: rest)) := by
  obtain ⟨hx, hb, hml, hown, hts, hnw, hr, hlk, hK⟩ := C
  obtain ⟨Cn, T, N, h1, h2, h3, h4, h5⟩ := hg
  dsimp only at h1 h2 h3 h4 h5
  obtain ⟨hin, ty0, hty, hnm⟩ := kp_cl h1
  have hset : (kp_w ad cI cZ cR lay σ).set a (ad a, .inr (ci, (fs.mapIdx (kp_fv ad σ a)).set kk (.int x))) = kp_w ad cI cZ cR lay (kp_up σ a kk x) :=
    kp_w_set ha (by rw [kp_fv_set ho]; rfl) (fun i hi => kp_up_ne hi)
  have hfit : narrow (if b = true then FieldType.boolean else .int) (.int x) = .int x ∧ fits (if b = true then FieldType.boolean else .int) (.int x) = true := by
    cases b with
    | false => exact ⟨rfl, rfl⟩
    | true => exact ⟨(kp_bool_nar (hxb rfl)).1, (kp_bool_nar (hxb rfl)).2.1⟩
  have hl : kk < (fs.mapIdx (kp_fv ad σ a)).length := by have := (List.getElem?_eq_some_iff.mp ho).1; simpa using this
  rcases h3 with h3 | ⟨host, h3⟩
  · refine va_put hx hb hts hin ty0 hty hnm hown hK hP hD hS a (kp_w_at ha) h1 kk h2 (hts _ h3) (fun _ q => q) h4 h5 hfit.1 hfit.2 hl hd (fun H1 locs1 hP1 hD1 hS1 => ?_)
    rw [hset] at hP1
    exact kk' H1 locs1 hP1 hS1
  · refine va_putN hx hb hts hin ty0 hty hnm hown hK hP hD hS a (kp_w_at ha) h1 kk h2 (kp_nw_use h3 (hnw _ h3)) (fun _ q => q) h4 h5 hfit.1 hfit.2 hl hd (fun H1 locs1 hP1 hD1 hS1 => ?_)
    rw [hset] at hP1
    exact kk' H1 locs1 hP1 hS1
theorem kp_v_aald (C : kp_Cx p s m args meth c cc own nL ret D cI cZ cR) {a n : Nat} {rs : List Nat} (ha : lay[a]? = some (.inr (2, n, rs))) {j : Int32} (hin : vp_in j n) {q : Nat} (hq : rs[j.toNatClampNeg]? = some q) (hd : decode cc pc = .ok (.aaload, 1)) {rest : List Value} {H : Heap} {locs : List Loc} {la : Array Slot} (hP : va_P D vwCl (kp_w ad cI cZ cR lay σ) H)
    (kk' : W p l e R s m args below meth c H locs 0 0 Qs (F0 m (pc + 1) la (.ref (ad q) :: rest))) : W p l e R s m args below meth c H locs 0 0 Qs (F0 m pc la (.int j :: .ref (ad a) :: rest)) := by
  obtain ⟨hx, hb, hml, hown, hts, hnw, hr, hlk, hK⟩ := C
  have hlt : j.toNatClampNeg < n := Nat.not_le.mp fun z => hin (Or.inr z)
  have hat : va_at D vwCl (ad a, .inl (cR, n, .inr (.inr (.inr (.inr fun j => (rs[j]?).map ad))))) H := hP a _ (kp_w_at ha)
  exact W.aald (v := .ref (ad q)) (ty := .array .int) hx hb hat ((hK.2 2 _ rfl).1 n (fun j => va_rf ((rs[j]?).map ad))) rfl (fun z => by cases z) (by show ¬ (j < 0 ∨ (arrV _ _ _).slots.size ≤ _); rw [arrV_size]; exact hin) (by show (arrV _ _ _).slots[_]? = _; rw [arrV_read _ _ hlt]; dsimp only; rw [hq]; rfl) rfl rfl hd kk'
theorem kp_callW {ret' : Option FieldType} {H : Heap} {locs : List Loc} {la : Array Slot} {st0 rest : List Value} {P : Int32 → Sg → Prop} {A1 free : Nat → Prop} (hr : va_Run p l e R s m args below meth c H locs 0 0 0 0 (F0 m pc la st0) rest (fun st oc t => (∃ (r : Int32) (τ : Sg), oc = .returned (kp_rv ret' r) ∧ P r τ ∧ va_P D vwCl (kp_w ad cI cZ cR lay τ) t.heap) ∧ va_F A1 st t) free) (hS : va_S A s.heap H locs) (hA : ∀ q, q < H.size → A1 q → A q) (hf : ∀ q, free q → A q)
    (kk : ∀ (r : Int32) (τ : Sg) (H1 : Heap) (locs1 : List Loc), P r τ → va_P D vwCl (kp_w ad cI cZ cR lay τ) H1 → va_S A s.heap H1 locs1 → W p l e R s m args below meth c H1 locs1 0 0 Qs (F0 m (pc + 3) la ((kp_rv ret' r).toList ++ rest))) : W p l e R s m args below meth c H locs 0 0 Qs (F0 m pc la st0) := by
  intro T hT X
  obtain ⟨v, st₀, t, T', L, h0, X', hL, e1, e2, ⟨⟨r, τ, hv, hp, hb⟩, hz, hk⟩, st⟩ := hr T hT X
  cases hv
  rw [h0] at hz hk
  obtain ⟨t2, a1, b1⟩ := kk r τ T'.heap (locs ++ L) hp (by rw [e1]; exact hb)
    ⟨Nat.le_trans hS.1 (by rw [e1]; exact hz), fun q h1 h2 => by rw [e1, hk q (Nat.lt_of_lt_of_le h1 hS.1) (fun z => h2 (hA q (Nat.lt_of_lt_of_le h1 hS.1) z))]; exact hS.2.1 q h1 h2, fun q hq => by
      rcases List.mem_append.mp hq with h | h
      · exact hS.2.2 q h
      · exact hf _ (hL q h)⟩ T' rfl X'
  exact ⟨t2, st t2 a1, b1⟩
theorem kp_blind {sz : Nat} {Bs : List Value} : FrameBlind (va_Pc Bs (fun U => U.heap.size = sz ∧ kp_B D cI cZ cR ad lay σ U)) := by
  intro a U g mk h
  obtain ⟨h1, h2, h3, h4, h5, h6⟩ := h
  exact ⟨h1, h2, fun w hw => kp_nw_same (s := U) (U := U.calling g mk a) hw rfl (h3 w hw), h4, va_K.moved (u := U) (U := U.calling g mk a) (Vm.Alike.refl U.vm) h5, h6⟩
/-- a call, by the callee's contract -/
theorem kp_v_call {ms : List Me} {h : Nat} (C : kp_Cx p s m args meth c cc own nL ret D cI cZ cR) (hR : R = kp_rm h) (hms : ∀ q ∈ ms, kp_okM lay own h q) {idx : Nat} {virt : Bool} {k : List Value → Sg → Prop} (hc : kp_call lay ms idx virt st σ k) (hd : decode cc pc = .ok (if virt = true then .invokevirtual idx else .invokestatic idx, 3)) {H : Heap} {locs : List Loc} {la : Array Slot} (hla : la.size = nL) (hP : va_P D vwCl (kp_w ad cI cZ cR lay σ) H) (hD : va_D A (kp_w ad cI cZ cR lay σ)) (hA : ∀ q, s.heap.size ≤ q → A q) (hS : va_S A s.heap H locs)
    (kk : ∀ (st' : List Value) (τ : Sg) (H1 : Heap) (locs1 : List Loc), k st' τ → va_P D vwCl (kp_w ad cI cZ cR lay τ) H1 → va_S A s.heap H1 locs1 → W p l e R s m args below meth c H1 locs1 0 0 Qs (F0 m (pc + 3) la (st'.map (kp_re ad)))) : W p l e R s m args below meth c H locs 0 0 Qs (F0 m pc la (st.map (kp_re ad))) := by
  obtain ⟨hx, hb, hml, hown, hts, hnw, hr, hlk, hK⟩ := C
  subst hR
  unfold kp_call at hc
  split at hc
  · exact hc.elim
  · rename_i kind ci n ri pre post hf
    rcases hms _ (kp_fnd_mem ms idx _ hf) with ⟨h', y, cc', mL, ret', hM, hh, hmL, hri, ⟨hy1, hy2, hy3⟩, hcode, hini, hl⟩ | hX
    case inr =>
      obtain ⟨h1, hk1, hn2, hri, hini, hX⟩ := hX
      dsimp only at hk1 hn2 hri hX
      subst hk1; subst hn2; subst hri
      split at hc
      · exact hc.elim
      · rename_i As r htk
        obtain ⟨B, hBl, hAs, hst⟩ := kp_tk_spec 2 st [] As r htk
        rw [List.append_nil] at hAs
        cases virt with
        | true =>
          dsimp only at hc
          exact absurd (kp_ite_spec hc).1 (by decide)
        | false =>
          dsimp only at hc
          rw [if_neg (by decide)] at hc
          obtain ⟨hlen, hpre, hc4⟩ := kp_ite_spec hc
          have hcat := kp_catsum (r.map (kp_re ad))
          rw [List.length_map] at hcat
          rcases hX with ⟨w1, w2, w3, w4⟩ | ⟨w1, w2, w3, w4⟩
          · obtain ⟨x, y, e, hpo⟩ := w4 As σ hpre
            have hB : B = [.int y, .int x] := by rw [← List.reverse_inj, ← hAs, e]; rfl
            rw [hst, hB]
            exact va_mmax (rest := r.map (kp_re ad)) hx hb (hml.trans hla.symm) hown (hts _ w1) (hts _ w2) (hts _ hini) (hts _ w3) h1 (by show _ + 13 ≤ 40 * h; omega) (Nat.le_refl _) (Nat.le_refl _) hd (kk (.int (if x < y then y else x) :: r) σ H locs (hc4 _ σ hpo) hP hS)
          · obtain ⟨x, y, e, hpo⟩ := w4 As σ hpre
            have hB : B = [.int y, .int x] := by rw [← List.reverse_inj, ← hAs, e]; rfl
            rw [hst, hB]
            exact va_mmin (rest := r.map (kp_re ad)) hx hb (hml.trans hla.symm) hown (hts _ w1) (hts _ w2) (hts _ hini) (hts _ w3) h1 (by show _ + 13 ≤ 40 * h; omega) (Nat.le_refl _) (Nat.le_refl _) hd (kk (.int (if y < x then y else x) :: r) σ H locs (hc4 _ σ hpo) hP hS)
    dsimp only at hM hri hl hy3
    split at hc
    · exact hc.elim
    · rename_i As r htk
      obtain ⟨B, hBl, hAs, hst⟩ := kp_tk_spec n st [] As r htk
      rw [List.append_nil] at hAs
      have hAl : (As.map (kp_re ad)).length = n := by rw [List.length_map, hAs, List.length_reverse]; exact hBl
      have hfree : ∀ q, va_A (kp_w ad cI cZ cR lay σ) H.size q → A q := by
        intro q hq
        rcases hq with ⟨k1, e1, h1⟩ | h1
        · exact hD.2 k1 (q, e1) h1
        · exact hA q (Nat.le_trans hS.1 h1)
      have hroom : (kp_rm h').frames + 1 ≤ (kp_rm h).frames ∧ 8 + (mL + 11) + (kp_rm h').locals ≤ (kp_rm h).locals := ⟨hh, by show 8 + (mL + 11) + 40 * h' ≤ 40 * h; omega⟩
      have hGI : GoodIn kp_tb (kp_ws y cc' mL ret') := kp_GI (fun _ q => q) (kp_ws_in hcode)
      have hbody : ∀ U : State, U.heap = H → s.WarmedH U.vm → U.heap.size = H.size ∧ kp_B D cI cZ cR ad lay σ U := fun U hU hW => ⟨by rw [hU], fun w hw => kp_nw_warm hw hW (hnw w hw), by rw [hU]; exact hP, va_K.moved hW.alike hK, hD.weaken (fun _ _ _ _ => trivial)⟩
      cases virt with
      | true =>
        dsimp only at hc
        obtain ⟨hk0, hc1⟩ := kp_ite_spec hc
        obtain ⟨a, r', hr', hc2⟩ := kp_pR_spec hc1
        obtain ⟨fs, hobj, hc3⟩ := kp_obj_spec hc2
        obtain ⟨hlen, hpre, hc4⟩ := kp_ite_spec hc3
        clear hc hc1 hc2 hc3
        subst hk0
        obtain ⟨-, hl1, hl2, hl3, hl4⟩ | ⟨q, -⟩ | ⟨q, -⟩ := hl
        · cases hci : vwCl[ci]? with
          | none => rw [hci] at hl4; cases hl4
          | some cq =>
            rw [hci] at hl4
            have hcy : cq.1 = y.cls := Option.some.inj hl4
            have hrecv := va_recv hK hP hci (kp_w_at hobj)
            rw [hcy] at hrecv
            have cw : CallW (kp_rm h) s args own y.cls idx y cc' mL ret' (kp_ws y cc' mL ret') (kp_rm h') 0 0 n :=
              ⟨callB_of n hts hGI rfl rfl rfl (hts _ hini) (hts _ hl1) ⟨hy1, hy2, hy3⟩ hroom, hts _ hl2, hts _ hl3⟩
            refine kp_callW (va_runV (As := As.map (kp_re ad)) (b := ad a) (rest := r'.map (kp_re ad)) ⟨hx, hb, hml, hown, hts⟩ (hM l D cI cZ cR ad H.size (.ref a :: As) σ hpre) cw ⟨kp_blind, hrecv, fun U hU hW => ⟨rfl, hbody U hU hW⟩⟩ rfl hAl hla ?_ (lv_room ?_) hd ⟨Nat.le_refl _, Nat.le_refl _⟩) hS (fun q _ h => hfree q h) hfree (fun x τ H1 locs1 hp hP1 hS1 => ?_)
            · show st.map (kp_re ad) = (As.map (kp_re ad)).reverse ++ _
              rw [hst, hr', hAs]
              simp [kp_re]
            · have := kp_catsum (r'.map (kp_re ad))
              rw [List.length_map] at this
              omega
            · cases ret' with
              | none =>
                cases ri with
                | true => cases hri
                | false =>
                  obtain ⟨hz, hp⟩ := hp
                  rw [hz rfl] at hp
                  exact kk r' τ H1 locs1 (hc4 τ hp) hP1 hS1
              | some ty =>
                cases ri with
                | false => cases hri
                | true => exact kk (.int x :: r') τ H1 locs1 (hc4 x τ hp.2) hP1 hS1
        · cases q
        · cases q
      | false =>
        dsimp only at hc
        have hc1 : ¬ kind = 0 := fun z => by rw [if_pos z] at hc; exact hc
        rw [if_neg hc1] at hc
        obtain ⟨hlen, hpre, hc4⟩ := kp_ite_spec hc
        clear hc
        have hrun : va_Run p l e (kp_rm h) s m args below meth c H locs 0 0 0 0 (F0 m pc la (st.map (kp_re ad))) (r.map (kp_re ad)) (kp_Q lay ret' post D cI cZ cR ad H.size As σ (As.map (kp_re ad)).toArray) (va_A (kp_w ad cI cZ cR lay σ) H.size) := by
          have hstk : (F0 m pc la (st.map (kp_re ad))).stack = (As.map (kp_re ad)).reverse ++ r.map (kp_re ad) := by
            show st.map (kp_re ad) = (As.map (kp_re ad)).reverse ++ _
            rw [hst, hAs]
            simp
          have hcat : ((r.map (kp_re ad)).map fun v => v.category).sum ≤ 8 := by
            have := kp_catsum (r.map (kp_re ad))
            rw [List.length_map] at this
            omega
          obtain ⟨q, -⟩ | ⟨-, hl1, hl2⟩ | ⟨-, ⟨host, hl1⟩, hl2⟩ := hl
          · exact absurd q hc1
          · exact va_runS (As := As.map (kp_re ad)) (rest := r.map (kp_re ad)) (maxL := mL) (ret := ret') (rm := kp_rm h') ⟨hx, hb, hml, hown, hts⟩ (hM l D cI cZ cR ad H.size As σ hpre) ⟨callB_of n hts hGI rfl rfl rfl (hts _ hini) (hts _ hl1) ⟨hy1, hy2, hy3⟩ hroom, hts _ hl2⟩ ⟨kp_blind, fun U hU hW => ⟨rfl, hbody U hU hW⟩⟩ rfl hAl hla hstk (lv_room hcat) hd ⟨Nat.le_refl _, Nat.le_refl _⟩
          · exact va_runSN (As := As.map (kp_re ad)) (rest := r.map (kp_re ad)) (maxL := mL) (ret := ret') (rm := kp_rm h') ⟨hx, hb, hml, hown, hts⟩ (hM l D cI cZ cR ad H.size As σ hpre) ⟨va_cnB n hts hGI rfl rfl rfl (hnw _ hl1) (hts _ hini) ⟨hy1, hy2, hy3⟩ hroom, hts _ hl2, trivial⟩ ⟨kp_blind, fun U hU hW => ⟨rfl, hbody U hU hW⟩⟩ rfl hAl hla hstk (lv_room hcat) hd ⟨Nat.le_refl _, Nat.le_refl _⟩
        refine kp_callW hrun hS (fun q _ h => hfree q h) hfree (fun x τ H1 locs1 hp hP1 hS1 => ?_)
        cases ret' with
        | none =>
          cases ri with
          | true => cases hri
          | false =>
            obtain ⟨hz, hp⟩ := hp
            rw [hz rfl] at hp
            exact kk r τ H1 locs1 (hc4 τ hp) hP1 hS1
        | some ty =>
          cases ri with
          | false => cases hri
          | true => exact kk (.int x :: r) τ H1 locs1 (hc4 x τ hp.2) hP1 hS1
end KPS
