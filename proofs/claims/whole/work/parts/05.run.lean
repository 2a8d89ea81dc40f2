/-! one instruction, a stretch, a loop, a method: out of the pure machine -/
section KPR
variable {p : Program} {l : Launch} {e : Env} {R : Room} {s : State} {m : MethodId} {args : Array Value} {below : List Frame} {meth : Method} {c : Code} {cc : ByteArray} {own : String} {nL : Nat} {ret : Option FieldType} {D : va_G} {cI cZ cR : ClassId} {lay : List Ds} {ad : Nat → Nat} {A : Nat → Prop}
variable {is : List Ent} {ls : Lcl} {st : List Value} {σ : Sg} {gl pl : List Fe} {ms : List Me} {tab : List Ent} {h : Nat} {Q : Int32 → Sg → Prop} {Qc : Array Value → State → Outcome → State → Prop} {k : List Ent → Lcl → List Value → Sg → Prop}
theorem kp_i0 : (nI 0 : Int32) = 0 := rfl
theorem kp_and2 {a b : Bool} (h : (a && b) = true) : a = true ∧ b = true := by rw [Bool.and_eq_true] at h; exact h
set_option maxHeartbeats 4000000 in
theorem kp_S_sound (C : kp_Cx p s m args meth c cc own nL ret D cI cZ cR) (hR : R = kp_rm h) (hms : ∀ q ∈ ms, kp_okM lay own h q) (hgl : ∀ q ∈ gl, kp_okG own q) (hpl : ∀ q ∈ pl, kp_okP own q)
    (hD : ∀ τ, va_D A (kp_w ad cI cZ cR lay τ)) (hA : ∀ q, s.heap.size ≤ q → A q)
    (hQ : ∀ (r : Int32) (τ : Sg) (H : Heap) (locs : List Loc) (t : State), Q r τ → (ret = none → r = nI 0) → va_P D vwCl (kp_w ad cI cZ cR lay τ) H → va_S A s.heap H locs → t.heap = H → Qc args s (.returned (kp_rv ret r)) t)
    {pc : Nat} {i : Instr} {len : Nat} {cut : Bool} {v : Int32} (he : decode cc pc = .ok (i, len)) (hok : kp_okb own (pc, i, len, cut, v) = true)
    (hnext : ∀ ls st σ, k is ls st σ → kp_V p l e R s m args below meth c D cI cZ cR lay ad A (MQ below Qc args s 0 0 A) nL (pc + len) ls st σ)
    (hjmp : ∀ t ls st σ, k (kp_jmp tab t) ls st σ → kp_V p l e R s m args below meth c D cI cZ cR lay ad A (MQ below Qc args s 0 0 A) nL t ls st σ)
    (hs : kp_S lay gl pl ms tab (kp_rk ret) Q k pc i v is ls st σ) : kp_V p l e R s m args below meth c D cI cZ cR lay ad A (MQ below Qc args s 0 0 A) nL pc ls st σ := by
  intro hln H locs la hP hS hlh
  obtain ⟨hx, hb, hml, hown, hts, hnw, hr, hlk, hK⟩ := id C
  cases i with
  | aload_n n =>
    have hlen : len = 1 := of_decide_eq_true hok
    subst hlen
    obtain ⟨x, h1, h2⟩ := kp_R_spec hs
    exact lv_aload_n hx hb he rfl (hlh.2.2 n.val _ h1).1 (hnext _ _ _ h2 hln H locs la hP hS hlh)
  | aload n =>
    have hlen : len = 2 := of_decide_eq_true hok
    subst hlen
    obtain ⟨x, h1, h2⟩ := kp_R_spec hs
    exact lv_aload hx hb he (hlh.2.2 n _ h1).1 (hnext _ _ _ h2 hln H locs la hP hS hlh)
  | iload_n n =>
    have hlen : len = 1 := of_decide_eq_true hok
    subst hlen
    obtain ⟨x, h1, h2⟩ := kp_I_spec hs
    exact lv_iload_n hx hb he rfl (hlh.2.2 n.val _ h1).1 (hnext _ _ _ h2 hln H locs la hP hS hlh)
  | iload n =>
    have hlen : len = 2 := of_decide_eq_true hok
    subst hlen
    obtain ⟨x, h1, h2⟩ := kp_I_spec hs
    exact lv_iload hx hb he (hlh.2.2 n _ h1).1 (hnext _ _ _ h2 hln H locs la hP hS hlh)
  | istore_n n =>
    have hlen : len = 1 := of_decide_eq_true hok
    subst hlen
    obtain ⟨x, r, h1, h2⟩ := kp_pI_spec hs
    obtain ⟨hn, h3⟩ := kp_ite_spec h2
    subst h1
    exact lv_istore_n hx hb he rfl (kp_lh_has hlh) hn rfl (fun la' hl' => hnext _ _ _ h3 (by rw [List.length_set]; exact hln) H locs la' hP hS (kp_lh_set hlh hn rfl hl'))
  | istore n =>
    have hlen : len = 2 := of_decide_eq_true hok
    subst hlen
    obtain ⟨x, r, h1, h2⟩ := kp_pI_spec hs
    obtain ⟨hn, h3⟩ := kp_ite_spec h2
    subst h1
    exact lv_istore hx hb he (kp_lh_has hlh) hn rfl (fun la' hl' => hnext _ _ _ h3 (by rw [List.length_set]; exact hln) H locs la' hP hS (kp_lh_set hlh hn rfl hl'))
  | iinc n d =>
    obtain ⟨hv0, hlen⟩ := kp_and2 hok
    have hlen : len = 3 := of_decide_eq_true hlen
    have hv1 : Int32.ofInt d = v := of_decide_eq_true hv0
    subst hlen
    obtain ⟨x, h1, h2⟩ := kp_I_spec hs
    have hn : n < ls.length := (List.getElem?_eq_some_iff.mp h1).1
    obtain ⟨q, hq⟩ := List.getElem?_of_mem ((kp_ll_mem (ad := ad) ls 0 n (.int x)).mpr ⟨n, .int x, h1, by omega, rfl⟩)
    exact lv_iinc (v := x + v) hx hb he (kp_lh_has hlh) hq (by rw [hv1]) hn rfl (fun la' hl' => hnext _ _ _ h2 (by rw [List.length_set]; exact hln) H locs la' hP hS (kp_lh_set hlh hn rfl hl'))
  | iconst n =>
    obtain ⟨hv, hlen⟩ := kp_and2 hok
    have hlen : len = 1 := of_decide_eq_true hlen
    subst hlen
    exact lv_iconst hx hb he (of_decide_eq_true hv) (hnext _ _ _ hs hln H locs la hP hS hlh)
  | bipush n =>
    obtain ⟨hv, hlen⟩ := kp_and2 hok
    have hlen : len = 2 := of_decide_eq_true hlen
    subst hlen
    exact lv_bipush hx hb he (of_decide_eq_true hv) (hnext _ _ _ hs hln H locs la hP hS hlh)
  | sipush n =>
    obtain ⟨hv, hlen⟩ := kp_and2 hok
    have hlen : len = 3 := of_decide_eq_true hlen
    subst hlen
    exact lv_sipush hx hb he (of_decide_eq_true hv) (hnext _ _ _ hs hln H locs la hP hS hlh)
  | ldc idx =>
    obtain ⟨hv, hlen⟩ := kp_and2 hok
    have hlen : len = 2 := of_decide_eq_true hlen
    subst hlen
    exact lv_ldc hx hb hown (hts _ (of_decide_eq_true hv)) he (hnext _ _ _ hs hln H locs la hP hS hlh)
  | iadd =>
    have hlen : len = 1 := of_decide_eq_true hok
    subst hlen
    obtain ⟨y, r, h1, h2⟩ := kp_pI_spec hs
    obtain ⟨x, r', h3, h4⟩ := kp_pI_spec h2
    subst h1; subst h3
    exact lv_iadd hx hb he (hnext _ _ _ h4 hln H locs la hP hS hlh)
  | isub =>
    have hlen : len = 1 := of_decide_eq_true hok
    subst hlen
    obtain ⟨y, r, h1, h2⟩ := kp_pI_spec hs
    obtain ⟨x, r', h3, h4⟩ := kp_pI_spec h2
    subst h1; subst h3
    exact lv_isub hx hb he (hnext _ _ _ h4 hln H locs la hP hS hlh)
  | imul =>
    have hlen : len = 1 := of_decide_eq_true hok
    subst hlen
    obtain ⟨y, r, h1, h2⟩ := kp_pI_spec hs
    obtain ⟨x, r', h3, h4⟩ := kp_pI_spec h2
    subst h1; subst h3
    exact lv_imul hx hb he (hnext _ _ _ h4 hln H locs la hP hS hlh)
  | iand =>
    have hlen : len = 1 := of_decide_eq_true hok
    subst hlen
    obtain ⟨y, r, h1, h2⟩ := kp_pI_spec hs
    obtain ⟨x, r', h3, h4⟩ := kp_pI_spec h2
    subst h1; subst h3
    exact lv_iand hx hb he (hnext _ _ _ h4 hln H locs la hP hS hlh)
  | ior =>
    have hlen : len = 1 := of_decide_eq_true hok
    subst hlen
    obtain ⟨y, r, h1, h2⟩ := kp_pI_spec hs
    obtain ⟨x, r', h3, h4⟩ := kp_pI_spec h2
    subst h1; subst h3
    exact lv_ior hx hb he (hnext _ _ _ h4 hln H locs la hP hS hlh)
  | ishl =>
    have hlen : len = 1 := of_decide_eq_true hok
    subst hlen
    obtain ⟨y, r, h1, h2⟩ := kp_pI_spec hs
    obtain ⟨x, r', h3, h4⟩ := kp_pI_spec h2
    subst h1; subst h3
    exact lv_ishl hx hb he (hnext _ _ _ h4 hln H locs la hP hS hlh)
  | ishr =>
    have hlen : len = 1 := of_decide_eq_true hok
    subst hlen
    obtain ⟨y, r, h1, h2⟩ := kp_pI_spec hs
    obtain ⟨x, r', h3, h4⟩ := kp_pI_spec h2
    subst h1; subst h3
    exact lv_ishr hx hb he (hnext _ _ _ h4 hln H locs la hP hS hlh)
  | iushr =>
    have hlen : len = 1 := of_decide_eq_true hok
    subst hlen
    obtain ⟨y, r, h1, h2⟩ := kp_pI_spec hs
    obtain ⟨x, r', h3, h4⟩ := kp_pI_spec h2
    subst h1; subst h3
    exact lv_iushr hx hb he rfl (hnext _ _ _ h4 hln H locs la hP hS hlh)
  | dup =>
    have hlen : len = 1 := of_decide_eq_true hok
    subst hlen
    match st, hs with
    | .int x :: r, hs => exact lv_dup hx hb he rfl (hnext _ _ _ hs hln H locs la hP hS hlh)
    | .ref x :: r, hs => exact lv_dup hx hb he rfl (hnext _ _ _ hs hln H locs la hP hS hlh)
  | getfield idx =>
    have hlen : len = 3 := of_decide_eq_true hok
    subst hlen
    obtain ⟨a, r, h1, h2⟩ := kp_pR_spec hs
    subst h1
    split at h2
    · exact h2.elim
    · rename_i ci kk b hf
      obtain ⟨fs, ho, h3⟩ := kp_obj_spec h2
      split at h3
      · rename_i hfs
        exact kp_v_get C (hgl _ (kp_fnd_mem gl idx _ hf)) ho hfs he hP (hnext _ _ _ h3 hln H locs la hP hS hlh)
      · rename_i q hfs
        exact kp_v_get C (hgl _ (kp_fnd_mem gl idx _ hf)) ho hfs he hP (hnext _ _ _ h3 hln H locs la hP hS hlh)
      · exact h3.elim
  | putfield idx =>
    have hlen : len = 3 := of_decide_eq_true hok
    subst hlen
    obtain ⟨x, r, h1, h2⟩ := kp_pI_spec hs
    obtain ⟨a, r', h3, h4⟩ := kp_pR_spec h2
    subst h1; subst h3
    split at h4
    · exact h4.elim
    · rename_i ci kk b hf
      obtain ⟨fs, ho, h5⟩ := kp_obj_spec h4
      split at h5
      · rename_i hfs
        cases b with
        | false => exact kp_v_put C (hpl _ (kp_fnd_mem pl idx _ hf)) ho hfs (fun q => by cases q) he hP (hD σ) hS (fun H1 locs1 hP1 hS1 => hnext _ _ _ h5 hln H1 locs1 la hP1 hS1 hlh)
        | true => exact kp_v_put C (hpl _ (kp_fnd_mem pl idx _ hf)) ho hfs (fun _ => h5.1) he hP (hD σ) hS (fun H1 locs1 hP1 hS1 => hnext _ _ _ h5.2 hln H1 locs1 la hP1 hS1 hlh)
      · exact h5.elim
  | iaload =>
    have hlen : len = 1 := of_decide_eq_true hok
    subst hlen
    obtain ⟨j, r, h1, h2⟩ := kp_pI_spec hs
    obtain ⟨a, r', h3, h4⟩ := kp_pR_spec h2
    subst h1; subst h3
    obtain ⟨n, rs, ha, hin, h5⟩ := kp_arr_spec h4
    exact va_iald hx hb hK hP a 0 (kp_w_at ha) rfl hin he (hnext _ _ _ h5 hln H locs la hP hS hlh)
  | baload =>
    have hlen : len = 1 := of_decide_eq_true hok
    subst hlen
    obtain ⟨j, r, h1, h2⟩ := kp_pI_spec hs
    obtain ⟨a, r', h3, h4⟩ := kp_pR_spec h2
    subst h1; subst h3
    obtain ⟨n, rs, ha, hin, h5⟩ := kp_arr_spec h4
    exact va_zald hx hb hK hP a 1 (kp_w_at ha) rfl hin he (hnext _ _ _ h5 hln H locs la hP hS hlh)
  | aaload =>
    have hlen : len = 1 := of_decide_eq_true hok
    subst hlen
    obtain ⟨j, r, h1, h2⟩ := kp_pI_spec hs
    obtain ⟨a, r', h3, h4⟩ := kp_pR_spec h2
    subst h1; subst h3
    obtain ⟨n, rs, ha, ⟨hin, hn⟩, h5⟩ := kp_arr_spec h4
    have hlt : j.toNatClampNeg < rs.length := by rw [← hn]; exact Nat.not_le.mp fun z => hin (Or.inr z)
    exact kp_v_aald C ha hin (List.getElem?_eq_getElem hlt) he hP (hnext _ _ _ (h5 _ (List.getElem?_eq_getElem hlt)) hln H locs la hP hS hlh)
  | iastore =>
    have hlen : len = 1 := of_decide_eq_true hok
    subst hlen
    obtain ⟨x, r, h1, h2⟩ := kp_pI_spec hs
    obtain ⟨j, r', h3, h4⟩ := kp_pI_spec h2
    obtain ⟨a, r2, h5, h6⟩ := kp_pR_spec h4
    subst h1; subst h3; subst h5
    obtain ⟨n, rs, ha, hin, h7⟩ := kp_arr_spec h6
    refine va_iast hx hb hK hP (hD σ) hS a 0 (kp_w_at ha) rfl hin he (fun H1 locs1 hP1 hD1 hS1 => ?_)
    rw [kp_w_set (τ := kp_up σ a j.toNatClampNeg x) ha (by simp [kp_e, kp_up_eq]) (fun i hi => kp_up_ne hi)] at hP1
    exact hnext _ _ _ h7 hln H1 locs1 la hP1 hS1 hlh
  | bastore =>
    have hlen : len = 1 := of_decide_eq_true hok
    subst hlen
    obtain ⟨x, r, h1, h2⟩ := kp_pI_spec hs
    obtain ⟨j, r', h3, h4⟩ := kp_pI_spec h2
    obtain ⟨a, r2, h5, h6⟩ := kp_pR_spec h4
    subst h1; subst h3; subst h5
    obtain ⟨n, rs, ha, hin, hbx, h7⟩ := kp_arr_spec h6
    refine va_zast hx hb hK hP (hD σ) hS a 1 (kp_w_at ha) rfl hin he (fun H1 locs1 hP1 hD1 hS1 => ?_)
    rw [(kp_bool_nar hbx).2.2, kp_w_set (τ := kp_up σ a j.toNatClampNeg x) ha (by simp [kp_e, kp_up_eq]) (fun i hi => kp_up_ne hi)] at hP1
    exact hnext _ _ _ h7 hln H1 locs1 la hP1 hS1 hlh
  | arraylength =>
    have hlen : len = 1 := of_decide_eq_true hok
    subst hlen
    obtain ⟨a, r, h1, h2⟩ := kp_pR_spec hs
    subst h1
    obtain ⟨kd, n, rs, ha, h3⟩ := kp_len_spec h2
    by_cases k0 : kd = 0
    · subst k0
      exact va_alen hx hb hK hP a 0 (kp_w_at ha) rfl rfl he (hnext _ _ _ h3 hln H locs la hP hS hlh)
    · by_cases k1 : kd = 1
      · subst k1
        exact va_alen hx hb hK hP a 1 (kp_w_at ha) rfl rfl he (hnext _ _ _ h3 hln H locs la hP hS hlh)
      · have hq : kp_e ad cI cZ cR σ a (.inr (kd, n, rs)) = .inl (cR, n, .inr (.inr (.inr (.inr fun j => (rs[j]?).map ad)))) := by simp [kp_e, k0, k1]
        have hw : (kp_w ad cI cZ cR lay σ)[a]? = some (ad a, .inl (cR, n, .inr (.inr (.inr (.inr fun j => (rs[j]?).map ad))))) := by rw [kp_w_at ha, hq]
        exact va_alen hx hb hK hP a 2 hw rfl rfl he (hnext _ _ _ h3 hln H locs la hP hS hlh)
  | ifCond cd off =>
    obtain ⟨hv, hlen⟩ := kp_and2 hok
    have hlen : len = 3 := of_decide_eq_true hlen
    subst hlen
    have ht := kp_tgt_eq (of_decide_eq_true hv)
    obtain ⟨x, r, h1, h4⟩ := kp_pI_spec hs
    subst h1
    cases cd with
    | eq => exact lv_if_eq hx hb he ht (fun q => hjmp _ _ _ _ (h4.1 q) hln H locs la hP hS hlh) (fun q => hnext _ _ _ (h4.2 q) hln H locs la hP hS hlh)
    | ne => exact lv_if_ne hx hb he ht (fun q => hjmp _ _ _ _ (h4.1 q) hln H locs la hP hS hlh) (fun q => hnext _ _ _ (h4.2 q) hln H locs la hP hS hlh)
    | lt => exact lv_if_lt hx hb he ht (fun q => hjmp _ _ _ _ (h4.1 q) hln H locs la hP hS hlh) (fun q => hnext _ _ _ (h4.2 q) hln H locs la hP hS hlh)
    | ge => exact lv_if_ge hx hb he ht (fun q => hjmp _ _ _ _ (h4.1 (Int32.not_lt.mpr q)) hln H locs la hP hS hlh) (fun q => hnext _ _ _ (h4.2 (Int32.not_le.mp q)) hln H locs la hP hS hlh)
    | gt => exact lv_if_gt hx hb he ht (fun q => hjmp _ _ _ _ (h4.1 q) hln H locs la hP hS hlh) (fun q => hnext _ _ _ (h4.2 q) hln H locs la hP hS hlh)
    | le => exact lv_if_le hx hb he ht (fun q => hjmp _ _ _ _ (h4.1 (Int32.not_lt.mpr q)) hln H locs la hP hS hlh) (fun q => hnext _ _ _ (h4.2 (Int32.not_le.mp q)) hln H locs la hP hS hlh)
  | if_icmp cd off =>
    obtain ⟨hv, hlen⟩ := kp_and2 hok
    have hlen : len = 3 := of_decide_eq_true hlen
    subst hlen
    have ht := kp_tgt_eq (of_decide_eq_true hv)
    obtain ⟨y, r, h1, h2⟩ := kp_pI_spec hs
    obtain ⟨x, r', h3, h4⟩ := kp_pI_spec h2
    subst h1; subst h3
    cases cd with
    | eq => exact lv_icmp_eq hx hb he ht (fun q => hjmp _ _ _ _ (h4.1 q) hln H locs la hP hS hlh) (fun q => hnext _ _ _ (h4.2 q) hln H locs la hP hS hlh)
    | ne => exact lv_icmp_ne hx hb he ht (fun q => hjmp _ _ _ _ (h4.1 q) hln H locs la hP hS hlh) (fun q => hnext _ _ _ (h4.2 q) hln H locs la hP hS hlh)
    | lt => exact lv_icmp_lt hx hb he ht (fun q => hjmp _ _ _ _ (h4.1 q) hln H locs la hP hS hlh) (fun q => hnext _ _ _ (h4.2 q) hln H locs la hP hS hlh)
    | ge => exact lv_icmp_ge hx hb he ht (fun q => hjmp _ _ _ _ (h4.1 (Int32.not_lt.mpr q)) hln H locs la hP hS hlh) (fun q => hnext _ _ _ (h4.2 (Int32.not_le.mp q)) hln H locs la hP hS hlh)
    | gt => exact lv_icmp_gt hx hb he ht (fun q => hjmp _ _ _ _ (h4.1 q) hln H locs la hP hS hlh) (fun q => hnext _ _ _ (h4.2 q) hln H locs la hP hS hlh)
    | le => exact lv_icmp_le hx hb he ht (fun q => hjmp _ _ _ _ (h4.1 (Int32.not_lt.mpr q)) hln H locs la hP hS hlh) (fun q => hnext _ _ _ (h4.2 (Int32.not_le.mp q)) hln H locs la hP hS hlh)
  | goto off =>
    obtain ⟨hv, hlen⟩ := kp_and2 hok
    have hlen : len = 3 := of_decide_eq_true hlen
    subst hlen
    exact lv_goto hx hb he (kp_tgt_eq (of_decide_eq_true hv)) (hjmp _ _ _ _ hs hln H locs la hP hS hlh)
  | tableswitch d lo hi offs =>
    obtain ⟨hv, hall⟩ := kp_and2 hok
    obtain ⟨hv1, hv2, hv3, hv4⟩ := of_decide_eq_true hv
    have hall : ∀ o ∈ offs.toList, 0 ≤ (pc : Int) + o := fun o ho => of_decide_eq_true (List.all_eq_true.mp hall o ho)
    obtain ⟨x, r, h1, h2⟩ := kp_pI_spec hs
    subst h1
    by_cases hout : x.toInt < lo ∨ hi < x.toInt
    · refine lv_tableOut hx hb he hout (kp_tgt_eq hv1) (hjmp _ _ _ _ (kp_sw_out _ (fun q hq => ?_) h2) hln H locs la hP hS hlh)
      obtain ⟨q1, q2, -⟩ := kp_tl_mem _ _ q hq
      exact ⟨by omega, by omega, by omega⟩
    · have hj : (x.toInt - lo).toNat < offs.toList.length := by omega
      have hget : offs.toList[(x.toInt - lo).toNat]? = some (offs.toList[(x.toInt - lo).toNat]) := List.getElem?_eq_getElem hj
      exact lv_tableIn hx hb he (fun q => hout (Or.inl q)) (fun q => hout (Or.inr q)) (by rw [← Array.getElem?_toList]; exact hget) (kp_tgt_eq (hall _ (List.mem_of_getElem? hget))) (hjmp _ _ _ _ (kp_sw_in _ lo _ _ hv2 (by omega) hget (by omega) h2) hln H locs la hP hS hlh)
  | lookupswitch d ps =>
    obtain ⟨hv0, hall⟩ := kp_and2 hok
    obtain ⟨hv1, hv2⟩ := kp_and2 hv0
    have hv1 := of_decide_eq_true hv1
    have hall : ∀ q ∈ ps.toList, 0 ≤ q.1 ∧ q.1 < 2147483648 ∧ 0 ≤ (pc : Int) + q.2 := fun o ho => of_decide_eq_true (List.all_eq_true.mp hall o ho)
    obtain ⟨x, r, h1, h2⟩ := kp_pI_spec hs
    subst h1
    have h3 := kp_sw_look (g := fun o => k (kp_jmp tab (kp_tgt pc o)) ls r σ) ps.toList (fun q hq => ⟨(hall q hq).1, (hall q hq).2.1⟩) h2
    have h4 : 0 ≤ (pc : Int) + Op.lookupswitch.offset ps.toList d x.toInt := by
      clear h3 h2 hs hok he hv0 hv2
      generalize ps.toList = L at hall
      induction L with
      | nil => rw [Op.lookupswitch.offset_nil]; exact hv1
      | cons q r ih =>
        rw [Op.lookupswitch.offset_cons]
        split
        · exact (hall q List.mem_cons_self).2.2
        · exact ih (fun q hq => hall q (List.mem_cons_of_mem _ hq))
    exact lv_lookup hx hb he hv2 rfl (kp_tgt_eq h4) (hjmp _ _ _ _ h3 hln H locs la hP hS hlh)
  | invokevirtual idx =>
    have hlen : len = 3 := of_decide_eq_true hok
    subst hlen
    exact kp_v_call (virt := true) C hR hms hs he (hlh.1.trans hln) hP (hD σ) hA hS (fun st' τ H1 locs1 hk hP1 hS1 => hnext _ _ _ hk hln H1 locs1 la hP1 hS1 hlh)
  | invokestatic idx =>
    have hlen : len = 3 := of_decide_eq_true hok
    subst hlen
    exact kp_v_call (virt := false) C hR hms hs he (hlh.1.trans hln) hP (hD σ) hA hS (fun st' τ H1 locs1 hk hP1 hS1 => hnext _ _ _ hk hln H1 locs1 la hP1 hS1 hlh)
  | ireturn =>
    have hlen : len = 1 := of_decide_eq_true hok
    subst hlen
    cases ret with
    | none => exact (show False from hs).elim
    | some ty =>
      cases ty with
      | int =>
        obtain ⟨x, r, h1, h2⟩ := kp_pI_spec (show kp_pI _ _ from hs)
        obtain ⟨h3, h4⟩ := kp_ite_spec h2
        rw [List.length_eq_zero_iff.mp h3] at h1
        subst h1
        exact W.iret hx hb hr (fun t ht hW => hQ x σ H locs t h4 (fun q => by cases q) hP hS ht) hS.2.2 he
      | boolean =>
        obtain ⟨x, r, h1, h2⟩ := kp_pI_spec (show kp_pI _ _ from hs)
        obtain ⟨h3, h5, h4⟩ := kp_ite_spec h2
        rw [List.length_eq_zero_iff.mp h3] at h1
        subst h1
        exact W.zret hx hb hr (kp_bool_nar h5).1 (fun t ht hW => hQ x σ H locs t h4 (fun q => by cases q) hP hS ht) hS.2.2 he
      | _ => exact (show False from hs).elim
  | return_ =>
    have hlen : len = 1 := of_decide_eq_true hok
    subst hlen
    cases ret with
    | none =>
      obtain ⟨h3, h4⟩ := kp_ite_spec (show ite _ _ _ from hs)
      rw [List.length_eq_zero_iff.mp h3]
      exact W.vret hx hb hr (fun t ht hW => hQ (nI 0) σ H locs t h4 (fun _ => rfl) hP hS ht) hS.2.2 he
    | some ty => cases ty <;> exact (show False from hs).elim
  | _ => exact (show False from hs).elim
theorem kp_ok_all {cc : ByteArray} {own : String} {tab : List Ent} (h : kp_ok cc own tab = true) : (∀ e ∈ tab, decode cc e.1 = .ok (e.2.1, e.2.2.1) ∧ kp_okb own e = true) ∧ kp_chb tab = true := by
  obtain ⟨h1, h2⟩ := kp_and2 h
  refine ⟨fun e he => ?_, h2⟩
  obtain ⟨h3, h4⟩ := kp_and2 (List.all_eq_true.mp h1 e he)
  exact ⟨of_decide_eq_true h3, h4⟩
theorem kp_chb_next {e : Ent} {is : List Ent} (h : kp_chb (e :: is) = true) {e' : Ent} {r : List Ent} (hr : is = e' :: r) : e'.1 = e.1 + e.2.2.1 := by
  subst hr
  exact of_decide_eq_true (kp_and2 h).1
set_option maxHeartbeats 4000000 in
/-- a stretch -/
theorem kp_T_sound (C : kp_Cx p s m args meth c cc own nL ret D cI cZ cR) (hR : R = kp_rm h) (hms : ∀ q ∈ ms, kp_okM lay own h q) (hgl : ∀ q ∈ gl, kp_okG own q) (hpl : ∀ q ∈ pl, kp_okP own q)
    (hD : ∀ τ, va_D A (kp_w ad cI cZ cR lay τ)) (hA : ∀ q, s.heap.size ≤ q → A q)
    (hQ : ∀ (r : Int32) (τ : Sg) (H : Heap) (locs : List Loc) (t : State), Q r τ → (ret = none → r = nI 0) → va_P D vwCl (kp_w ad cI cZ cR lay τ) H → va_S A s.heap H locs → t.heap = H → Qc args s (.returned (kp_rv ret r)) t)
    (hok : kp_ok cc own tab = true) {J : Nat → Lcl → List Value → Sg → Prop}
    (hJ : ∀ pc ls st σ, J pc ls st σ → kp_V p l e R s m args below meth c D cI cZ cR lay ad A (MQ below Qc args s 0 0 A) nL pc ls st σ) :
    ∀ (n : Nat) (is : List Ent) (ls : Lcl) (st : List Value) (σ : Sg), is <:+ tab → kp_T lay gl pl ms tab (kp_rk ret) J Q n is ls st σ → ∃ e0 r, is = e0 :: r ∧ kp_V p l e R s m args below meth c D cI cZ cR lay ad A (MQ below Qc args s 0 0 A) nL e0.1 ls st σ
  | 0, _, _, _, _, _, h => h.elim
  | _ + 1, [], _, _, _, _, h => h.elim
  | n + 1, e0 :: is, ls, st, σ, hsuf, h => by
    refine ⟨e0, is, rfl, ?_⟩
    obtain ⟨pc, i, len, cut, v⟩ := e0
    cases cut with
    | true => exact hJ pc ls st σ h
    | false =>
      have h1 := (kp_ok_all hok).1 _ (hsuf.mem List.mem_cons_self)
      have hch := kp_chb_suf tab _ (kp_ok_all hok).2 hsuf
      have ih := kp_T_sound C hR hms hgl hpl hD hA hQ hok hJ n
      refine kp_S_sound (is := is) (tab := tab) (k := fun is ls st σ => kp_T lay gl pl ms tab (kp_rk ret) J Q n is ls st σ) C hR hms hgl hpl hD hA hQ h1.1 h1.2 (fun ls st σ hk => ?_) (fun t ls st σ hk => ?_) h
      · obtain ⟨e1, r1, q1, q2⟩ := ih is ls st σ ((List.suffix_cons _ _).trans hsuf) hk
        rw [kp_chb_next hch q1] at q2
        exact q2
      · obtain ⟨e1, r1, q1, q2⟩ := ih _ ls st σ (kp_jmp_suf tab t) hk
        rw [kp_jmp_head tab t e1 r1 q1] at q2
        exact q2
set_option maxHeartbeats 4000000 in
/-- loops: an invariant with a measure at each cut -/
theorem kp_L_sound (C : kp_Cx p s m args meth c cc own nL ret D cI cZ cR) (hR : R = kp_rm h) (hms : ∀ q ∈ ms, kp_okM lay own h q) (hgl : ∀ q ∈ gl, kp_okG own q) (hpl : ∀ q ∈ pl, kp_okP own q)
    (hD : ∀ τ, va_D A (kp_w ad cI cZ cR lay τ)) (hA : ∀ q, s.heap.size ≤ q → A q)
    (hQ : ∀ (r : Int32) (τ : Sg) (H : Heap) (locs : List Loc) (t : State), Q r τ → (ret = none → r = nI 0) → va_P D vwCl (kp_w ad cI cZ cR lay τ) H → va_S A s.heap H locs → t.heap = H → Qc args s (.returned (kp_rv ret r)) t)
    (hok : kp_ok cc own tab = true) {N : Nat} {Inv : Nat → Nat → Lcl → List Value → Sg → Prop}
    (hI : ∀ n pc ls st σ, Inv n pc ls st σ → kp_T1 lay gl pl ms tab (kp_rk ret) (fun pc ls st σ => ∃ n', n' < n ∧ Inv n' pc ls st σ) Q N pc ls st σ) :
    ∀ (n pc : Nat) (ls : Lcl) (st : List Value) (σ : Sg), Inv n pc ls st σ → kp_V p l e R s m args below meth c D cI cZ cR lay ad A (MQ below Qc args s 0 0 A) nL pc ls st σ := by
  intro n
  induction n using Nat.strongRecOn with
  | _ n ihn =>
    intro pc ls st σ h
    have h0 := hI n pc ls st σ h
    unfold kp_T1 at h0
    have hJ : ∀ pc ls st σ, (∃ n', n' < n ∧ Inv n' pc ls st σ) → kp_V p l e R s m args below meth c D cI cZ cR lay ad A (MQ below Qc args s 0 0 A) nL pc ls st σ := fun pc ls st σ ⟨n', q1, q2⟩ => ihn n' q1 pc ls st σ q2
    have ih := kp_T_sound C hR hms hgl hpl hD hA hQ hok hJ N
    split at h0
    · exact h0.elim
    · rename_i e0 is hj
      have hsuf : e0 :: is <:+ tab := hj ▸ kp_jmp_suf tab pc
      have hpc := kp_jmp_head tab pc e0 is hj
      subst hpc
      have h1 := (kp_ok_all hok).1 _ (hsuf.mem List.mem_cons_self)
      have hch := kp_chb_suf tab _ (kp_ok_all hok).2 hsuf
      obtain ⟨pc, i, len, cut, v⟩ := e0
      refine kp_S_sound (is := is) (tab := tab) (k := fun is ls st σ => kp_T lay gl pl ms tab (kp_rk ret) (fun pc ls st σ => ∃ n', n' < n ∧ Inv n' pc ls st σ) Q N is ls st σ) C hR hms hgl hpl hD hA hQ h1.1 h1.2 (fun ls st σ hk => ?_) (fun t ls st σ hk => ?_) h0
      · obtain ⟨e1, r1, q1, q2⟩ := ih is ls st σ ((List.suffix_cons _ _).trans hsuf) hk
        rw [kp_chb_next hch q1] at q2
        exact q2
      · obtain ⟨e1, r1, q1, q2⟩ := ih _ ls st σ (kp_jmp_suf tab t) hk
        rw [kp_jmp_head tab t e1 r1 q1] at q2
        exact q2
end KPR
def kp_iv : Value → Bool
  | .int _ => true
  | .ref _ => true
  | _ => false
def kp_c1 (As : List Value) : Bool := As.all kp_iv
theorem kp_slots : ∀ (As : List Value), kp_c1 As = true → lg_sl As = As.map Slot.val
  | [], _ => rfl
  | v :: r, h => by
    obtain ⟨h1, h2⟩ := kp_and2 (show (kp_iv v && kp_c1 r) = true from h)
    have ih := kp_slots r h2
    have : lg_sl (v :: r) = (if v.category = 2 then [Slot.val v, .second] else [.val v]) ++ lg_sl r := rfl
    rw [this, ih]
    cases v <;> first | rfl | cases h1
theorem kp_c1_re {ad : Nat → Nat} : ∀ (As : List Value), kp_c1 As = true → kp_c1 (As.map (kp_re ad)) = true
  | [], _ => rfl
  | v :: r, h => by
    obtain ⟨h1, h2⟩ := kp_and2 (show (kp_iv v && kp_c1 r) = true from h)
    have ih := kp_c1_re (ad := ad) r h2
    show (kp_iv (kp_re ad v) && kp_c1 (r.map (kp_re ad))) = true
    rw [ih]
    cases v <;> first | rfl | cases h1
theorem kp_c1_cat {As : List Value} (h : kp_c1 As = true) {v : Value} (hv : v ∈ As) : v.category = 1 := by
  have := List.all_eq_true.mp h v hv
  cases v <;> first | rfl | cases this
/-- the locals at a method's entry -/
def kp_en (As : List Value) (mL : Nat) : Lcl := As.map some ++ List.replicate (mL - As.length) none
theorem kp_entry_lh {ad : Nat → Nat} {As : List Value} {mL : Nat} (hc : kp_c1 As = true) (hl : As.length ≤ mL) : kp_lh ad ((lg_sl (As.map (kp_re ad)) ++ List.replicate (mL - (lg_sl (As.map (kp_re ad))).length) Slot.unset).toArray) (kp_en As mL) := by
  have hs := kp_slots _ (kp_c1_re (ad := ad) As hc)
  have hle : (lg_sl (As.map (kp_re ad))).length ≤ mL := by rw [hs]; simpa using hl
  have hh := lv_entry (As.map (kp_re ad)) hle
  refine ⟨by rw [hh.1]; simp [kp_en]; omega, hh.2.1, fun i v hi => ?_⟩
  unfold kp_en at hi
  by_cases hlt : i < As.length
  · rw [List.getElem?_append_left (by simpa using hlt), List.getElem?_map] at hi
    cases hv : As[i]? with
    | none => rw [hv] at hi; cases hi
    | some w =>
      rw [hv] at hi
      have hw : w = v := by simpa using hi
      subst hw
      refine ⟨?_, kp_c1_cat hc (List.mem_of_getElem? hv)⟩
      rw [List.getElem?_toArray, hs, List.getElem?_append_left (by simpa using hlt), List.getElem?_map, List.getElem?_map, hv]
      rfl
  · rw [List.getElem?_append_right (by simpa using Nat.not_lt.mp hlt), List.getElem?_replicate] at hi
    split at hi <;> cases hi
set_option maxHeartbeats 4000000 in
/-- A METHOD'S CONTRACT out of the pure machine -/
theorem kp_met {lay : List Ds} {h : Nat} {y : MethodName} {cc : ByteArray} {mL : Nat} {ret : Option FieldType} {pre : SPre} {post : SPost} {gl pl : List Fe} {ms : List Me} {tab : List Ent} {N : Nat}
    (hy : plainName y.cls = true) (hok : kp_ok cc y.cls tab = true) (hgl : ∀ q ∈ gl, kp_okG y.cls q) (hpl : ∀ q ∈ pl, kp_okP y.cls q) (hms : ∀ q ∈ ms, kp_okM lay y.cls h q) (h0 : (tab.head?).map (fun e => e.1) = some 0)
    (Inv : List Value → Sg → Nat → Nat → Lcl → List Value → Sg → Prop)
    (hent : ∀ As σ, pre As σ → (kp_c1 As = true ∧ As.length ≤ mL) ∧ kp_T lay gl pl ms tab (kp_rk ret) (fun pc ls st τ => ∃ n, Inv As σ n pc ls st τ) (post As σ) N tab (kp_en As mL) [] σ)
    (hloop : ∀ As σ, pre As σ → ∀ n pc ls st τ, Inv As σ n pc ls st τ → kp_T1 lay gl pl ms tab (kp_rk ret) (fun pc ls st τ => ∃ n', n' < n ∧ Inv As σ n' pc ls st τ) (post As σ) N pc ls st τ) : kp_Met lay h y cc mL ret pre post := by
  intro l D cI cZ cR ad sz As σ hpre
  obtain ⟨⟨hc1, hlen⟩, hT⟩ := hent As σ hpre
  refine Met.ofW (cc := cc) (maxL := mL) (ret := ret) hy rfl ?_
  intro p e s m args below meth c s₁ B hml hv
  obtain ⟨rfl, hsz, hnw, hP, hK, hD0⟩ := hv
  have hx := B.exec
  have hb := B.bytes
  have hr := B.returns
  have hts := atoms_spec (ws := kp_ws y cc mL ret) B.pre
  have hown : s.vm.findClass y.cls = some m.cls := findClass_of_methodNamed B.named
  have hlocks := B.notSynchronized
  subst hsz
  have hD := hD0.self (sz := s.heap.size)
  have C : kp_Cx p s m (As.map (kp_re ad)).toArray meth c cc y.cls mL ret D cI cZ cR := ⟨hx, hb, hml, hown, fun w hw => hts w (List.mem_cons_of_mem _ hw), hnw, hr, hlocks, hK⟩
  have hDt : ∀ τ, va_D (va_A (kp_w ad cI cZ cR lay σ) s.heap.size) (kp_w ad cI cZ cR lay τ) := fun τ => kp_w_D τ hD
  have hA : ∀ q : Nat, s.heap.size ≤ q → va_A (kp_w ad cI cZ cR lay σ) s.heap.size q := fun q h => Or.inr h
  have hQ : ∀ (r : Int32) (τ : Sg) (H : Heap) (locs : List Loc) (t : State), post As σ r τ → (ret = none → r = nI 0) → va_P D vwCl (kp_w ad cI cZ cR lay τ) H → va_S (va_A (kp_w ad cI cZ cR lay σ) s.heap.size) s.heap H locs → t.heap = H → kp_Q lay ret post D cI cZ cR ad s.heap.size As σ (As.map (kp_re ad)).toArray s (.returned (kp_rv ret r)) t :=
    fun r τ H locs t h1 h2 h3 h4 h5 => ⟨⟨r, τ, rfl, ⟨h2, h1⟩, by rw [h5]; exact h3⟩, h4.F h5⟩
  have hJ := kp_L_sound (l := l) (e := e) (below := below) C rfl hms hgl hpl hDt hA hQ hok (hloop As σ hpre)
  obtain ⟨e0, r0, q1, q2⟩ := kp_T_sound (l := l) (e := e) (below := below) C rfl hms hgl hpl hDt hA hQ hok (fun pc ls st τ ⟨n, q⟩ => hJ n pc ls st τ q) N tab _ [] σ (List.suffix_refl _) hT
  have he0 : e0.1 = 0 := by rw [q1] at h0; simpa using h0
  rw [he0] at q2
  rw [lg_entry_eq]
  exact q2 (by simp [kp_en]; omega) s.heap [] _ hP va_S.rf (kp_entry_lh hc1 hlen)
