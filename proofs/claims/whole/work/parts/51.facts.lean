/-! what stands at the law's entry; the first worlds of the two objects -/
theorem ks_arr {args : Array Value} {s : State} {ty : FieldType} (h : (Cond.arrayClass ty).before args s = true) : ∃ cA : ClassId, ArrOfT s cA ty ∧ s.vm.findClass ("[" ++ ty.toString) = some cA := by
  obtain ⟨cA, kA, comp, h1, h2, h3⟩ := Cond.arrayClass_spec (args := args) (first := s) (o := none) (s := s) (idx := []) h
  exact ⟨cA, fun n z => ⟨fun k h => (by cases h), kA, h2, comp, h3⟩, h1⟩
set_option maxRecDepth 100000 in
theorem ks_inst : (Cond.instantiable RX0 12 ∈ lw_tbl ∧ Cond.instantiable RX1 3 ∈ lw_tbl ∧ Cond.instantiable RX2 2 ∈ lw_tbl ∧ Cond.instantiable RX3 4 ∈ lw_tbl ∧ Cond.instantiable RX4 4 ∈ lw_tbl) ∧ (Cond.instantiable RX5 2 ∈ lw_tbl ∧ Cond.instantiable RX6 1 ∈ lw_tbl ∧ Cond.instantiable RX8 8 ∈ lw_tbl ∧ Cond.instantiable RX9 8 ∈ lw_tbl ∧ Cond.instantiable RX10 36 ∈ lw_tbl) := by decide +kernel
set_option maxRecDepth 100000 in
theorem ks_words : Cond.arrayClass .int ∈ kp_tb ∧ Cond.arrayClass .boolean ∈ kp_tb ∧ Cond.arrayClass .long ∈ kp_tb := by decide +kernel
set_option maxRecDepth 100000 in
theorem ks_over : Cond.arrayOver (.array .int) ∈ lw_tbl := by decide +kernel
set_option maxRecDepth 100000 in
theorem ks_str : Cond.stringRef RX9 146 "no such command went out" ∈ lw_tbl ∧ Cond.stringRef RX9 157 "what is 0 or 1" ∈ lw_tbl ∧ Cond.laysStatic Bundle.tN "UNASSIGNED_STACK" Bundle.steD ∈ lw_tbl ∧ Cond.laysStatic Bundle.tN "SUPPRESSED_SENTINEL" Bundle.listD ∈ lw_tbl ∧ Cond.initialized Bundle.tN ∈ lw_tbl := by decide +kernel
set_option maxRecDepth 100000 in
theorem ks_nx : ∀ w ∈ nx_l, w ∈ lw_tbl := by decide +kernel
set_option maxRecDepth 100000 in
theorem ks_hgv : Cond.isRef (.static Bundle.tN "UNASSIGNED_STACK" Bundle.steD) ∈ flatC (Jvm.Cond.and given_1 narrow_1) ∧ Cond.isRef (.static Bundle.tN "SUPPRESSED_SENTINEL" Bundle.listD) ∈ flatC (Jvm.Cond.and given_1 narrow_1) ∧ Cond.exactly (.string RX9 146) "java/lang/String" ∈ flatC (Jvm.Cond.and given_1 narrow_1) ∧ Cond.exactly (.string RX9 157) "java/lang/String" ∈ flatC (Jvm.Cond.and given_1 narrow_1) := by decide +kernel
theorem ks_nw {args : Array Value} {s : State} (hts : ∀ w ∈ lw_tbl, w.before args s = true) : ∀ w ∈ kp_nw, va_Nw w s := by
  intro w hw
  obtain ⟨h1, h2⟩ := List.mem_filter.mp hw
  have h3 := hts w h1
  cases w <;> first | exact va_Nw.of rfl h3 | cases h2
theorem ks_Kn {args : Array Value} {s : State} (hts : ∀ w ∈ lw_tbl, w.before args s = true) (k : Nat) : ∃ (cC : ClassId) (iS : Nat → Nat), ∀ q : vw_C, vwCl[k]? = some q → u_Kn s q.1 q.2.1 q.2.2 cC iS := by
  have ht : ∀ w ∈ kp_tb, w.before args s = true := fun w hw => hts w (kp_tb_good w hw).1
  have key : ∀ (C : String) (T : u_T) (N : Nat), (∀ w ∈ u_ws C T N, w ∈ kp_tb) → Cond.instantiable C N ∈ lw_tbl → vwCl[k]? = some (C, T, N) → ∃ (cC : ClassId) (iS : Nat → Nat), ∀ q : vw_C, vwCl[k]? = some q → u_Kn s q.1 q.2.1 q.2.2 cC iS := by
    intro C T N h1 h2 h3
    obtain ⟨cC, iS, h⟩ := u_known (C := C) (T := T) (N := N) (n := N) ht h1 (hts _ h2)
    refine ⟨cC, iS, fun q hq => ?_⟩
    rw [h3] at hq
    cases hq
    exact h
  obtain ⟨⟨i0, i1, i2, i3, i4⟩, i5, i6, i7, i8, i9⟩ := ks_inst
  match k with
  | 0 => exact key RX0 TX0 12 kp_u0 i0 rfl
  | 1 => exact key RX1 TX1 3 kp_u1 i1 rfl
  | 2 => exact key RX2 TX2 2 kp_u2 i2 rfl
  | 3 => exact key RX3 TX3 4 kp_u3 i3 rfl
  | 4 => exact key RX4 TX4 4 kp_u4 i4 rfl
  | 5 => exact key RX5 TX5 2 kp_u5 i5 rfl
  | 6 => exact key RX6 TX6 1 kp_u6 i6 rfl
  | 7 => exact key RX8 TX8 8 kp_u7 i7 rfl
  | 8 => exact key RX9 TX9 8 kp_u8 i8 rfl
  | 9 => exact key RX10 TX10 36 kp_u9 i9 rfl
  | k + 10 => exact ⟨0, fun _ => 0, fun q hq => by simp [vwCl] at hq⟩
theorem ks_K {args : Array Value} {s : State} (hts : ∀ w ∈ lw_tbl, w.before args s = true) : ∃ (D : va_G) (cI cZ : ClassId), va_K D vwCl (ki_ty cI cZ) s := by
  have ht : ∀ w ∈ kp_tb, w.before args s = true := fun w hw => hts w (kp_tb_good w hw).1
  obtain ⟨cI, a1, a2⟩ := ks_arr (ht _ ks_words.1)
  obtain ⟨cZ, b1, b2⟩ := ks_arr (ht _ ks_words.2.1)
  refine ⟨(fun k => Classical.choose (ks_Kn hts k), fun k => Classical.choose (Classical.choose_spec (ks_Kn hts k))), cI, cZ, fun k q hq => Classical.choose_spec (Classical.choose_spec (ks_Kn hts k)) q hq, fun k q hq => ?_⟩
  match k, hq with
  | 0, hq => cases hq; exact ⟨a1, a2⟩
  | 1, hq => cases hq; exact ⟨b1, b2⟩
  | k + 2, hq => simp at hq
theorem ks_Z {args : Array Value} {s : State} (hts : ∀ w ∈ lw_tbl, w.before args s = true) (hgv : (Jvm.Cond.and given_1 narrow_1).before args s = true) : ∃ s1 s2 : Nat, kx_Z (ll_A s) s1 s2 s s.heap := by
  have hf := flat_of_before _ hgv
  obtain ⟨g1, g2, g3, g4⟩ := ks_hgv
  obtain ⟨t1, t2, t3, t4, t5⟩ := ks_str
  obtain ⟨s1, _, _, _, e1, -⟩ := Cond.exactly_spec (args := args) (first := s) (o := none) (s := s) (idx := []) (hf _ g3)
  obtain ⟨s2, _, _, _, e2, -⟩ := Cond.exactly_spec (args := args) (first := s) (o := none) (s := s) (idx := []) (hf _ g4)
  have hA : ∀ a : Nat, a < s.heap.size → ¬ ll_A s a := fun a h => Nat.not_le.mpr h
  refine ⟨s1, s2, fun w hw => ?_, vk_R.of (hts _ t1) e1, vk_R.of (hts _ t2) e2, vx_Zqof (hts _ t3) (hts _ t5) (hf _ g1) hA, vx_Zqof (hts _ t4) (hts _ t5) (hf _ g2) hA⟩
  have h1 := hts w (ks_nx w hw)
  simp only [nx_l, List.mem_cons, List.not_mem_nil, or_false] at hw
  rcases hw with rfl | rfl | rfl | rfl
  · exact va_Nw.of rfl h1
  · exact va_Nw.of rfl h1
  · exact va_Nw.of rfl h1
  · exact va_Nw.of rfl h1
def kp_fr (ad : Nat → Nat) (f : Nat → Int32) : Nat → List (Option Nat) → List Value
  | _, [] => []
  | k, none :: r => .int (f k) :: kp_fr ad f (k + 1) r
  | k, some q :: r => .ref (ad q) :: kp_fr ad f (k + 1) r
theorem kp_fr_eq {ad : Nat → Nat} {σ : Sg} {i : Nat} : ∀ (fs : List (Option Nat)) (k : Nat), fs.mapIdx (fun j => kp_fv ad σ i (k + j)) = kp_fr ad (σ i) k fs
  | [], _ => rfl
  | o :: r, k => by
    have h := kp_fr_eq (ad := ad) (σ := σ) (i := i) r (k + 1)
    rw [List.mapIdx_cons]
    have e : (fun j => kp_fv ad σ i (k + (j + 1))) = (fun j => kp_fv ad σ i (k + 1 + j)) := by
      funext j
      rw [show k + (j + 1) = k + 1 + j by omega]
    rw [e, h]
    cases o <;> rfl
def kp_er (ad : Nat → Nat) (cI cZ cR : ClassId) (σ : Sg) (i : Nat) : Ds → va_E
  | .inl q => .inr (q.1, kp_fr ad (σ i) 0 q.2)
  | .inr (0, n, _) => .inl (cI, n, .inl (σ i))
  | .inr (1, n, _) => .inl (cZ, n, .inl (σ i))
  | .inr (_, n, rs) => .inl (cR, n, .inr (.inr (.inr (.inr fun j => (rs[j]?).map ad))))
theorem kp_er_eq {ad : Nat → Nat} {cI cZ cR : ClassId} {σ : Sg} {i : Nat} (d : Ds) : kp_e ad cI cZ cR σ i d = kp_er ad cI cZ cR σ i d := by
  cases d with
  | inl q =>
    have h := kp_fr_eq (ad := ad) (σ := σ) (i := i) q.2 0
    simp only [Nat.zero_add] at h
    show Sum.inr (q.1, q.2.mapIdx (kp_fv ad σ i)) = Sum.inr (q.1, kp_fr ad (σ i) 0 q.2)
    rw [← h]
  | inr q =>
    obtain ⟨kd, n, rs⟩ := q
    match kd with
    | 0 => rfl
    | 1 => rfl
    | k + 2 => rfl
def kp_wr (ad : Nat → Nat) (cI cZ cR : ClassId) (σ : Sg) : Nat → List Ds → va_W
  | _, [] => []
  | i, d :: r => (ad i, kp_er ad cI cZ cR σ i d) :: kp_wr ad cI cZ cR σ (i + 1) r
theorem kp_wr_eq {ad : Nat → Nat} {cI cZ cR : ClassId} {σ : Sg} : ∀ (lay : List Ds) (k : Nat), lay.mapIdx (fun i d => (ad (k + i), kp_e ad cI cZ cR σ (k + i) d)) = kp_wr ad cI cZ cR σ k lay
  | [], _ => rfl
  | d :: r, k => by
    have h := kp_wr_eq (ad := ad) (cI := cI) (cZ := cZ) (cR := cR) (σ := σ) r (k + 1)
    rw [List.mapIdx_cons]
    have e : (fun (i : Nat) (d : Ds) => (ad (k + (i + 1)), kp_e ad cI cZ cR σ (k + (i + 1)) d)) = (fun (i : Nat) (d : Ds) => (ad (k + 1 + i), kp_e ad cI cZ cR σ (k + 1 + i) d)) := by
      funext i d
      rw [show k + (i + 1) = k + 1 + i by omega]
    rw [e, h, kp_wr, Nat.add_zero, kp_er_eq]
theorem kp_w_r {ad : Nat → Nat} {cI cZ cR : ClassId} {σ : Sg} {lay : List Ds} : kp_w ad cI cZ cR lay σ = kp_wr ad cI cZ cR σ 0 lay := by
  have h := kp_wr_eq (ad := ad) (cI := cI) (cZ := cZ) (cR := cR) (σ := σ) lay 0
  simp only [Nat.zero_add] at h
  exact h
set_option maxRecDepth 100000 in
theorem ks_wC (h0 : Nat) (q5 q5_9 q7_9_9 q16_9 q7_20_9 q15_20_9 q16 q7_20 q15_20 q30 q36 q7_40 q16_40 q25_40 q47 q8_51 q17_51 q58 q8_62 q39_62 q68_62 q76_62 q69 q7_73 q15_73 q28_73 q51_73 q59_73 q69_73 q79_73 q87_73 q80 q7_84 : Nat) (r_73 : Nat → Nat) (cI cZ cR_73 : ClassId) : ∃ aC : Nat → Nat, aC 0 = h0 ∧ ([(h0, .inr (8, [.ref q5, .ref q16, .ref q30, .ref q36, .ref q47, .ref q58, .ref q69, .ref q80])), (q5, .inr (5, [.ref q5_9, .ref q16_9])), (q5_9, .inr (2, [.ref q7_9_9, .int (nI 1)])), (q7_9_9, .inl (cI, 12, .inl (upd (fun _ => nI 0) 0 (-1)))), (q16_9, .inr (1, [.ref q7_20_9, .ref q15_20_9, .int (nI 0)])), (q7_20_9, .inl (cI, 120, .inl (fun _ => nI 0))), (q15_20_9, .inl (cI, 120, .inl (fun _ => nI 0))), (q16, .inr (1, [.ref q7_20, .ref q15_20, .int (nI 0)])), (q7_20, .inl (cI, 120, .inl (fun _ => nI 0))), (q15_20, .inl (cI, 120, .inl (fun _ => nI 0))), (q30, .inl (cI, 240, .inl (fun _ => nI 0))), (q36, .inr (4, [.ref q7_40, .ref q16_40, .ref q25_40, .int (nI 0)])), (q7_40, .inl (cI, 120, .inl (fun _ => nI 0))), (q16_40, .inl (cI, 240, .inl (fun _ => nI 0))), (q25_40, .inl (cI, 240, .inl (fun _ => nI 0))), (q47, .inr (7, [.ref q8_51, .ref q17_51, .int (nI 0), .int (nI 0), .int (nI 0), .int (nI 10), .int (nI 0), .int (nI 0)])), (q8_51, .inl (cI, 400, .inl (fun _ => nI 0))), (q17_51, .inl (cI, 400, .inl (fun _ => nI 0))), (q58, .inr (3, [.ref q8_62, .ref q39_62, .ref q68_62, .ref q76_62])), (q8_62, .inl (cI, 241, .inl (ki_fl 1 241 (nI 10)))), (q39_62, .inl (cI, 40, .inl (ki_fl 0 40 (nI 1)))), (q68_62, .inl (cI, 40, .inl (fun _ => nI 0))), (q76_62, .inl (cI, 40, .inl (fun _ => nI 0))), (q69, .inr (0, [.ref q7_73, .ref q15_73, .int (nI 0), .ref q28_73, .int (nI 0), .int (nI 0), .int (-1), .ref q51_73, .ref q59_73, .ref q69_73, .ref q79_73, .ref q87_73])), (q7_73, .inl (cI, 6, .inl (fun _ => nI 0))), (q15_73, .inl (cI, 6, .inl (fun _ => nI 0))), (q28_73, .inl (cI, 8, .inl (fun _ => nI 0))), (q51_73, .inl (cI, 6, .inl (fun _ => nI 0))), (q59_73, .inl (cI, 6, .inl (fun _ => nI 0))), (q69_73, .inl (cR_73, 6, .inr (.inr (.inr (.inr (fun i => if i < 6 then some (r_73 i) else none)))))), ((r_73 0), .inl (cI, 8, .inl (fun _ => nI 0))), ((r_73 1), .inl (cI, 8, .inl (fun _ => nI 0))), ((r_73 2), .inl (cI, 8, .inl (fun _ => nI 0))), ((r_73 3), .inl (cI, 8, .inl (fun _ => nI 0))), ((r_73 4), .inl (cI, 8, .inl (fun _ => nI 0))), ((r_73 5), .inl (cI, 8, .inl (fun _ => nI 0))), (q79_73, .inl (cI, 7, .inl (fun _ => nI 0))), (q87_73, .inl (cZ, 36, .inl (fun _ => nI 0))), (q80, .inr (6, [.ref q7_84])), (q7_84, .inl (cI, 40, .inl (fun _ => nI 0)))] : va_W) = kp_w aC cI cZ cR_73 layC sg0 := by
  have hf : (fun i => if i < 6 then some (r_73 i) else none) = (fun j : Nat => (([30, 31, 32, 33, 34, 35] : List Nat)[j]?).map (fun k => ([h0, q5, q5_9, q7_9_9, q16_9, q7_20_9, q15_20_9, q16, q7_20, q15_20, q30, q36, q7_40, q16_40, q25_40, q47, q8_51, q17_51, q58, q8_62, q39_62, q68_62, q76_62, q69, q7_73, q15_73, q28_73, q51_73, q59_73, q69_73, (r_73 0), (r_73 1), (r_73 2), (r_73 3), (r_73 4), (r_73 5), q79_73, q87_73, q80, q7_84] : List Nat).getD k 0)) := by
    funext i
    match i with
    | 0 => rfl
    | 1 => rfl
    | 2 => rfl
    | 3 => rfl
    | 4 => rfl
    | 5 => rfl
    | k + 6 => rw [if_neg (by omega)]; simp
  rw [hf]
  refine ⟨fun k => ([h0, q5, q5_9, q7_9_9, q16_9, q7_20_9, q15_20_9, q16, q7_20, q15_20, q30, q36, q7_40, q16_40, q25_40, q47, q8_51, q17_51, q58, q8_62, q39_62, q68_62, q76_62, q69, q7_73, q15_73, q28_73, q51_73, q59_73, q69_73, (r_73 0), (r_73 1), (r_73 2), (r_73 3), (r_73 4), (r_73 5), q79_73, q87_73, q80, q7_84] : List Nat).getD k 0, rfl, ?_⟩
  rw [kp_w_r]
  rfl
set_option maxRecDepth 100000 in
theorem ks_wM (h0 : Nat) (q7 q26 q34 q42 q50 q58 q66 q74 q83 q92 q101 q109 q117 q125 q133 q141 q149 q157 q165 q173 : Nat) (cI cZ cR : ClassId) : ∃ aM : Nat → Nat, aM 0 = h0 ∧ ([(h0, .inr (9, [.int 0, .ref q7, .int (nI 1), .int 0, .int (nI 10), .int 0, .int 0, .int 0, .int 0, .int 0, .int 0, .int 0, .ref q26, .ref q34, .ref q42, .ref q50, .ref q58, .ref q66, .ref q74, .ref q83, .ref q92, .int 0, .ref q101, .ref q109, .ref q117, .ref q125, .ref q133, .ref q141, .ref q149, .ref q157, .int 0, .ref q165, .ref q173, .int 0, .int 0, .int 0])), (q7, .inl (cI, 12, .inl (upd (fun _ => nI 0) 0 (-1)))), (q26, .inl (cI, 120, .inl (fun _ => nI 0))), (q34, .inl (cI, 120, .inl (fun _ => nI 0))), (q42, .inl (cI, 120, .inl (fun _ => nI 0))), (q50, .inl (cI, 120, .inl (fun _ => nI 0))), (q58, .inl (cI, 120, .inl (fun _ => nI 0))), (q66, .inl (cI, 120, .inl (fun _ => nI 0))), (q74, .inl (cI, 8, .inl (fun _ => nI 0))), (q83, .inl (cI, 400, .inl (fun _ => nI 0))), (q92, .inl (cI, 400, .inl (fun _ => nI 0))), (q101, .inl (cI, 241, .inl (ki_fl 0 241 (nI 10)))), (q109, .inl (cI, 40, .inl (ki_fl 0 40 (nI 1)))), (q117, .inl (cI, 40, .inl (fun _ => nI 0))), (q125, .inl (cI, 40, .inl (fun _ => nI 0))), (q133, .inl (cI, 6, .inl (fun _ => nI 0))), (q141, .inl (cI, 6, .inl (fun _ => nI 0))), (q149, .inl (cI, 8, .inl (fun _ => nI 0))), (q157, .inl (cI, 120, .inl (fun _ => nI 0))), (q165, .inl (cI, 6, .inl (fun _ => nI 0))), (q173, .inl (cI, 6, .inl (fun _ => nI 0)))] : va_W) = kp_w aM cI cZ cR layM tg0 := by
  refine ⟨fun k => ([h0, q7, q26, q34, q42, q50, q58, q66, q74, q83, q92, q101, q109, q117, q125, q133, q141, q149, q157, q165, q173] : List Nat).getD k 0, rfl, ?_⟩
  rw [kp_w_r]
  rfl
