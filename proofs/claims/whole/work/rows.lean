section
-- ===== PART A: goes FIRST, ahead of the names: the tables' words, and 'selects' of the private methods out of them =====
/-- a private method of a class that the tables say can be made, by its rows of tables_1 -/
def lw_okq (q : MethodName × Nat) : Prop := (q.1.cls ≠ "java/lang/invoke/MethodHandle" ∧ q.1.cls ≠ "java/lang/invoke/VarHandle") ∧ Cond.instantiable q.1.cls q.2 ∈ tables_1 ∧ Cond.privateMethod q.1 ∈ tables_1 ∧ Cond.instanceMethod q.1 ∈ tables_1
theorem lw_p0 : lw_okq (⟨"KeyPlan$Bindings", "place", "(I)I"⟩, 3) := ⟨⟨by decide +kernel, by decide +kernel⟩, List.mem_of_getElem? (i := 47) (by decide +kernel), List.mem_of_getElem? (i := 286) (by decide +kernel), List.mem_of_getElem? (i := 287) (by decide +kernel)⟩
theorem lw_p1 : lw_okq (⟨"KeyPlan$Bindings", "isAt", "(II)Z"⟩, 3) := ⟨⟨by decide +kernel, by decide +kernel⟩, List.mem_of_getElem? (i := 47) (by decide +kernel), List.mem_of_getElem? (i := 290) (by decide +kernel), List.mem_of_getElem? (i := 291) (by decide +kernel)⟩
theorem lw_p2 : lw_okq (⟨"KeyPlan$Bindings", "closeGap", "(I)V"⟩, 3) := ⟨⟨by decide +kernel, by decide +kernel⟩, List.mem_of_getElem? (i := 47) (by decide +kernel), List.mem_of_getElem? (i := 298) (by decide +kernel), List.mem_of_getElem? (i := 299) (by decide +kernel)⟩
theorem lw_p3 : lw_okq (⟨"KeyPlan$Bindings", "openGap", "(I)V"⟩, 3) := ⟨⟨by decide +kernel, by decide +kernel⟩, List.mem_of_getElem? (i := 47) (by decide +kernel), List.mem_of_getElem? (i := 302) (by decide +kernel), List.mem_of_getElem? (i := 303) (by decide +kernel)⟩
theorem lw_p4 : lw_okq (⟨"KeyPlan$Fights", "add", "(II)V"⟩, 4) := ⟨⟨by decide +kernel, by decide +kernel⟩, List.mem_of_getElem? (i := 80) (by decide +kernel), List.mem_of_getElem? (i := 353) (by decide +kernel), List.mem_of_getElem? (i := 354) (by decide +kernel)⟩
theorem lw_p5 : lw_okq (⟨"KeyPlan$Typing", "settleOne", "(LKeyPlan$Layout;I)V"⟩, 8) := ⟨⟨by decide +kernel, by decide +kernel⟩, List.mem_of_getElem? (i := 102) (by decide +kernel), List.mem_of_getElem? (i := 373) (by decide +kernel), List.mem_of_getElem? (i := 374) (by decide +kernel)⟩
theorem lw_p6 : lw_okq (⟨"KeyPlan$Typing", "send", "(II)V"⟩, 8) := ⟨⟨by decide +kernel, by decide +kernel⟩, List.mem_of_getElem? (i := 102) (by decide +kernel), List.mem_of_getElem? (i := 380) (by decide +kernel), List.mem_of_getElem? (i := 381) (by decide +kernel)⟩
theorem lw_p7 : lw_okq (⟨"KeyPlan$Assigning", "prepare", "(LKeyPlan$Costs;LKeyPlan$Contexts;)V"⟩, 12) := ⟨⟨by decide +kernel, by decide +kernel⟩, List.mem_of_getElem? (i := 165) (by decide +kernel), List.mem_of_getElem? (i := 475) (by decide +kernel), List.mem_of_getElem? (i := 476) (by decide +kernel)⟩
theorem lw_p8 : lw_okq (⟨"KeyPlan$Contexts", "isWithin", "(II)Z"⟩, 2) := ⟨⟨by decide +kernel, by decide +kernel⟩, List.mem_of_getElem? (i := 32) (by decide +kernel), List.mem_of_getElem? (i := 494) (by decide +kernel), List.mem_of_getElem? (i := 495) (by decide +kernel)⟩
theorem lw_p9 : lw_okq (⟨"KeyPlan$Assigning", "giveFrom", "(II)V"⟩, 12) := ⟨⟨by decide +kernel, by decide +kernel⟩, List.mem_of_getElem? (i := 165) (by decide +kernel), List.mem_of_getElem? (i := 499) (by decide +kernel), List.mem_of_getElem? (i := 500) (by decide +kernel)⟩
theorem lw_p10 : lw_okq (⟨"KeyPlan$Assigning", "remember", "(I)V"⟩, 12) := ⟨⟨by decide +kernel, by decide +kernel⟩, List.mem_of_getElem? (i := 165) (by decide +kernel), List.mem_of_getElem? (i := 503) (by decide +kernel), List.mem_of_getElem? (i := 504) (by decide +kernel)⟩
theorem lw_p11 : lw_okq (⟨"KeyPlan$Assigning", "isUntaken", "(II)Z"⟩, 12) := ⟨⟨by decide +kernel, by decide +kernel⟩, List.mem_of_getElem? (i := 165) (by decide +kernel), List.mem_of_getElem? (i := 507) (by decide +kernel), List.mem_of_getElem? (i := 508) (by decide +kernel)⟩
theorem lw_p12 : lw_okq (⟨"KeyPlan$Learning", "countAhead", "(I)I"⟩, 1) := ⟨⟨by decide +kernel, by decide +kernel⟩, List.mem_of_getElem? (i := 216) (by decide +kernel), List.mem_of_getElem? (i := 581) (by decide +kernel), List.mem_of_getElem? (i := 582) (by decide +kernel)⟩
theorem lw_p13 : lw_okq (⟨"java/lang/Throwable", "fillInStackTrace", "(I)Ljava/lang/Throwable;"⟩, 6) := ⟨⟨by decide +kernel, by decide +kernel⟩, List.mem_of_getElem? (i := 637) (by decide +kernel), List.mem_of_getElem? (i := 635) (by decide +kernel), List.mem_of_getElem? (i := 636) (by decide +kernel)⟩
theorem lw_p14 : lw_okq (⟨"KeyPlanModel", "isContext", "(I)Z"⟩, 36) := ⟨⟨by decide +kernel, by decide +kernel⟩, List.mem_of_getElem? (i := 668) (by decide +kernel), List.mem_of_getElem? (i := 791) (by decide +kernel), List.mem_of_getElem? (i := 792) (by decide +kernel)⟩
theorem lw_p15 : lw_okq (⟨"KeyPlanModel", "hasFor", "(II)I"⟩, 36) := ⟨⟨by decide +kernel, by decide +kernel⟩, List.mem_of_getElem? (i := 668) (by decide +kernel), List.mem_of_getElem? (i := 808) (by decide +kernel), List.mem_of_getElem? (i := 809) (by decide +kernel)⟩
def lw_privs_1 : List (MethodName × Nat) := [(⟨"KeyPlan$Bindings", "place", "(I)I"⟩, 3), (⟨"KeyPlan$Bindings", "isAt", "(II)Z"⟩, 3), (⟨"KeyPlan$Bindings", "closeGap", "(I)V"⟩, 3), (⟨"KeyPlan$Bindings", "openGap", "(I)V"⟩, 3), (⟨"KeyPlan$Fights", "add", "(II)V"⟩, 4), (⟨"KeyPlan$Typing", "settleOne", "(LKeyPlan$Layout;I)V"⟩, 8), (⟨"KeyPlan$Typing", "send", "(II)V"⟩, 8), (⟨"KeyPlan$Assigning", "prepare", "(LKeyPlan$Costs;LKeyPlan$Contexts;)V"⟩, 12), (⟨"KeyPlan$Contexts", "isWithin", "(II)Z"⟩, 2), (⟨"KeyPlan$Assigning", "giveFrom", "(II)V"⟩, 12), (⟨"KeyPlan$Assigning", "remember", "(I)V"⟩, 12), (⟨"KeyPlan$Assigning", "isUntaken", "(II)Z"⟩, 12), (⟨"KeyPlan$Learning", "countAhead", "(I)I"⟩, 1), (⟨"java/lang/Throwable", "fillInStackTrace", "(I)Ljava/lang/Throwable;"⟩, 6), (⟨"KeyPlanModel", "isContext", "(I)Z"⟩, 36), (⟨"KeyPlanModel", "hasFor", "(II)I"⟩, 36)]
theorem lw_r1 : ∀ q ∈ lw_privs_1, lw_okq q := List.forall_mem_cons.mpr ⟨lw_p0, List.forall_mem_cons.mpr ⟨lw_p1, List.forall_mem_cons.mpr ⟨lw_p2, List.forall_mem_cons.mpr ⟨lw_p3, List.forall_mem_cons.mpr ⟨lw_p4, List.forall_mem_cons.mpr ⟨lw_p5, List.forall_mem_cons.mpr ⟨lw_p6, List.forall_mem_cons.mpr ⟨lw_p7, List.forall_mem_cons.mpr ⟨lw_p8, List.forall_mem_cons.mpr ⟨lw_p9, List.forall_mem_cons.mpr ⟨lw_p10, List.forall_mem_cons.mpr ⟨lw_p11, List.forall_mem_cons.mpr ⟨lw_p12, List.forall_mem_cons.mpr ⟨lw_p13, List.forall_mem_cons.mpr ⟨lw_p14, List.forall_mem_cons.mpr ⟨lw_p15, fun _ h => absurd h List.not_mem_nil⟩⟩⟩⟩⟩⟩⟩⟩⟩⟩⟩⟩⟩⟩⟩⟩
theorem lw_p16 : lw_okq (⟨"KeyPlanModel", "entry", "(II)I"⟩, 36) := ⟨⟨by decide +kernel, by decide +kernel⟩, List.mem_of_getElem? (i := 668) (by decide +kernel), List.mem_of_getElem? (i := 812) (by decide +kernel), List.mem_of_getElem? (i := 813) (by decide +kernel)⟩
theorem lw_p17 : lw_okq (⟨"KeyPlanModel", "set", "(III)V"⟩, 36) := ⟨⟨by decide +kernel, by decide +kernel⟩, List.mem_of_getElem? (i := 668) (by decide +kernel), List.mem_of_getElem? (i := 816) (by decide +kernel), List.mem_of_getElem? (i := 817) (by decide +kernel)⟩
theorem lw_p18 : lw_okq (⟨"KeyPlanModel", "meaning", "(II)I"⟩, 36) := ⟨⟨by decide +kernel, by decide +kernel⟩, List.mem_of_getElem? (i := 668) (by decide +kernel), List.mem_of_getElem? (i := 828) (by decide +kernel), List.mem_of_getElem? (i := 829) (by decide +kernel)⟩
theorem lw_p19 : lw_okq (⟨"KeyPlanModel", "fightOf", "(III)I"⟩, 36) := ⟨⟨by decide +kernel, by decide +kernel⟩, List.mem_of_getElem? (i := 668) (by decide +kernel), List.mem_of_getElem? (i := 836) (by decide +kernel), List.mem_of_getElem? (i := 837) (by decide +kernel)⟩
theorem lw_p20 : lw_okq (⟨"KeyPlanModel", "findRows", "(I)V"⟩, 36) := ⟨⟨by decide +kernel, by decide +kernel⟩, List.mem_of_getElem? (i := 668) (by decide +kernel), List.mem_of_getElem? (i := 840) (by decide +kernel), List.mem_of_getElem? (i := 841) (by decide +kernel)⟩
theorem lw_p21 : lw_okq (⟨"KeyPlanModel", "settles", "(I)V"⟩, 36) := ⟨⟨by decide +kernel, by decide +kernel⟩, List.mem_of_getElem? (i := 668) (by decide +kernel), List.mem_of_getElem? (i := 862) (by decide +kernel), List.mem_of_getElem? (i := 863) (by decide +kernel)⟩
theorem lw_p22 : lw_okq (⟨"KeyPlanModel", "one", "(I)V"⟩, 36) := ⟨⟨by decide +kernel, by decide +kernel⟩, List.mem_of_getElem? (i := 668) (by decide +kernel), List.mem_of_getElem? (i := 866) (by decide +kernel), List.mem_of_getElem? (i := 867) (by decide +kernel)⟩
theorem lw_p23 : lw_okq (⟨"KeyPlanModel", "ahead", "(I)I"⟩, 36) := ⟨⟨by decide +kernel, by decide +kernel⟩, List.mem_of_getElem? (i := 668) (by decide +kernel), List.mem_of_getElem? (i := 871) (by decide +kernel), List.mem_of_getElem? (i := 872) (by decide +kernel)⟩
theorem lw_p24 : lw_okq (⟨"KeyPlanModel", "goes", "(I)V"⟩, 36) := ⟨⟨by decide +kernel, by decide +kernel⟩, List.mem_of_getElem? (i := 668) (by decide +kernel), List.mem_of_getElem? (i := 875) (by decide +kernel), List.mem_of_getElem? (i := 876) (by decide +kernel)⟩
theorem lw_p25 : lw_okq (⟨"KeyPlanModel", "leads", "(Z)Z"⟩, 36) := ⟨⟨by decide +kernel, by decide +kernel⟩, List.mem_of_getElem? (i := 668) (by decide +kernel), List.mem_of_getElem? (i := 884) (by decide +kernel), List.mem_of_getElem? (i := 885) (by decide +kernel)⟩
theorem lw_p26 : lw_okq (⟨"KeyPlanModel", "assigns", "()Z"⟩, 36) := ⟨⟨by decide +kernel, by decide +kernel⟩, List.mem_of_getElem? (i := 668) (by decide +kernel), List.mem_of_getElem? (i := 927) (by decide +kernel), List.mem_of_getElem? (i := 928) (by decide +kernel)⟩
theorem lw_p27 : lw_okq (⟨"KeyPlanModel", "gives", "(II)V"⟩, 36) := ⟨⟨by decide +kernel, by decide +kernel⟩, List.mem_of_getElem? (i := 668) (by decide +kernel), List.mem_of_getElem? (i := 931) (by decide +kernel), List.mem_of_getElem? (i := 932) (by decide +kernel)⟩
theorem lw_p28 : lw_okq (⟨"KeyPlanModel", "meet", "(II)Z"⟩, 36) := ⟨⟨by decide +kernel, by decide +kernel⟩, List.mem_of_getElem? (i := 668) (by decide +kernel), List.mem_of_getElem? (i := 935) (by decide +kernel), List.mem_of_getElem? (i := 936) (by decide +kernel)⟩
theorem lw_p29 : lw_okq (⟨"KeyPlanModel", "stands", "(II)Z"⟩, 36) := ⟨⟨by decide +kernel, by decide +kernel⟩, List.mem_of_getElem? (i := 668) (by decide +kernel), List.mem_of_getElem? (i := 939) (by decide +kernel), List.mem_of_getElem? (i := 940) (by decide +kernel)⟩
theorem lw_p30 : lw_okq (⟨"KeyPlanModel", "breaks", "(II)Z"⟩, 36) := ⟨⟨by decide +kernel, by decide +kernel⟩, List.mem_of_getElem? (i := 668) (by decide +kernel), List.mem_of_getElem? (i := 943) (by decide +kernel), List.mem_of_getElem? (i := 944) (by decide +kernel)⟩
theorem lw_p31 : lw_okq (⟨"KeyPlanModel", "nextChange", "(II)Z"⟩, 36) := ⟨⟨by decide +kernel, by decide +kernel⟩, List.mem_of_getElem? (i := 668) (by decide +kernel), List.mem_of_getElem? (i := 967) (by decide +kernel), List.mem_of_getElem? (i := 968) (by decide +kernel)⟩
def lw_privs_2 : List (MethodName × Nat) := [(⟨"KeyPlanModel", "entry", "(II)I"⟩, 36), (⟨"KeyPlanModel", "set", "(III)V"⟩, 36), (⟨"KeyPlanModel", "meaning", "(II)I"⟩, 36), (⟨"KeyPlanModel", "fightOf", "(III)I"⟩, 36), (⟨"KeyPlanModel", "findRows", "(I)V"⟩, 36), (⟨"KeyPlanModel", "settles", "(I)V"⟩, 36), (⟨"KeyPlanModel", "one", "(I)V"⟩, 36), (⟨"KeyPlanModel", "ahead", "(I)I"⟩, 36), (⟨"KeyPlanModel", "goes", "(I)V"⟩, 36), (⟨"KeyPlanModel", "leads", "(Z)Z"⟩, 36), (⟨"KeyPlanModel", "assigns", "()Z"⟩, 36), (⟨"KeyPlanModel", "gives", "(II)V"⟩, 36), (⟨"KeyPlanModel", "meet", "(II)Z"⟩, 36), (⟨"KeyPlanModel", "stands", "(II)Z"⟩, 36), (⟨"KeyPlanModel", "breaks", "(II)Z"⟩, 36), (⟨"KeyPlanModel", "nextChange", "(II)Z"⟩, 36)]
theorem lw_r2 : ∀ q ∈ lw_privs_2, lw_okq q := List.forall_mem_cons.mpr ⟨lw_p16, List.forall_mem_cons.mpr ⟨lw_p17, List.forall_mem_cons.mpr ⟨lw_p18, List.forall_mem_cons.mpr ⟨lw_p19, List.forall_mem_cons.mpr ⟨lw_p20, List.forall_mem_cons.mpr ⟨lw_p21, List.forall_mem_cons.mpr ⟨lw_p22, List.forall_mem_cons.mpr ⟨lw_p23, List.forall_mem_cons.mpr ⟨lw_p24, List.forall_mem_cons.mpr ⟨lw_p25, List.forall_mem_cons.mpr ⟨lw_p26, List.forall_mem_cons.mpr ⟨lw_p27, List.forall_mem_cons.mpr ⟨lw_p28, List.forall_mem_cons.mpr ⟨lw_p29, List.forall_mem_cons.mpr ⟨lw_p30, List.forall_mem_cons.mpr ⟨lw_p31, fun _ h => absurd h List.not_mem_nil⟩⟩⟩⟩⟩⟩⟩⟩⟩⟩⟩⟩⟩⟩⟩⟩
theorem lw_p32 : lw_okq (⟨"KeyPlanModel", "keptFor", "(II)I"⟩, 36) := ⟨⟨by decide +kernel, by decide +kernel⟩, List.mem_of_getElem? (i := 668) (by decide +kernel), List.mem_of_getElem? (i := 971) (by decide +kernel), List.mem_of_getElem? (i := 972) (by decide +kernel)⟩
theorem lw_p33 : lw_okq (⟨"KeyPlanModel", "changes", "()I"⟩, 36) := ⟨⟨by decide +kernel, by decide +kernel⟩, List.mem_of_getElem? (i := 668) (by decide +kernel), List.mem_of_getElem? (i := 979) (by decide +kernel), List.mem_of_getElem? (i := 980) (by decide +kernel)⟩
theorem lw_p34 : lw_okq (⟨"KeyPlanModel", "savedBy", "(I)I"⟩, 36) := ⟨⟨by decide +kernel, by decide +kernel⟩, List.mem_of_getElem? (i := 668) (by decide +kernel), List.mem_of_getElem? (i := 987) (by decide +kernel), List.mem_of_getElem? (i := 988) (by decide +kernel)⟩
def lw_privs_3 : List (MethodName × Nat) := [(⟨"KeyPlanModel", "keptFor", "(II)I"⟩, 36), (⟨"KeyPlanModel", "changes", "()I"⟩, 36), (⟨"KeyPlanModel", "savedBy", "(I)I"⟩, 36)]
theorem lw_r3 : ∀ q ∈ lw_privs_3, lw_okq q := List.forall_mem_cons.mpr ⟨lw_p32, List.forall_mem_cons.mpr ⟨lw_p33, List.forall_mem_cons.mpr ⟨lw_p34, fun _ h => absurd h List.not_mem_nil⟩⟩⟩
def lw_privs : List (MethodName × Nat) := lw_privs_1 ++ (lw_privs_2 ++ (lw_privs_3))
def lw_tbl : List Cond := k2_sels lw_privs ++ tables_1
theorem lw_privs_ok : ∀ q ∈ lw_privs, lw_okq q := by
  show ∀ q ∈ lw_privs_1 ++ (lw_privs_2 ++ (lw_privs_3)), lw_okq q
  exact List.forall_mem_append.mpr ⟨lw_r1, List.forall_mem_append.mpr ⟨lw_r2, lw_r3⟩⟩
-- ===== end of PART A; then your names; then what follows =====
def va_AOA (t : FieldType) (U : State) : Prop := (Cond.arrayOver (.array t)).before #[] U = true
theorem va_AOA.use {t : FieldType} {A : Array Value} {U : State} (h : va_AOA t U) : (Cond.arrayOver (.array t)).before A U = true := h
/-! ===== BEGIN words of one list among another's, by their places ===== -/
theorem goodIn_r {big : List Cond} (ws : List Cond) (ps : List Nat) (hp : ws = ps.filterMap (fun i => big[i]?)) (h : ws.all goodWord = true) : GoodIn big ws := by
  intro w hw
  have h1 := List.all_eq_true.mp h w hw
  rw [hp] at hw
  obtain ⟨i, -, hi⟩ := List.mem_filterMap.mp hw
  have hm : w ∈ big := by first | exact List.mem_of_getElem? hi | exact List.getElem?_mem hi
  exact ⟨hm, good_of_word h1⟩
theorem goodIn_app {big a b : List Cond} (ha : GoodIn big a) (hb : GoodIn big b) : GoodIn big (a ++ b) := fun w h => (List.mem_append.mp h).elim (ha w) (hb w)
theorem goodIn_ca {big a b : List Cond} {c : Cond} (ha : GoodIn big (c :: a)) (hb : GoodIn big b) : GoodIn big (c :: (a ++ b)) := fun w h => (List.mem_cons.mp h).elim (fun e => ha w (List.mem_cons.mpr (Or.inl e))) (fun h => (List.mem_append.mp h).elim (fun h => ha w (List.mem_cons.mpr (Or.inr h))) (hb w))
theorem goodIn_sub {big ws : List Cond} (hm : ∀ w ∈ ws, w ∈ big) (h : ws.all goodWord = true) : GoodIn big ws := fun w hw => ⟨hm w hw, good_of_word (List.all_eq_true.mp h w hw)⟩
/-! ===== END ===== -/

/-! ===== BEGIN new T[n][m]: the outer array a place, the inner ones among the pooled ===== -/
/-- f, but v at every address of l -/
def vr_up {α : Type} (f : Nat → α) (l : List Nat) (v : α) : Nat → α := fun a => if a ∈ l then v else f a
theorem vr_up_in {α : Type} {f : Nat → α} {l : List Nat} {v : α} {a : Nat} (h : a ∈ l) : vr_up f l v a = v := if_pos h
theorem vr_up_ne {α : Type} {f : Nat → α} {l : List Nat} {v : α} {a : Nat} (h : a ∉ l) : vr_up f l v a = f a := if_neg h
theorem vr_rows {L l : List Nat} {f : Nat → va_E} {e : va_E} (h : ∀ a, a ∈ l → a ∉ L) : va_pl L f ++ l.map (fun a => (a, e)) = va_pl (L ++ l) (vr_up f l e) := by
  unfold va_pl
  rw [List.map_append]
  congr 1
  · apply List.map_congr_left
    intro a ha
    rw [vr_up_ne (fun q => h a q ha)]
  · apply List.map_congr_left
    intro a ha
    rw [vr_up_in ha]
theorem vr_lay {X rows : va_W} {x : Nat × va_E} {pl : va_W} {D : va_G} {cl : List vw_C} {H : Heap} (hP : va_P D cl (((X ++ pl) ++ [x]) ++ rows) H) : va_P D cl ((X ++ [x]) ++ (pl ++ rows)) H := by
  rw [List.append_assoc (X ++ pl)] at hP
  have h := va_P.swap hP
  rw [← List.append_assoc X] at h
  have h2 := va_P.swap h
  rw [List.append_assoc (X ++ [x])] at h2
  exact h2
theorem vr_layD {X rows : va_W} {x : Nat × va_E} {pl : va_W} {A : Nat → Prop} (hD : va_D A (((X ++ pl) ++ [x]) ++ rows)) : va_D A ((X ++ [x]) ++ (pl ++ rows)) := by
  rw [List.append_assoc (X ++ pl)] at hD
  have h := va_D.swap hD
  rw [← List.append_assoc X] at h
  have h2 := va_D.swap h
  rw [List.append_assoc (X ++ [x])] at h2
  exact h2
theorem vr_outer (c : ClassId) (N h0 : Nat) : ∀ i : Nat, Jvm.Free.Multi.outerC c N h0 i = arrV c N (fun j => va_rf (if j < i then some (h0 + 1 + j) else none))
  | 0 => by
    show ({ cls := c, slots := Array.replicate N .null, vm := .none } : Cell) = _
    rw [arrV_new]
    refine congrArg (arrV c N) (funext fun j => ?_)
    simp [va_rf]
  | i + 1 => by
    show (Jvm.Free.Multi.outerC c N h0 i).setSlot i (.ref (h0 + 1 + i)) = _
    rw [vr_outer c N h0 i, arrV_store]
    refine congrArg (arrV c N) (funext fun j => ?_)
    by_cases e : j = i
    · subst e
      simp [updV, va_rf]
    · by_cases h : j < i
      · simp [updV, e, h, Nat.lt_succ_of_lt h]
      · simp [updV, e, h, show ¬ j < i + 1 by omega]
section VGM
variable {p : Program} {l : Launch} {e : Env} {R : Room} {s : State} {m : MethodId} {args : Array Value} {below : List Frame} {meth : Method} {c : Code} {H : Heap} {locs : List Loc} {cells slots : Nat} {Q : State → Prop}
variable {cc : ByteArray} {pc : Nat} {ls : Array Slot} {rest : List Value} {D : va_G} {cl : List vw_C} {A : Nat → Prop} {a : Nat} {tys : List (ClassId × FieldType)} {ws : va_W} {H0 : Heap}
theorem va_mna {X : va_W} {L : List Nat} {f : Nat → va_E} {cc : ByteArray} (hexec : p.tables.exec = Jvm.exec) (hb : c.code = cc) {own : String} {index : Nat} {ty : FieldType} {cy : ClassId} (hown : s.vm.findClass own = some m.cls) (hclink : (Cond.classLink own index ("[" ++ (FieldType.array ty).toString)).before args s = true) (hover : va_AOA ty s) (harr : (Cond.arrayClass ty).before args s = true) (hcy : s.vm.findClass (FieldType.array ty).toString = some cy)
    (hK : va_K D cl tys s) (hP : va_P D cl (X ++ va_pl L f) H) (hD : va_D A (X ++ va_pl L f)) (hS : va_S A H0 H locs) (hA : ∀ q, H0.size ≤ q → A q) {n k : Int32} {N' K' : Nat} {z : vp_A} (hn : ¬ n < 0) (hk : ¬ k < 0) (hN : n.toNatClampNeg = N') (hM : k.toNatClampNeg = K')
    (hb1 : N' * 4 ≤ 536870912) (hb2 : K' * componentBytes ty ≤ 536870912) (hb3 : K' ≤ 536870912) (hdf : fits ty (defaultValue ty) = true) (hdd : (defaultValue ty).isDefault = true) (hcells : cells + (1 + N') ≤ R.cells) (hslots : slots + (N' + N' * K') ≤ R.slots) (hz : ∀ c : ClassId, Jvm.Free.Multi.innerC c K' (defaultValue ty) = vp_cell c z) (hdg : decode cc pc = .ok (.multianewarray index 2, 4))
    (kk : ∀ (q : Nat) (r : Nat → Nat) (cA : ClassId) (H1 : Heap), (∀ i j : Nat, i < N' → j < N' → r i = r j → i = j) → (∀ i : Nat, i < N' → r i ∉ L) → va_K D cl (tys ++ [(cA, .array ty)]) s →
      va_P D cl ((X ++ [(q, .inl (cA, N', .inr (.inr (.inr (.inr (fun i => if i < N' then some (r i) else none))))))]) ++ va_pl (L ++ (List.range N').map r) (vr_up f ((List.range N').map r) (.inl (cy, z)))) H1 → va_D A ((X ++ [(q, .inl (cA, N', .inr (.inr (.inr (.inr (fun i => if i < N' then some (r i) else none))))))]) ++ va_pl (L ++ (List.range N').map r) (vr_up f ((List.range N').map r) (.inl (cy, z)))) → va_S A H0 H1 locs →
      W p l e R s m args below meth c H1 locs (cells + 1 + N') (slots + N' + N' * K') Q (F0 m (pc + 4) ls (.ref q :: rest))) : W p l e R s m args below meth c H locs cells slots Q (F0 m pc ls (.int k :: .int n :: rest)) := by
  subst hN
  subst hM
  intro T hT Xs
  obtain ⟨vm₁, cA, comp, -, fA, fC, hO, -, X', step⟩ := Xs.multianewarray2F hexec hown hclink (va_AOA.use hover) harr (g := F0 m pc ls (.int k :: .int n :: rest)) rfl (by rw [hb]; exact hdg) rfl hn hk hb1 hb2 hb3 hdf hdd hcells hslots
  have ec : some cy = some comp := hcy.symm.trans fC
  cases ec
  generalize hF : Jvm.Free.Multi.fill (T.setVm vm₁) cA cy n.toNatClampNeg k.toNatClampNeg (defaultValue ty) n.toNatClampNeg = F at X' step
  have hTh : (T.setVm vm₁).heap = H := hT
  obtain ⟨f1, f2, -, -⟩ := Jvm.Free.Multi.fill_facts (T.setVm vm₁) cA cy n.toNatClampNeg k.toNatClampNeg (defaultValue ty) n.toNatClampNeg
  rw [hF, hTh] at f1 f2
  have hold : ∀ x : Nat, x < H.size → F.heap[x]? = H[x]? := fun x hx => by
    have := Jvm.Free.Multi.fill_old (T.setVm vm₁) cA cy n.toNatClampNeg k.toNatClampNeg (defaultValue ty) (a := x) (by rw [hTh]; exact hx) n.toNatClampNeg
    rw [hF, hTh] at this
    exact this
  have hrow : ∀ j : Nat, j < n.toNatClampNeg → F.heap[H.size + 1 + j]? = some (vp_cell cy z) := fun j hj => by
    have := Jvm.Free.Multi.fill_inner (T.setVm vm₁) cA cy n.toNatClampNeg k.toNatClampNeg (defaultValue ty) n.toNatClampNeg j hj
    rw [hF, hTh, hz] at this
    exact this
  have hout : Jvm.Free.Multi.outerC cA n.toNatClampNeg H.size n.toNatClampNeg = vp_cell cA (n.toNatClampNeg, .inr (.inr (.inr (.inr (fun i => if i < n.toNatClampNeg then some (H.size + 1 + i) else none))))) := by
    rw [vp_cell_q]
    exact vr_outer cA n.toNatClampNeg H.size n.toNatClampNeg
  rw [hout] at f2
  have hlt : ∀ a, a ∈ L → a < H.size := fun a ha => by
    obtain ⟨k9, hk9⟩ := va_pl_get (X := X) (f := f) ha
    exact (hP k9 _ hk9).lt
  have hnl : ∀ i : Nat, i < n.toNatClampNeg → H.size + 1 + i ∉ L := fun i _ h => by
    have := hlt _ h
    omega
  have hnm : ∀ a, a ∈ (List.range n.toNatClampNeg).map (fun i => H.size + 1 + i) → a ∉ L := fun a ha h => by
    obtain ⟨i, -, rfl⟩ := List.mem_map.mp ha
    have := hlt _ h
    omega
  have hP0 : va_P D cl (X ++ va_pl L f) F.heap := hP.kept (fun k9 x hx => hold x.1 ((hP k9 x hx).lt))
  have hP1 : va_P D cl ((X ++ va_pl L f) ++ [(H.size, .inl (cA, n.toNatClampNeg, .inr (.inr (.inr (.inr (fun i => if i < n.toNatClampNeg then some (H.size + 1 + i) else none))))))]) F.heap := hP0.app (fun k9 x hx => by
    have h0 : k9 < 1 := (List.getElem?_eq_some_iff.mp hx).1
    rw [show k9 = 0 by omega] at hx
    cases hx
    exact f2)
  have hP2 : va_P D cl (((X ++ va_pl L f) ++ [(H.size, .inl (cA, n.toNatClampNeg, .inr (.inr (.inr (.inr (fun i => if i < n.toNatClampNeg then some (H.size + 1 + i) else none))))))]) ++ ((List.range n.toNatClampNeg).map (fun i => H.size + 1 + i)).map (fun a => (a, .inl (cy, z)))) F.heap := hP1.app (fun k9 x hx => by
    obtain ⟨a, ha, rfl⟩ := List.mem_map.mp (List.mem_of_getElem? hx)
    obtain ⟨i, hi, rfl⟩ := List.mem_map.mp ha
    exact hrow i (List.mem_range.mp hi))
  have hD2 : va_D A (((X ++ va_pl L f) ++ [(H.size, .inl (cA, n.toNatClampNeg, .inr (.inr (.inr (.inr (fun i => if i < n.toNatClampNeg then some (H.size + 1 + i) else none))))))]) ++ ((List.range n.toNatClampNeg).map (fun i => H.size + 1 + i)).map (fun a => (a, .inl (cy, z)))) := by
    have hD1 := hD.push (e := .inl (cA, n.toNatClampNeg, .inr (.inr (.inr (.inr (fun i => if i < n.toNatClampNeg then some (H.size + 1 + i) else none)))))) hP rfl (hA _ hS.1)
    generalize hW1 : (X ++ va_pl L f) ++ [(H.size, .inl (cA, n.toNatClampNeg, .inr (.inr (.inr (.inr (fun i => if i < n.toNatClampNeg then some (H.size + 1 + i) else none))))))] = W1 at hD1 hP1 ⊢
    have hle : ∀ (k9 : Nat) (x : Nat × va_E), W1[k9]? = some x → x.1 ≤ H.size := fun k9 x hx => by
      rw [← hW1] at hx
      by_cases hl : k9 < (X ++ va_pl L f).length
      · rw [List.getElem?_append_left hl] at hx
        exact Nat.le_of_lt ((hP k9 x hx).lt)
      · rw [List.getElem?_append_right (by omega)] at hx
        have h0 : k9 - (X ++ va_pl L f).length < 1 := (List.getElem?_eq_some_iff.mp hx).1
        rw [show k9 - (X ++ va_pl L f).length = 0 by omega] at hx
        cases hx
        exact Nat.le_refl _
    have hr : ∀ (k9 : Nat) (x : Nat × va_E), (((List.range n.toNatClampNeg).map (fun i => H.size + 1 + i)).map (fun a => ((a, .inl (cy, z)) : Nat × va_E)))[k9]? = some x → x.1 = H.size + 1 + k9 := fun k9 x hx => by
      rw [List.getElem?_map, List.getElem?_map] at hx
      by_cases h9 : k9 < n.toNatClampNeg
      · rw [List.getElem?_range h9] at hx
        cases hx
        rfl
      · have hn0 : (List.range n.toNatClampNeg)[k9]? = none := List.getElem?_eq_none (by rw [List.length_range]; omega)
        rw [hn0] at hx
        cases hx
    refine ⟨fun i j x y hi hj hxy => ?_, fun k9 x hx => ?_⟩
    · by_cases h1 : i < W1.length <;> by_cases h2 : j < W1.length
      · rw [List.getElem?_append_left h1] at hi
        rw [List.getElem?_append_left h2] at hj
        exact hD1.1 i j x y hi hj hxy
      · rw [List.getElem?_append_left h1] at hi
        rw [List.getElem?_append_right (by omega)] at hj
        have := hle _ _ hi
        have := hr _ _ hj
        omega
      · rw [List.getElem?_append_right (by omega)] at hi
        rw [List.getElem?_append_left h2] at hj
        have := hle _ _ hj
        have := hr _ _ hi
        omega
      · rw [List.getElem?_append_right (by omega)] at hi hj
        have := hr _ _ hi
        have := hr _ _ hj
        omega
    · by_cases h1 : k9 < W1.length
      · rw [List.getElem?_append_left h1] at hx
        exact hD1.2 k9 x hx
      · rw [List.getElem?_append_right (by omega)] at hx
        have := hr _ _ hx
        exact hA _ (by have := hS.1; omega)
  have hAr : ArrOfT s cA (.array ty) := fun N9 z9 => by
    obtain ⟨-, k9, hk9, cm9, hkk9⟩ := (hO 0 0 0).1
    exact ⟨(fun q hq => by cases hq), k9, hk9, cm9, hkk9⟩
  have hK2 : va_K D cl (tys ++ [(cA, .array ty)]) s := ⟨hK.1, fun k9 x hx => by
    by_cases hl : k9 < tys.length
    · rw [List.getElem?_append_left hl] at hx
      exact hK.2 k9 x hx
    · rw [List.getElem?_append_right (by omega)] at hx
      have h0 : k9 - tys.length < 1 := (List.getElem?_eq_some_iff.mp hx).1
      rw [show k9 - tys.length = 0 by omega] at hx
      cases hx
      exact ⟨hAr, fA⟩⟩
  obtain ⟨t, a1, b1⟩ := kk H.size (fun i => H.size + 1 + i) cA F.heap (fun i j _ _ h => by have h9 : H.size + 1 + i = H.size + 1 + j := h; omega) hnl hK2 (by rw [← vr_rows hnm]; exact vr_lay hP2) (by rw [← vr_rows hnm]; exact vr_layD hD2) ⟨by rw [f1]; have := hS.1; omega, fun x h1 h2 => (hold x (Nat.lt_of_lt_of_le h1 hS.1)).trans (hS.2.1 x h1 h2), hS.2.2⟩ F rfl X'
  refine ⟨t, step t ?_, b1⟩
  have e : T.heap.size = H.size := by rw [hT]
  rw [e]
  exact a1
end VGM
/-! ===== END ===== -/

/-! ===== BEGIN exceptions that leave a method, and their catching by the caller (launches without stack traces) ===== -/
section VXA
/-! The laws vx_back, vx_callV, vx_callS, vx_callSW, vx_throw0, vx_throwS follow proofs of the library, with one case more: JvmDerived/Free/Laws.lean (Back.of_free), Shelf42/LK1.lean (callV, callS), Shelf/KitTraced.lean (throwNew0V, throwNewS). -/
/-- where a method has thrown q: the class by its name, the cell, what was written, the world -/
def vx_T (XC : String → State → State → Prop) (st : State) (q : Addr) (t : State) (mc ms : Nat) (free : Addr → Prop) : Prop :=
  ∃ (E : String) (ce : Cell) (L : List Loc), XC E st t ∧ t.heap[q]? = some ce ∧ ce.vm = .none ∧ st.vm.findClass E = some ce.cls ∧ st.WarmedH t.vm ∧ st.sameButNew ({ t with vm := st.vm } : State) L mc ms ∧ ∀ z ∈ L, free z.base
def vx_Q (Qc : Array Value → State → Outcome → State → Prop) (XC : String → State → State → Prop) (mc ms : Nat) (free : Addr → Prop) : Array Value → State → Outcome → State → Prop := fun a st o t =>
  (Qc a st o t ∧ ∃ L, FrameEnd st o t L mc ms ∧ ∀ q ∈ L, free q.base) ∨ ∃ q, o = .threw q ∧ vx_T XC st q t mc ms free
/-- a callee that returns or throws -/
def vx_Met (l : Launch) (y : MethodName) (ws : List Cond) (rm : Room) (Pc : Array Value → State → Prop) (Qc : Array Value → State → Outcome → State → Prop) (XC : String → State → State → Prop) (mc ms : Nat) (free : Addr → Prop) : Prop :=
  MetFree l y (headSpec ws rm) Pc (fun _ _ _ _ _ => True) (vx_Q Qc XC mc ms free)
def vx_Post (XC : String → State → State → Prop) (mc ms : Nat) (free : Addr → Prop) : Pt → Array Value → Addr → Pt → Prop := fun A a q B =>
  ∃ (g : JFrame) (mk : MethodId) (t : State) (L : List Loc) (E : String) (ce : Cell), B.U.heap = t.heap ∧ B.U.vm = t.vm ∧ XC E (A.U.calling g mk a) t ∧ t.heap[q]? = some ce ∧ ce.vm = .none ∧ A.U.vm.findClass E = some ce.cls ∧ B.locs = A.locs ++ L ∧ (∀ z ∈ L, free z.base) ∧ B.cells = A.cells + mc ∧ B.slots = A.slots + ms
def vx_Back (l : Launch) (R : Room) (p : Program) (e : Env) (below : List Frame) (s : State) (sargs : Array Value) (y : MethodName) (len W9 : Nat)
    (Pre : Pt → Array Value → Prop) (Post : Pt → Array Value → Option Value → Pt → Prop) (PostX : Pt → Array Value → Addr → Pt → Prop) : Prop :=
  ∀ (m : MethodId) (meth : Method) (c : Code) (A : Pt) (g : JFrame) (ig : Instr) (mk : MethodId) (a : Array Value),
    Stand p l e R s m sargs below meth c A.U A.locs A.cells A.slots → g.method = m → g.locals.size = c.maxLocals → decode c.code g.pc = .ok (ig, len) →
    2 * g.monitorRoom + (g.stack.map fun v => v.category).sum ≤ W9 → A.U.methodNamed? y = some mk → Pre A a →
    (∃ (v : Option Value) (B : Pt), Stand p l e R s m sargs below meth c B.U B.locs B.cells B.slots ∧ Post A a v B ∧
      Steps p.tables e below (doInvoke e (A.U.setTop g) [] mk a).1 (B.U.setTop { g with pc := g.pc + len, stack := v.toList ++ g.stack })) ∨
    (∃ (q : Addr) (B : Pt), Stand p l e R s m sargs below meth c B.U B.locs B.cells B.slots ∧ PostX A a q B ∧
      Steps p.tables e below (doInvoke e (A.U.setTop g) [] mk a).1 ((B.U.setTop g).pushFrame (.throwing q)))
section Payer
variable {l : Launch} {R : Room} {p : Program} {e : Env} {below : List Frame} {s : State} {sargs : Array Value} {y : MethodName} {len W9 : Nat}
theorem vx_back {ws : List Cond} {rm : Room} {Pc : Array Value → State → Prop} {Qc : Array Value → State → Outcome → State → Prop} {XC : String → State → State → Prop} {mc ms : Nat} {free : Addr → Prop} {bytes : ByteArray} {maxL : Nat} {ret : Option FieldType}
    (hM : vx_Met l y ws rm Pc Qc XC mc ms free) (hblind : FrameBlind Pc) (hrc : rm.cells = mc) (hrs : rm.slots = ms)
    (hframes : rm.frames + 1 ≤ R.frames) (hlocals : W9 + (maxL + 11) + rm.locals ≤ R.locals)
    (hws : ∀ w ∈ ws, ∀ a' U, s.WarmedH U.vm → w.before a' U = true) (hcode : Cond.code y bytes maxL ret ∈ ws) (hinit : ∀ a' U, s.WarmedH U.vm → (Cond.initialized y.cls).before a' U = true) :
    vx_Back l R p e below s sargs y len W9 (PreOf R mc ms Pc) (PostOf Qc mc ms free) (vx_Post XC mc ms free) := by
  intro m meth c A g ig mk a X hg hsize hdg hW hn hp
  have h1 : (headSpec ws rm).pre.before a A.U = true := atoms_intro fun w hw => hws w hw _ _ X.warmed
  have h2 : (Cond.code y bytes maxL ret).before a A.U = true := hws _ hcode _ _ X.warmed
  have h3 : (Cond.initialized y.cls).before a A.U = true := hinit _ _ X.warmed
  have h4 : A.cells + (headSpec ws rm).room.cells ≤ R.cells := by rw [show (headSpec ws rm).room.cells = mc from hrc]; exact hp.1
  have h5 : A.slots + (headSpec ws rm).room.slots ≤ R.slots := by rw [show (headSpec ws rm).room.slots = ms from hrs]; exact hp.2.1
  have hPc : Pc a (A.U.calling g mk a) := hblind _ _ _ _ hp.2.2
  obtain ⟨U, Ls, c0, s0⟩ := A
  dsimp only [Pt.U, Pt.locs, Pt.cells, Pt.slots] at h1 h2 h3 h4 h5 X hn hPc ⊢
  obtain ⟨methY, cY, hmY, hcY, -, hlY, -, -, -, -⟩ := Cond.code_spec hn h2
  obtain ⟨kY, hkY, -⟩ := className_of_methodNamed hn
  have hinitY : kY.init = .initialized := Cond.initialized_spec (findClass_of_methodNamed hn) hkY h3
  have h : At U g.method c below := by rw [hg]; exact X.here
  have hlocals9 : W9 + (maxL + 11) + (headSpec ws rm).room.locals ≤ R.locals := hlocals
  have happ : (headSpec ws rm).appliesLoose y e.platform (U.calling g mk a) = true :=
    Spec.appliesLoose_calling (g := g) h hdg hn hkY hinitY
      (X.room_calling (g := g) (R' := (headSpec ws rm).room) hsize hmY hcY hframes (by rw [hlY]; omega) h4 h5) h1
  obtain ⟨mid, hmid⟩ := h.above
  have hfr : (U.setTop g).frames = (.java g :: mid) ++ below := by rw [State.frames_setTop' g h.top, hmid]; rfl
  obtain ⟨o, s₂, hsteps, -, hend, hq⟩ := Steps.callFree hM p X.admits X.cas X.clock (acts := []) hfr happ hPc trivial
  have hq' : vx_Q Qc XC mc ms free a (U.calling g mk a) o s₂ := hq
  rw [State.frames_setTop' g h.top] at hend
  obtain ⟨g₀, hg0⟩ := Option.isSome_iff_exists.mp h.top
  obtain ⟨r, hr⟩ := State.topJava?_eq_some.mp hg0
  have hr' : (({ U with heap := s₂.heap, slotsUsed := s₂.slotsUsed } : State).setVm s₂.vm).frames = .java g₀ :: r := hr
  rcases hq' with ⟨hqc, L, hfe, hL⟩ | ⟨q, rfl, E, ce, L, hx, hce, hcv, hcl, hW₂, hsm, hL⟩
  · obtain ⟨⟨v, rfl⟩, hW₂, e2, q2, q3, q4, q5, q6⟩ := id hfe
    have e3 : s₂ = ({ (U.calling g mk a).setFrames s₂.frames with heap := s₂.heap, slotsUsed := s₂.slotsUsed } : State).setVm s₂.vm := by
      have : s₂ = ({ s₂ with vm := (U.calling g mk a).vm } : State).setVm s₂.vm := rfl
      rw [e2] at this
      exact this
    obtain ⟨c₂, i₂, len₂, hc₂, hd₂, hf₂⟩ := hend
    have hW' : U.WarmedH s₂.vm := hW₂
    have hcc : c₂ = c := by
      have h1 : s₂.code? g.method = U.code? g.method := by
        rw [State.code?_eq, State.code?_eq, hW'.alike.method?]
      exact Option.some.inj (hc₂.symm.trans (h1.trans h.code))
    subst hcc
    have hlen : len₂ = len := by rw [hdg] at hd₂; cases hd₂; rfl
    subst hlen
    have hs₂ : s₂ = (({ U with heap := s₂.heap, slotsUsed := s₂.slotsUsed } : State).setVm s₂.vm).setTop { g with pc := g.pc + len₂, stack := v.toList ++ g.stack } := by
      refine e3.trans ?_
      rw [hf₂, State.calling_eq h.top, State.setFrames_setFrames, State.setTop_of_frames _ hr', hr]
      rfl
    have hsame : U.sameButNew ({ U with heap := s₂.heap, slotsUsed := s₂.slotsUsed } : State) L mc ms := by
      refine ⟨?_, q2, q3, q4, q5, q6⟩
      obtain ⟨t, ht, -⟩ := State.frames_cons hr
      show ({ U with heap := s₂.heap, slotsUsed := s₂.slotsUsed } : State) = { U.setFrames U.frames with heap := s₂.heap, slotsUsed := s₂.slotsUsed }
      rw [State.setFrames_self ht]
    subst hg
    refine Or.inl ⟨v, ⟨(({ U with heap := s₂.heap, slotsUsed := s₂.slotsUsed } : State).setVm s₂.vm), Ls ++ L, c0 + mc, s0 + ms⟩,
      ⟨X.admits, X.cas, X.clock, X.frames, X.room, X.hears, X.method, X.code, (X.here.setHeapUsed s₂.heap s₂.slotsUsed).setVm hW'.alike, X.tail, State.WarmedH.trans X.warmed hW', X.limits, X.bytes, X.same.trans (hsame.setVm s.vm)⟩,
      ⟨g, mk, s₂, L, rfl, rfl, hqc, rfl, hL, rfl, rfl⟩, ?_⟩
    show Steps p.tables e below _ ((({ U with heap := s₂.heap, slotsUsed := s₂.slotsUsed } : State).setVm s₂.vm).setTop { g with pc := g.pc + len₂, stack := v.toList ++ g.stack })
    rw [← hs₂]
    exact hsteps
  · obtain ⟨e2, q2, q3, q4, q5, q6⟩ := id hsm
    have e3 : s₂ = ({ (U.calling g mk a).setFrames s₂.frames with heap := s₂.heap, slotsUsed := s₂.slotsUsed } : State).setVm s₂.vm := by
      have : s₂ = ({ s₂ with vm := (U.calling g mk a).vm } : State).setVm s₂.vm := rfl
      rw [e2] at this
      exact this
    have hf₂ : s₂.frames = .throwing q :: .java g :: U.frames.tail := hend
    have hW' : U.WarmedH s₂.vm := hW₂
    have hs₂ : s₂ = ((({ U with heap := s₂.heap, slotsUsed := s₂.slotsUsed } : State).setVm s₂.vm).setTop g).pushFrame (.throwing q) := by
      refine e3.trans ?_
      rw [hf₂, State.calling_eq h.top, State.setFrames_setFrames, State.pushFrame, State.frames_setTop _ hr', State.setTop_of_frames _ hr', State.setFrames_setFrames, hr]
      rfl
    have hsame : U.sameButNew ({ U with heap := s₂.heap, slotsUsed := s₂.slotsUsed } : State) L mc ms := by
      refine ⟨?_, q2, q3, q4, q5, q6⟩
      obtain ⟨t, ht, -⟩ := State.frames_cons hr
      show ({ U with heap := s₂.heap, slotsUsed := s₂.slotsUsed } : State) = { U.setFrames U.frames with heap := s₂.heap, slotsUsed := s₂.slotsUsed }
      rw [State.setFrames_self ht]
    subst hg
    refine Or.inr ⟨q, ⟨(({ U with heap := s₂.heap, slotsUsed := s₂.slotsUsed } : State).setVm s₂.vm), Ls ++ L, c0 + mc, s0 + ms⟩,
      ⟨X.admits, X.cas, X.clock, X.frames, X.room, X.hears, X.method, X.code, (X.here.setHeapUsed s₂.heap s₂.slotsUsed).setVm hW'.alike, X.tail, State.WarmedH.trans X.warmed hW', X.limits, X.bytes, X.same.trans (hsame.setVm s.vm)⟩,
      ⟨g, mk, s₂, L, E, ce, rfl, rfl, hx, hce, hcv, hcl, rfl, hL, rfl, rfl⟩, ?_⟩
    show Steps p.tables e below _ (((({ U with heap := s₂.heap, slotsUsed := s₂.slotsUsed } : State).setVm s₂.vm).setTop g).pushFrame (.throwing q))
    rw [← hs₂]
    exact hsteps
end Payer
section Calls
variable {p : Program} {l : Launch} {e : Env} {R : Room} {s : State} {m : MethodId} {args : Array Value} {below : List Frame} {meth : Method} {c : Code} {T : State} {locs : List Loc} {cells slots : Nat}
theorem vx_callV (X : Stand p l e R s m args below meth c T locs cells slots) (hexec : p.tables.exec = Jvm.exec) {own C : String} {index : Nat} {y : MethodName} {bytes : ByteArray} {maxL : Nat} {ret : Option FieldType}
    (hown : s.vm.findClass own = some m.cls) (hlink : (Cond.methodLink own index y).before args s = true) (hinst : (Cond.instanceMethod y).before args s = true) (hsel : (Cond.selects C y y).before args s = true)
    (hcode : (Cond.code y bytes maxL ret).before args s = true) (hy : y.cls ≠ "java/lang/invoke/MethodHandle" ∧ y.cls ≠ "java/lang/invoke/VarHandle")
    {W9 : Nat} {Pre : Pt → Array Value → Prop} {Post : Pt → Array Value → Option Value → Pt → Prop} {PostX : Pt → Array Value → Addr → Pt → Prop} (hK : vx_Back l R p e below s args y 3 W9 Pre Post PostX)
    {b : Addr} {cellB : Cell} (hcell : T.heap[b]? = some cellB) (hobj : cellB.vm.isStatics = false) (hcls : s.vm.findClass C = some cellB.cls)
    {g : JFrame} (hg : g.method = m) (hsize : g.locals.size = c.maxLocals) {argsL rest : List Value} (hlen : ∀ sig, parseMethodDescriptor y.desc = some sig → argsL.length = sig.parameters.length)
    (hstack : g.stack = argsL.reverse ++ .ref b :: rest) (hW : 2 * g.monitorRoom + (rest.map fun v => v.category).sum ≤ W9) (hdg : decode c.code g.pc = .ok (.invokevirtual index, 3))
    (hpre : ∀ vm₁, s.WarmedH vm₁ → Pre ⟨T.setVm vm₁, locs, cells, slots⟩ (Value.ref b :: argsL).toArray) :
    (∃ (v : Option Value) (vm₁ : Vm) (B : Pt), s.WarmedH vm₁ ∧ Stand p l e R s m args below meth c B.U B.locs B.cells B.slots ∧ Post ⟨T.setVm vm₁, locs, cells, slots⟩ (Value.ref b :: argsL).toArray v B ∧
      ∀ target, Steps p.tables e below (B.U.setTop { g with pc := g.pc + 3, stack := v.toList ++ rest }) target → Steps p.tables e below (T.setTop g) target) ∨
    (∃ (q : Addr) (vm₁ : Vm) (B : Pt), s.WarmedH vm₁ ∧ Stand p l e R s m args below meth c B.U B.locs B.cells B.slots ∧ PostX ⟨T.setVm vm₁, locs, cells, slots⟩ (Value.ref b :: argsL).toArray q B ∧
      Steps p.tables e below (T.setTop g) ((B.U.setTop { g with stack := rest }).pushFrame (.throwing q))) := by
  obtain ⟨mk, methM, hnamed, hmethM, hstM, habM⟩ := Cond.instanceMethod_spec hinst
  obtain ⟨methM', cM, hmethM', -, -, -, -, -, -, hsigM⟩ := Cond.code_spec hnamed hcode
  cases hmethM.symm.trans hmethM'
  obtain ⟨c2, r2, m2, q1, q2, q3, q4, kP, hkP, hkPi⟩ := Cond.selects_spec hsel
  cases hcls.symm.trans q1
  cases (State.methodFound?_of_named hnamed hy).symm.trans q2
  cases hnamed.symm.trans q3
  have hselP : selectMethod e.platform s.vm cellB.cls mk = .method mk := by rw [Launch.admits_selectMethod X.admits]; exact q4
  obtain ⟨vm₁, X₁, hstep₁⟩ := X.invokevirtual hexec hown hlink hnamed hmethM hstM hkP hkPi hy (a := b) (cell := cellB) hcell
    (fun z h => by rw [h] at hobj; cases hobj) hselP hmethM habM hkP hkPi (g := g) hg (argsL := argsL) (rest := rest) (hlen _ hsigM) hstack hdg
  rcases hK m meth c ⟨T.setVm vm₁, locs, cells, slots⟩ { g with stack := rest } (.invokevirtual index) mk (Value.ref b :: argsL).toArray X₁ hg hsize hdg hW (X₁.named hnamed) (hpre vm₁ X₁.warmed) with ⟨v, B, X', hpost, hsteps⟩ | ⟨q, B, X', hpost, hsteps⟩
  · exact Or.inl ⟨v, vm₁, B, X₁.warmed, X', hpost, fun target h => hstep₁ _ fun acts => by rw [doInvoke_state]; exact hsteps.trans h⟩
  · exact Or.inr ⟨q, vm₁, B, X₁.warmed, X', hpost, hstep₁ _ fun acts => by rw [doInvoke_state]; exact hsteps⟩
theorem vx_callS (X : Stand p l e R s m args below meth c T locs cells slots) (hexec : p.tables.exec = Jvm.exec) {own : String} {index : Nat} {y : MethodName} {bytes : ByteArray} {maxL : Nat} {ret : Option FieldType}
    (hown : s.vm.findClass own = some m.cls) (hlink : (Cond.methodLink own index y).before args s = true) (hstat : (Cond.static y).before args s = true) (hinit : (Cond.initialized y.cls).before args s = true)
    (hcode : (Cond.code y bytes maxL ret).before args s = true) (hy : y.cls ≠ "java/lang/invoke/MethodHandle" ∧ y.cls ≠ "java/lang/invoke/VarHandle")
    {W9 : Nat} {Pre : Pt → Array Value → Prop} {Post : Pt → Array Value → Option Value → Pt → Prop} {PostX : Pt → Array Value → Addr → Pt → Prop} (hK : vx_Back l R p e below s args y 3 W9 Pre Post PostX)
    {g : JFrame} (hg : g.method = m) (hsize : g.locals.size = c.maxLocals) {argsL rest : List Value} (hlen : ∀ sig, parseMethodDescriptor y.desc = some sig → argsL.length = sig.parameters.length)
    (hstack : g.stack = argsL.reverse ++ rest) (hW : 2 * g.monitorRoom + (rest.map fun v => v.category).sum ≤ W9) (hdg : decode c.code g.pc = .ok (.invokestatic index, 3))
    (hpre : ∀ vm₁, s.WarmedH vm₁ → Pre ⟨T.setVm vm₁, locs, cells, slots⟩ argsL.toArray) :
    (∃ (v : Option Value) (vm₁ : Vm) (B : Pt), s.WarmedH vm₁ ∧ Stand p l e R s m args below meth c B.U B.locs B.cells B.slots ∧ Post ⟨T.setVm vm₁, locs, cells, slots⟩ argsL.toArray v B ∧
      ∀ target, Steps p.tables e below (B.U.setTop { g with pc := g.pc + 3, stack := v.toList ++ rest }) target → Steps p.tables e below (T.setTop g) target) ∨
    (∃ (q : Addr) (vm₁ : Vm) (B : Pt), s.WarmedH vm₁ ∧ Stand p l e R s m args below meth c B.U B.locs B.cells B.slots ∧ PostX ⟨T.setVm vm₁, locs, cells, slots⟩ argsL.toArray q B ∧
      Steps p.tables e below (T.setTop g) ((B.U.setTop { g with stack := rest }).pushFrame (.throwing q))) := by
  obtain ⟨mk, hnamed⟩ := Cond.code_named hcode
  obtain ⟨methM, cM, hmethM, -, -, -, -, -, -, hsigM⟩ := Cond.code_spec hnamed hcode
  have hstatic : methM.isStatic = true := Cond.static_spec hnamed hmethM hstat
  obtain ⟨kP, hkP, -⟩ := className_of_methodNamed hnamed
  have hinitP : kP.init = .initialized := Cond.initialized_spec (findClass_of_methodNamed hnamed) hkP hinit
  obtain ⟨vm₁, X₁, hstep₁⟩ := X.invokestatic hexec hown hlink hnamed hmethM hstatic hkP hinitP hy (g := g) hg (argsL := argsL) (rest := rest) (hlen _ hsigM) hstack hdg
  rcases hK m meth c ⟨T.setVm vm₁, locs, cells, slots⟩ { g with stack := rest } (.invokestatic index) mk argsL.toArray X₁ hg hsize hdg hW (X₁.named hnamed) (hpre vm₁ X₁.warmed) with ⟨v, B, X', hpost, hsteps⟩ | ⟨q, B, X', hpost, hsteps⟩
  · exact Or.inl ⟨v, vm₁, B, X₁.warmed, X', hpost, fun target h => hstep₁ _ fun acts => by rw [doInvoke_state]; exact hsteps.trans h⟩
  · exact Or.inr ⟨q, vm₁, B, X₁.warmed, X', hpost, hstep₁ _ fun acts => by rw [doInvoke_state]; exact hsteps⟩
end Calls
theorem vx_cls {s : State} {T : State} {vm₁ : Vm} {E : String} {k : ClassId} (hW : s.WarmedH vm₁) (h : (T.setVm vm₁).vm.findClass E = some k) : s.vm.findClass E = some k := by
  have h1 : vm₁.findClass E = some k := h
  rw [hW.alike.findClass] at h1
  exact h1
/-- the method's frame g, with q thrown over it -/
def vx_W (p : Program) (l : Launch) (e : Env) (R : Room) (s : State) (m : MethodId) (args : Array Value) (below : List Frame) (meth : Method) (c : Code) (H : Heap) (locs : List Loc) (cells slots : Nat) (Q : State → Prop) (g : JFrame) (q : Addr) : Prop :=
  ∀ T : State, T.heap = H → Stand p l e R s m args below meth c T locs cells slots → ∃ t, Steps p.tables e below ((T.setTop g).pushFrame (.throwing q)) t ∧ Q t
def vx_Run (p : Program) (l : Launch) (e : Env) (R : Room) (s : State) (m : MethodId) (args : Array Value) (below : List Frame) (meth : Method) (c : Code) (H : Heap) (locs : List Loc) (cells slots mc ms : Nat) (g : JFrame) (rest : List Value) (Qa : State → Outcome → State → Prop) (XC : String → State → State → Prop) (free : Addr → Prop) : Prop :=
  ∀ T : State, T.heap = H → Stand p l e R s m args below meth c T locs cells slots →
    (∃ (v : Option Value) (st₀ t T' : State) (L : List Loc), st₀.heap = H ∧ Stand p l e R s m args below meth c T' (locs ++ L) (cells + mc) (slots + ms) ∧ (∀ q ∈ L, free q.base) ∧ T'.heap = t.heap ∧ T'.vm = t.vm ∧ Qa st₀ (.returned v) t ∧
      Goes p e below T g T' { g with pc := g.pc + 3, stack := v.toList ++ rest }) ∨
    (∃ (q : Addr) (st₀ t T' : State) (L : List Loc) (E : String) (ce : Cell), st₀.heap = H ∧ Stand p l e R s m args below meth c T' (locs ++ L) (cells + mc) (slots + ms) ∧ (∀ z ∈ L, free z.base) ∧ T'.heap = t.heap ∧ T'.vm = t.vm ∧ XC E st₀ t ∧ t.heap[q]? = some ce ∧ ce.vm = .none ∧ s.vm.findClass E = some ce.cls ∧
      Steps p.tables e below (T.setTop g) ((T'.setTop { g with stack := rest }).pushFrame (.throwing q)))
def vx_X {S : Type} (px : S → Prop) (B : String → S → State → Prop) (A : Nat → Prop) : String → State → State → Prop := fun E st t => ∃ u : S, px u ∧ B E u t ∧ va_F A st t
section Runs
variable {p : Program} {l : Launch} {e : Env} {R : Room} {s : State} {m : MethodId} {args : Array Value} {below : List Frame} {meth : Method} {c : Code} {H : Heap} {locs : List Loc} {cells slots : Nat}
variable {y : MethodName} {bytes cc : ByteArray} {maxL nL mc ms n index : Nat} {ret : Option FieldType} {ws : List Cond} {rm : Room} {Pc : Array Value → State → Prop} {Qc : Array Value → State → Outcome → State → Prop} {XC : String → State → State → Prop} {free : Addr → Prop} {Ts : List Cond} {own C : String} {b : Addr} {As rest : List Value} {g : JFrame}
theorem vx_callBack (cb : CallB R s args own index y bytes maxL ret ws rm mc ms n) (hM : vx_Met l y ws rm Pc Qc XC mc ms free) (hbl : FrameBlind Pc) : vx_Back l R p e below s args y 3 8 (PreOf R mc ms Pc) (PostOf Qc mc ms free) (vx_Post XC mc ms free) := by
  obtain ⟨hrc, hrs, hfr, hlo, hws, hcw, -, hini, -⟩ := cb
  exact vx_back (bytes := bytes) (maxL := maxL) (ret := ret) hM hbl hrc hrs hfr hlo hws hcw (fun a' U hW => word_at hW (Or.inl (by first | rfl | simp [Cond.onTables, Cond.keeps, Cond.steady])) hini)
theorem vx_runV (S : CallFix p m c cc nL s args Ts own) (hM : vx_Met l y ws rm Pc Qc XC mc ms free) (cw : CallW R s args own C index y bytes maxL ret ws rm mc ms n) (hp : PreV s H C b Pc As)
    (hg : g.method = m) (hn : As.length = n) (hsize : g.locals.size = nL) (hstack : g.stack = As.reverse ++ .ref b :: rest) (hW : 2 * g.monitorRoom + (rest.map fun v => v.category).sum ≤ 8) (hdg : decode cc g.pc = .ok (.invokevirtual index, 3)) (hf : cells + mc ≤ R.cells ∧ slots + ms ≤ R.slots) :
    vx_Run p l e R s m args below meth c H locs cells slots mc ms g rest (Qc (Value.ref b :: As).toArray) XC free := by
  have hK : vx_Back l R p e below s args y 3 8 (PreOf R mc ms Pc) (PostOf Qc mc ms free) (vx_Post XC mc ms free) := vx_callBack cw.1 hM hp.1
  obtain ⟨⟨-, -, -, -, -, -, hcode, -, hy, hlen, hl⟩, hin, hse⟩ := cw
  obtain ⟨hx, hb, hml, ho, -⟩ := S
  obtain ⟨-, ⟨cellB, hcB, hoB, hclB⟩, hPc⟩ := hp
  intro T hT X
  rcases vx_callV X hx (C := C) (bytes := bytes) (maxL := maxL) (ret := ret) ho hl hin hse hcode hy hK (by rw [hT]; exact hcB) hoB hclB hg (hsize.trans hml.symm) (argsL := As) (rest := rest) (fun sig h => hn.trans (hlen sig h)) hstack hW (by rw [hb]; exact hdg)
    (fun vm₁ hW₁ => ⟨hf.1, hf.2, hPc (T.setVm vm₁) hT hW₁⟩) with ⟨v, vm₁, ⟨U', l2, c2, s2⟩, hW₁, X', ⟨g', mk, t, L, e1, e2, hq, h1, hL, h2, h3⟩, st⟩ | ⟨q, vm₁, ⟨U', l2, c2, s2⟩, hW₁, X', ⟨g', mk, t, L, E, ce, e1, e2, hq, hce, hcv, hcl, h1, hL, h2, h3⟩, st⟩
  · dsimp only [Pt.U, Pt.locs, Pt.cells, Pt.slots] at X' e1 e2 h1 h2 h3 st
    subst h1; subst h2; subst h3
    exact Or.inl ⟨v, (T.setVm vm₁).calling g' mk (Value.ref b :: As).toArray, t, U', L, hT, X', hL, e1, e2, hq, st⟩
  · dsimp only [Pt.U, Pt.locs, Pt.cells, Pt.slots] at X' e1 e2 h1 h2 h3 st hcl
    subst h1; subst h2; subst h3
    exact Or.inr ⟨q, (T.setVm vm₁).calling g' mk (Value.ref b :: As).toArray, t, U', L, E, ce, hT, X', hL, e1, e2, hq, hce, hcv, vx_cls hW₁ hcl, st⟩
theorem vx_runS (S : CallFix p m c cc nL s args Ts own) (hM : vx_Met l y ws rm Pc Qc XC mc ms free) (cw : CallB R s args own index y bytes maxL ret ws rm mc ms n ∧ (Cond.static y).before args s = true) (hp : PreS s H Pc As)
    (hg : g.method = m) (hn : As.length = n) (hsize : g.locals.size = nL) (hstack : g.stack = As.reverse ++ rest) (hW : 2 * g.monitorRoom + (rest.map fun v => v.category).sum ≤ 8) (hdg : decode cc g.pc = .ok (.invokestatic index, 3)) (hf : cells + mc ≤ R.cells ∧ slots + ms ≤ R.slots) :
    vx_Run p l e R s m args below meth c H locs cells slots mc ms g rest (Qc As.toArray) XC free := by
  have hK : vx_Back l R p e below s args y 3 8 (PreOf R mc ms Pc) (PostOf Qc mc ms free) (vx_Post XC mc ms free) := vx_callBack cw.1 hM hp.1
  obtain ⟨⟨-, -, -, -, -, -, hcode, hini, hy, hlen, hl⟩, hstt⟩ := cw
  obtain ⟨hx, hb, hml, ho, -⟩ := S
  intro T hT X
  rcases vx_callS X hx (bytes := bytes) (maxL := maxL) (ret := ret) ho hl hstt hini hcode hy hK hg (hsize.trans hml.symm) (argsL := As) (rest := rest) (fun sig h => hn.trans (hlen sig h)) hstack hW (by rw [hb]; exact hdg)
    (fun vm₁ hW₁ => ⟨hf.1, hf.2, hp.2 (T.setVm vm₁) hT hW₁⟩) with ⟨v, vm₁, ⟨U', l2, c2, s2⟩, hW₁, X', ⟨g', mk, t, L, e1, e2, hq, h1, hL, h2, h3⟩, st⟩ | ⟨q, vm₁, ⟨U', l2, c2, s2⟩, hW₁, X', ⟨g', mk, t, L, E, ce, e1, e2, hq, hce, hcv, hcl, h1, hL, h2, h3⟩, st⟩
  · dsimp only [Pt.U, Pt.locs, Pt.cells, Pt.slots] at X' e1 e2 h1 h2 h3 st
    subst h1; subst h2; subst h3
    exact Or.inl ⟨v, (T.setVm vm₁).calling g' mk As.toArray, t, U', L, hT, X', hL, e1, e2, hq, st⟩
  · dsimp only [Pt.U, Pt.locs, Pt.cells, Pt.slots] at X' e1 e2 h1 h2 h3 st hcl
    subst h1; subst h2; subst h3
    exact Or.inr ⟨q, (T.setVm vm₁).calling g' mk As.toArray, t, U', L, E, ce, hT, X', hL, e1, e2, hq, hce, hcv, vx_cls hW₁ hcl, st⟩
end Runs
section Rows
variable {p : Program} {l : Launch} {e : Env} {R : Room} {s : State} {m : MethodId} {args : Array Value} {below : List Frame} {meth : Method} {c : Code} {H : Heap} {locs : List Loc} {cells slots : Nat} {Q : State → Prop}
variable {mc ms : Nat} {free : Addr → Prop} {A0 A1 : Nat → Prop} {H0 : Heap} {a : Array Value} {pc : Nat} {ls : Array Slot} {st0 rest : List Value}
theorem vx_keep {st₀ t T' : State} {L : List Loc} (h0 : st₀.heap = H) (e1 : T'.heap = t.heap) (hS : va_S A0 H0 H locs) (hA : ∀ q, q < H.size → A1 q → A0 q) (hf : ∀ q, free q → A0 q) (hL : ∀ q ∈ L, free q.base) (hF : va_F A1 st₀ t) :
    H.size ≤ T'.heap.size ∧ (∀ q : Nat, q < H.size → ¬ A1 q → T'.heap[q]? = H[q]?) ∧ va_S A0 H0 T'.heap (locs ++ L) := by
  obtain ⟨hz, hk⟩ := hF
  rw [h0] at hz hk
  exact ⟨by rw [e1]; exact hz, fun q h1 h2 => by rw [e1]; exact hk q h1 h2,
    ⟨Nat.le_trans hS.1 (by rw [e1]; exact hz), fun q h1 h2 => by rw [e1, hk q (Nat.lt_of_lt_of_le h1 hS.1) (fun z => h2 (hA q (Nat.lt_of_lt_of_le h1 hS.1) z))]; exact hS.2.1 q h1 h2, fun q hq => by
      rcases List.mem_append.mp hq with h | h
      · exact hS.2.2 q h
      · exact hf _ (hL q h)⟩⟩
theorem vx_calli {S SX : Type} {post : Int32 → S → Prop} {px : SX → Prop} {B : S → State → Prop} {BX : String → SX → State → Prop} {AX : Nat → Prop} (hr : vx_Run p l e R s m args below meth c H locs cells slots mc ms (F0 m pc ls st0) rest (va_Qi post B A1 a) (vx_X px BX AX) free) (hS : va_S A0 H0 H locs) (hA : ∀ q, q < H.size → A1 q → A0 q) (hf : ∀ q, free q → A0 q) (hAX : ∀ q, q < H.size → AX q → A0 q)
    (kx : ∀ (E : String) (ce : Cell) (q9 : Addr) (u : SX) (t : State) (H1 : Heap) (locs1 : List Loc), t.heap = H1 → s.vm.Alike t.vm → px u → BX E u t → H.size ≤ H1.size → (∀ q : Nat, q < H.size → ¬ AX q → H1[q]? = H[q]?) → va_S A0 H0 H1 locs1 → H1[q9]? = some ce → ce.vm = .none → s.vm.findClass E = some ce.cls → vx_W p l e R s m args below meth c H1 locs1 (cells + mc) (slots + ms) Q (F0 m pc ls rest) q9)
    (kk : ∀ (r : Int32) (u : S) (t : State) (H1 : Heap) (locs1 : List Loc), t.heap = H1 → s.vm.Alike t.vm → post r u → B u t → H.size ≤ H1.size → (∀ q : Nat, q < H.size → ¬ A1 q → H1[q]? = H[q]?) → va_S A0 H0 H1 locs1 → W p l e R s m args below meth c H1 locs1 (cells + mc) (slots + ms) Q (F0 m (pc + 3) ls (.int r :: rest))) : W p l e R s m args below meth c H locs cells slots Q (F0 m pc ls st0) := by
  intro T hT X
  rcases hr T hT X with ⟨v, st₀, t, T', L, h0, X', hL, e1, e2, ⟨⟨r, u, hv, hp, hb⟩, hF⟩, st⟩ | ⟨q, st₀, t, T', L, E, ce, h0, X', hL, e1, e2, ⟨u, hp, hb, hF⟩, hce, hcv, hcl, st⟩
  · cases hv
    obtain ⟨k1, k2, k3⟩ := vx_keep h0 e1 hS hA hf hL hF
    obtain ⟨t2, a1, b1⟩ := kk r u t T'.heap (locs ++ L) e1.symm (by rw [← e2]; exact X'.warmed.alike) hp hb k1 k2 k3 T' rfl X'
    exact ⟨t2, st t2 a1, b1⟩
  · obtain ⟨k1, k2, k3⟩ := vx_keep h0 e1 hS hAX hf hL hF
    obtain ⟨t2, a1, b1⟩ := kx E ce q u t T'.heap (locs ++ L) e1.symm (by rw [← e2]; exact X'.warmed.alike) hp hb k1 k2 k3 (by rw [e1]; exact hce) hcv hcl T' rfl X'
    exact ⟨t2, st.trans a1, b1⟩
theorem vx_calll {S SX : Type} {post : Int64 → S → Prop} {px : SX → Prop} {B : S → State → Prop} {BX : String → SX → State → Prop} {AX : Nat → Prop} (hr : vx_Run p l e R s m args below meth c H locs cells slots mc ms (F0 m pc ls st0) rest (va_Ql post B A1 a) (vx_X px BX AX) free) (hS : va_S A0 H0 H locs) (hA : ∀ q, q < H.size → A1 q → A0 q) (hf : ∀ q, free q → A0 q) (hAX : ∀ q, q < H.size → AX q → A0 q)
    (kx : ∀ (E : String) (ce : Cell) (q9 : Addr) (u : SX) (t : State) (H1 : Heap) (locs1 : List Loc), t.heap = H1 → s.vm.Alike t.vm → px u → BX E u t → H.size ≤ H1.size → (∀ q : Nat, q < H.size → ¬ AX q → H1[q]? = H[q]?) → va_S A0 H0 H1 locs1 → H1[q9]? = some ce → ce.vm = .none → s.vm.findClass E = some ce.cls → vx_W p l e R s m args below meth c H1 locs1 (cells + mc) (slots + ms) Q (F0 m pc ls rest) q9)
    (kk : ∀ (r : Int64) (u : S) (t : State) (H1 : Heap) (locs1 : List Loc), t.heap = H1 → s.vm.Alike t.vm → post r u → B u t → H.size ≤ H1.size → (∀ q : Nat, q < H.size → ¬ A1 q → H1[q]? = H[q]?) → va_S A0 H0 H1 locs1 → W p l e R s m args below meth c H1 locs1 (cells + mc) (slots + ms) Q (F0 m (pc + 3) ls (.long r :: rest))) : W p l e R s m args below meth c H locs cells slots Q (F0 m pc ls st0) := by
  intro T hT X
  rcases hr T hT X with ⟨v, st₀, t, T', L, h0, X', hL, e1, e2, ⟨⟨r, u, hv, hp, hb⟩, hF⟩, st⟩ | ⟨q, st₀, t, T', L, E, ce, h0, X', hL, e1, e2, ⟨u, hp, hb, hF⟩, hce, hcv, hcl, st⟩
  · cases hv
    obtain ⟨k1, k2, k3⟩ := vx_keep h0 e1 hS hA hf hL hF
    obtain ⟨t2, a1, b1⟩ := kk r u t T'.heap (locs ++ L) e1.symm (by rw [← e2]; exact X'.warmed.alike) hp hb k1 k2 k3 T' rfl X'
    exact ⟨t2, st t2 a1, b1⟩
  · obtain ⟨k1, k2, k3⟩ := vx_keep h0 e1 hS hAX hf hL hF
    obtain ⟨t2, a1, b1⟩ := kx E ce q u t T'.heap (locs ++ L) e1.symm (by rw [← e2]; exact X'.warmed.alike) hp hb k1 k2 k3 (by rw [e1]; exact hce) hcv hcl T' rfl X'
    exact ⟨t2, st.trans a1, b1⟩
theorem vx_callf {S SX : Type} {post : UInt32 → S → Prop} {px : SX → Prop} {B : S → State → Prop} {BX : String → SX → State → Prop} {AX : Nat → Prop} (hr : vx_Run p l e R s m args below meth c H locs cells slots mc ms (F0 m pc ls st0) rest (va_Qf post B A1 a) (vx_X px BX AX) free) (hS : va_S A0 H0 H locs) (hA : ∀ q, q < H.size → A1 q → A0 q) (hf : ∀ q, free q → A0 q) (hAX : ∀ q, q < H.size → AX q → A0 q)
    (kx : ∀ (E : String) (ce : Cell) (q9 : Addr) (u : SX) (t : State) (H1 : Heap) (locs1 : List Loc), t.heap = H1 → s.vm.Alike t.vm → px u → BX E u t → H.size ≤ H1.size → (∀ q : Nat, q < H.size → ¬ AX q → H1[q]? = H[q]?) → va_S A0 H0 H1 locs1 → H1[q9]? = some ce → ce.vm = .none → s.vm.findClass E = some ce.cls → vx_W p l e R s m args below meth c H1 locs1 (cells + mc) (slots + ms) Q (F0 m pc ls rest) q9)
    (kk : ∀ (r : UInt32) (u : S) (t : State) (H1 : Heap) (locs1 : List Loc), t.heap = H1 → s.vm.Alike t.vm → post r u → B u t → H.size ≤ H1.size → (∀ q : Nat, q < H.size → ¬ A1 q → H1[q]? = H[q]?) → va_S A0 H0 H1 locs1 → W p l e R s m args below meth c H1 locs1 (cells + mc) (slots + ms) Q (F0 m (pc + 3) ls (.float r :: rest))) : W p l e R s m args below meth c H locs cells slots Q (F0 m pc ls st0) := by
  intro T hT X
  rcases hr T hT X with ⟨v, st₀, t, T', L, h0, X', hL, e1, e2, ⟨⟨r, u, hv, hp, hb⟩, hF⟩, st⟩ | ⟨q, st₀, t, T', L, E, ce, h0, X', hL, e1, e2, ⟨u, hp, hb, hF⟩, hce, hcv, hcl, st⟩
  · cases hv
    obtain ⟨k1, k2, k3⟩ := vx_keep h0 e1 hS hA hf hL hF
    obtain ⟨t2, a1, b1⟩ := kk r u t T'.heap (locs ++ L) e1.symm (by rw [← e2]; exact X'.warmed.alike) hp hb k1 k2 k3 T' rfl X'
    exact ⟨t2, st t2 a1, b1⟩
  · obtain ⟨k1, k2, k3⟩ := vx_keep h0 e1 hS hAX hf hL hF
    obtain ⟨t2, a1, b1⟩ := kx E ce q u t T'.heap (locs ++ L) e1.symm (by rw [← e2]; exact X'.warmed.alike) hp hb k1 k2 k3 (by rw [e1]; exact hce) hcv hcl T' rfl X'
    exact ⟨t2, st.trans a1, b1⟩
theorem vx_calld {S SX : Type} {post : UInt64 → S → Prop} {px : SX → Prop} {B : S → State → Prop} {BX : String → SX → State → Prop} {AX : Nat → Prop} (hr : vx_Run p l e R s m args below meth c H locs cells slots mc ms (F0 m pc ls st0) rest (va_Qd post B A1 a) (vx_X px BX AX) free) (hS : va_S A0 H0 H locs) (hA : ∀ q, q < H.size → A1 q → A0 q) (hf : ∀ q, free q → A0 q) (hAX : ∀ q, q < H.size → AX q → A0 q)
    (kx : ∀ (E : String) (ce : Cell) (q9 : Addr) (u : SX) (t : State) (H1 : Heap) (locs1 : List Loc), t.heap = H1 → s.vm.Alike t.vm → px u → BX E u t → H.size ≤ H1.size → (∀ q : Nat, q < H.size → ¬ AX q → H1[q]? = H[q]?) → va_S A0 H0 H1 locs1 → H1[q9]? = some ce → ce.vm = .none → s.vm.findClass E = some ce.cls → vx_W p l e R s m args below meth c H1 locs1 (cells + mc) (slots + ms) Q (F0 m pc ls rest) q9)
    (kk : ∀ (r : UInt64) (u : S) (t : State) (H1 : Heap) (locs1 : List Loc), t.heap = H1 → s.vm.Alike t.vm → post r u → B u t → H.size ≤ H1.size → (∀ q : Nat, q < H.size → ¬ A1 q → H1[q]? = H[q]?) → va_S A0 H0 H1 locs1 → W p l e R s m args below meth c H1 locs1 (cells + mc) (slots + ms) Q (F0 m (pc + 3) ls (.double r :: rest))) : W p l e R s m args below meth c H locs cells slots Q (F0 m pc ls st0) := by
  intro T hT X
  rcases hr T hT X with ⟨v, st₀, t, T', L, h0, X', hL, e1, e2, ⟨⟨r, u, hv, hp, hb⟩, hF⟩, st⟩ | ⟨q, st₀, t, T', L, E, ce, h0, X', hL, e1, e2, ⟨u, hp, hb, hF⟩, hce, hcv, hcl, st⟩
  · cases hv
    obtain ⟨k1, k2, k3⟩ := vx_keep h0 e1 hS hA hf hL hF
    obtain ⟨t2, a1, b1⟩ := kk r u t T'.heap (locs ++ L) e1.symm (by rw [← e2]; exact X'.warmed.alike) hp hb k1 k2 k3 T' rfl X'
    exact ⟨t2, st t2 a1, b1⟩
  · obtain ⟨k1, k2, k3⟩ := vx_keep h0 e1 hS hAX hf hL hF
    obtain ⟨t2, a1, b1⟩ := kx E ce q u t T'.heap (locs ++ L) e1.symm (by rw [← e2]; exact X'.warmed.alike) hp hb k1 k2 k3 (by rw [e1]; exact hce) hcv hcl T' rfl X'
    exact ⟨t2, st.trans a1, b1⟩
theorem vx_callv {S SX : Type} {post : S → Prop} {px : SX → Prop} {B : S → State → Prop} {BX : String → SX → State → Prop} {AX : Nat → Prop} (hr : vx_Run p l e R s m args below meth c H locs cells slots mc ms (F0 m pc ls st0) rest (va_Qv post B A1 a) (vx_X px BX AX) free) (hS : va_S A0 H0 H locs) (hA : ∀ q, q < H.size → A1 q → A0 q) (hf : ∀ q, free q → A0 q) (hAX : ∀ q, q < H.size → AX q → A0 q)
    (kx : ∀ (E : String) (ce : Cell) (q9 : Addr) (u : SX) (t : State) (H1 : Heap) (locs1 : List Loc), t.heap = H1 → s.vm.Alike t.vm → px u → BX E u t → H.size ≤ H1.size → (∀ q : Nat, q < H.size → ¬ AX q → H1[q]? = H[q]?) → va_S A0 H0 H1 locs1 → H1[q9]? = some ce → ce.vm = .none → s.vm.findClass E = some ce.cls → vx_W p l e R s m args below meth c H1 locs1 (cells + mc) (slots + ms) Q (F0 m pc ls rest) q9)
    (kk : ∀ (u : S) (t : State) (H1 : Heap) (locs1 : List Loc), t.heap = H1 → s.vm.Alike t.vm → post u → B u t → H.size ≤ H1.size → (∀ q : Nat, q < H.size → ¬ A1 q → H1[q]? = H[q]?) → va_S A0 H0 H1 locs1 → W p l e R s m args below meth c H1 locs1 (cells + mc) (slots + ms) Q (F0 m (pc + 3) ls (rest))) : W p l e R s m args below meth c H locs cells slots Q (F0 m pc ls st0) := by
  intro T hT X
  rcases hr T hT X with ⟨v, st₀, t, T', L, h0, X', hL, e1, e2, ⟨⟨u, hv, hp, hb⟩, hF⟩, st⟩ | ⟨q, st₀, t, T', L, E, ce, h0, X', hL, e1, e2, ⟨u, hp, hb, hF⟩, hce, hcv, hcl, st⟩
  · cases hv
    obtain ⟨k1, k2, k3⟩ := vx_keep h0 e1 hS hA hf hL hF
    obtain ⟨t2, a1, b1⟩ := kk u t T'.heap (locs ++ L) e1.symm (by rw [← e2]; exact X'.warmed.alike) hp hb k1 k2 k3 T' rfl X'
    exact ⟨t2, st t2 a1, b1⟩
  · obtain ⟨k1, k2, k3⟩ := vx_keep h0 e1 hS hAX hf hL hF
    obtain ⟨t2, a1, b1⟩ := kx E ce q u t T'.heap (locs ++ L) e1.symm (by rw [← e2]; exact X'.warmed.alike) hp hb k1 k2 k3 (by rw [e1]; exact hce) hcv hcl T' rfl X'
    exact ⟨t2, st.trans a1, b1⟩
/-- caught by the row x of this method's table; the rows ahead don't take it -/
theorem vx_catch {own name : String} {E : String} {ce : Cell} {q : Addr} (hown : s.vm.findClass own = some m.cls) (pre : List ExceptionTableEntry) (x : ExceptionTableEntry) (suf : List ExceptionTableEntry) (hsplit : c.exceptionTable.toList = pre ++ x :: suf)
    (hpass : ∀ z ∈ pre, covers z pc = false ∨ (z.catchType ≠ 0 ∧ ∃ nm : String, (Cond.classLink own z.catchType nm).before args s = true ∧ va_Nc E nm s)) (hx : covers x pc = true) (h0 : x.catchType ≠ 0)
    (hlink : (Cond.classLink own x.catchType name).before args s = true) (hcast : (Cond.castable E name).before args s = true) (hcell : H[q]? = some ce) (hv : ce.vm = .none) (hcl : s.vm.findClass E = some ce.cls)
    (kk : W p l e R s m args below meth c H locs cells slots Q (F0 m x.handlerPc ls [.ref q])) : vx_W p l e R s m args below meth c H locs cells slots Q (F0 m pc ls rest) q := by
  intro T hT X
  have hpl : e.platform.magicAccessors = ({} : Platform).magicAccessors := by rw [X.admits.platform]
  obtain ⟨c3, c4, hc3, hc4, hasg⟩ := Cond.castable_spec hcast
  cases Option.some.inj (hc3.symm.trans hcl)
  obtain ⟨c5, hc5, hcl5⟩ := Cond.classLink_spec hown hlink e.platform hpl
  cases Option.some.inj (hc4.symm.trans hc5)
  obtain ⟨vm', X', st⟩ := X.thenCaughtThrough q (g := F0 m pc ls rest) rfl (Steps.refl _) (by rw [hT]; exact hcell) (by rw [hv]; rfl) (by obtain ⟨k9, h9, -⟩ := Vm.findClass_spec hcl; exact ⟨k9, h9⟩) pre x suf hsplit
    (fun z hz => by
      rcases hpass z hz with h | ⟨hz0, nm, hl1, hn1⟩
      · exact Or.inl h
      · obtain ⟨c6, hc6, hcl6⟩ := Cond.classLink_spec hown hl1 e.platform hpl
        obtain ⟨a8, b8, h1, h2, h3⟩ := hn1
        cases Option.some.inj (h1.symm.trans hcl)
        cases Option.some.inj (h2.symm.trans hc6)
        exact Or.inr ⟨hz0, _, hcl6, h3⟩) hx (Or.inr ⟨h0, c4, hcl5, hasg⟩)
  obtain ⟨t, a1, b1⟩ := kk (T.setVm vm') hT X'
  exact ⟨t, st.trans a1, b1⟩
end Rows
section Ends
variable {p : Program} {l : Launch} {e : Env} {R : Room} {s : State} {m : MethodId} {args : Array Value} {below : List Frame} {meth : Method} {c : Code} {H : Heap} {locs : List Loc} {cells slots : Nat} {Q : State → Prop}
variable {mc ms : Nat} {free : Addr → Prop} {A0 A1 : Nat → Prop} {H0 : Heap} {a : Array Value} {ls : Array Slot} {st0 rest : List Value}
variable {Qc : Array Value → State → Outcome → State → Prop} {XC : String → State → State → Prop}
/-- what a body that may throw owes at its end -/
def vx_MQ (below : List Frame) (Qc : Array Value → State → Outcome → State → Prop) (XC : String → State → State → Prop) (a : Array Value) (s : State) (mc ms : Nat) (free : Addr → Prop) : State → Prop := fun t =>
  ∃ o, t.status = .running ∧ Ended t below o ∧ vx_Q Qc XC mc ms free a s o t
theorem vx_ret {g : JFrame} {mc ms : Nat} (k : W p l e R s m args below meth c H locs cells slots (MQ below Qc args s mc ms free) g) : W p l e R s m args below meth c H locs cells slots (vx_MQ below Qc XC args s mc ms free) g := by
  intro T hT X
  obtain ⟨t, a1, o, b1, b2, b3, b4⟩ := k T hT X
  exact ⟨t, a1, o, b1, b2, Or.inl ⟨b3, b4⟩⟩
/-- not caught here: it goes on to the caller -/
theorem vx_widen {g : JFrame} {q : Addr} {k n : Nat} (h1 : cells ≤ k) (h2 : slots ≤ n) (kk : vx_W p l e R s m args below meth c H locs k n Q g q) : vx_W p l e R s m args below meth c H locs cells slots Q g q := fun T hT X => kk T hT (stand_widen X h1 h2)
theorem vx_out {pc : Nat} {E : String} {ce : Cell} {q : Addr} {mc ms : Nat} (hout : ∀ x ∈ c.exceptionTable.toList, covers x pc = false) (hlocks : meth.locks = false) (hcell : H[q]? = some ce) (hv : ce.vm = .none) (hcl : s.vm.findClass E = some ce.cls)
    (hx : ∀ t : State, t.heap = H → s.vm.Alike t.vm → XC E s t) (hf : ∀ z ∈ locs, free z.base) (hc : cells ≤ mc) (hs : slots ≤ ms) :
    vx_W p l e R s m args below meth c H locs cells slots (vx_MQ below Qc XC args s mc ms free) (F0 m pc ls rest) q := by
  intro T hT X
  obtain ⟨st1, hrun, hend, hW, hsm⟩ := X.leaveThrown q (g := F0 m pc ls rest) rfl rfl rfl hout hlocks
  have hcell9 : (T.setFrames (.throwing q :: below)).heap[q]? = some ce := by
    show T.heap[q]? = some ce
    rw [hT]; exact hcell
  exact ⟨_, st1, .threw q, hrun, hend, Or.inr ⟨q, rfl, E, ce, locs, hx _ hT hW.alike, hcell9, hv, hcl, hW, hsm.mono hc hs, hf⟩⟩
theorem vx_frame {U : State} {k n : Nat} (h : s.sameButNew ({ U with vm := s.vm } : State) locs k n) : s.heap.size ≤ U.heap.size ∧ ∀ q : Nat, q < s.heap.size → (∀ z ∈ locs, z.base ≠ q) → U.heap[q]? = s.heap[q]? := by
  obtain ⟨-, h2, -, -, -, h6⟩ := h
  refine ⟨h2, fun q hq hz => ?_⟩
  obtain ⟨c9, e1, e2, e3, e4⟩ := h6 q _ (Array.getElem?_eq_getElem hq)
  have hs : c9.slots = (s.heap[q]).slots := Array.ext_getElem? fun i => e4 i fun hm => hz _ hm rfl
  have h9 : c9 = s.heap[q] := by
    rw [hs] at e2
    exact e2
  have e5 : U.heap[q]? = some c9 := e1
  rw [e5, h9, Array.getElem?_eq_getElem hq]
/-- the words of a throw but the four that speak of the heap -/
def vx_no (w : Cond) : Bool := decide (w ≠ .isRef (.static Bundle.tN "UNASSIGNED_STACK" Bundle.steD)) && decide (w ≠ .isRef (.static Bundle.tN "SUPPRESSED_SENTINEL" Bundle.listD)) && decide (w ≠ .laysStatic Bundle.tN "UNASSIGNED_STACK" Bundle.steD) && decide (w ≠ .laysStatic Bundle.tN "SUPPRESSED_SENTINEL" Bundle.listD)
def vx_at0 (own : String) (ic : Nat) (X : String) (names : List String) : List Cond := (Bundle.ownAtoms0 own ic X names).filter vx_no
def vx_atS (own : String) (ic : Nat) (X : String) (names : List String) : List Cond := (Bundle.ownAtoms own ic X names).filter vx_no
/-- a word that the tables alone decide, or a good one -/
def vx_ot (w : Cond) : Bool := w.onTables || goodWord w
theorem vx_ot_at {args a' : Array Value} {s U : State} {w : Cond} (hW : s.WarmedH U.vm) (hvm : s.vm = U.vm) (hg : vx_ot w = true) (h : w.before args s = true) : w.before a' U = true := by
  simp only [vx_ot, Bool.or_eq_true] at hg
  rcases hg with hg | hg
  · exact va_tabs hg hvm h
  · exact word_at hW (good_of_word hg) h
/-- a list's words: the good ones out of the method's own list, the others by premises of their own -/
theorem vx_hat {args : Array Value} {s : State} {L B : List Cond} (h1 : ∀ w ∈ L.filter goodWord, w.before args s = true) (h2 : ∀ w ∈ L.filter (fun w => !goodWord w), w ∈ B) (h3 : ∀ w ∈ B, w.before args s = true) : ∀ w ∈ L, w.before args s = true := by
  intro w hw
  by_cases g : goodWord w = true
  · exact h1 w (List.mem_filter.mpr ⟨hw, g⟩)
  · refine h3 w (h2 w (List.mem_filter.mpr ⟨hw, ?_⟩))
    show (!goodWord w) = true
    cases hgw : goodWord w
    · rfl
    · exact absurd hgw g
theorem vx_c {args : Array Value} {s : State} {w : Cond} {B : List Cond} (h : w.before args s = true) (t : ∀ w ∈ B, w.before args s = true) : ∀ w' ∈ w :: B, w'.before args s = true := fun w' h' => (List.mem_cons.mp h').elim (fun e => by rw [e]; exact h) (t w')
theorem vx_n {args : Array Value} {s : State} : ∀ w ∈ ([] : List Cond), w.before args s = true := fun _ h => nomatch h
theorem vx_own {args : Array Value} {s : State} {L : List Cond} (h1 : ∀ w ∈ L.filter vx_no, w.before args s = true)
    (hU : (Cond.isRef (.static Bundle.tN "UNASSIGNED_STACK" Bundle.steD)).before args s = true) (hN : (Cond.isRef (.static Bundle.tN "SUPPRESSED_SENTINEL" Bundle.listD)).before args s = true)
    (lU : (Cond.laysStatic Bundle.tN "UNASSIGNED_STACK" Bundle.steD).before args s = true) (lN : (Cond.laysStatic Bundle.tN "SUPPRESSED_SENTINEL" Bundle.listD).before args s = true) : ∀ w ∈ L, w.before args s = true := by
  intro w hw
  by_cases e1 : w = .isRef (.static Bundle.tN "UNASSIGNED_STACK" Bundle.steD)
  · rw [e1]; exact hU
  · by_cases e2 : w = .isRef (.static Bundle.tN "SUPPRESSED_SENTINEL" Bundle.listD)
    · rw [e2]; exact hN
    · by_cases e3 : w = .laysStatic Bundle.tN "UNASSIGNED_STACK" Bundle.steD
      · rw [e3]; exact lU
      · by_cases e4 : w = .laysStatic Bundle.tN "SUPPRESSED_SENTINEL" Bundle.listD
        · rw [e4]; exact lN
        · exact h1 w (List.mem_filter.mpr ⟨hw, by unfold vx_no; rw [decide_eq_true e1, decide_eq_true e2, decide_eq_true e3, decide_eq_true e4]; rfl⟩)
/-- where a static field lies, its class's statics cell in H -/
def vx_L (C n d : String) (A : Nat → Prop) (U : State) (H : Heap) : Prop := ∃ (c : ClassId) (k : Class) (i : Nat) (f : Field) (a : Nat) (cell : Cell), U.vm.findClass C = some c ∧ U.fieldFound? C n d = some (c, k, i, f) ∧ f.isStatic = true ∧ k.statics = some a ∧ H[a]? = some cell ∧ cell.vm.isStatics = true ∧ cell.cls = c ∧ f.slot < cell.slots.size ∧ k.staticTypes[f.slot]? = some f.type ∧ ¬ A a
theorem vx_L.moved {C n d : String} {A : Nat → Prop} {u U : State} {H : Heap} (hvm : u.vm.Alike U.vm) (h : vx_L C n d A u H) : vx_L C n d A U H := by
  obtain ⟨c, k, i, f, a, cell, h1, h2, h3, h4, h5, h6, h7, h8, h9, h10⟩ := h
  obtain ⟨k', hi', he⟩ := State.fieldFound?_setVm hvm h2
  exact ⟨c, k', i, f, a, cell, by rw [hvm.findClass]; exact h1, hi', h3, by rw [he]; exact h4, h5, h6, h7, h8, by rw [he]; exact h9, h10⟩
theorem vx_L.kept {C n d : String} {A : Nat → Prop} {U : State} {H H1 : Heap} (h : vx_L C n d A U H) (hq : ∀ a : Nat, a < H.size → ¬ A a → H1[a]? = H[a]?) : vx_L C n d A U H1 := by
  obtain ⟨c, k, i, f, a, cell, h1, h2, h3, h4, h5, h6, h7, h8, h9, h10⟩ := h
  exact ⟨c, k, i, f, a, cell, h1, h2, h3, h4, by rw [hq a (Array.getElem?_eq_some_iff.mp h5).1 h10]; exact h5, h6, h7, h8, h9, h10⟩
theorem vx_L.narrow {C n d : String} {A B : Nat → Prop} {U : State} {H : Heap} (h : vx_L C n d A U H) (hAB : ∀ q, B q → A q) : vx_L C n d B U H := by
  obtain ⟨c, k, i, f, a, cell, h1, h2, h3, h4, h5, h6, h7, h8, h9, h10⟩ := h
  exact ⟨c, k, i, f, a, cell, h1, h2, h3, h4, h5, h6, h7, h8, h9, fun z => h10 (hAB _ z)⟩
theorem vx_L.word {C n d : String} {A : Nat → Prop} {s : State} {args : Array Value} (h : vx_L C n d A s s.heap) : (Cond.laysStatic C n d).before args s = true := by
  obtain ⟨c, k, i, f, a, cell, h1, h2, h3, h4, h5, h6, h7, h8, h9, -⟩ := h
  show (Cond.laysStatic C n d).holds args s none s [] = true
  exact Cond.laysStatic_of h1 h2 h3 h4 h5 h6 h7 h8 h9
/-- .. and what it holds: null or some reference -/
def vx_Zq (C n d : String) (A : Nat → Prop) (U : State) (H : Heap) : Prop := va_Zq C n d A U H ∧ vx_L C n d A U H
theorem vx_Zq.moved {C n d : String} {A : Nat → Prop} {u U : State} {H : Heap} (hvm : u.vm.Alike U.vm) (h : vx_Zq C n d A u H) : vx_Zq C n d A U H := ⟨va_Zq.moved hvm h.1, vx_L.moved hvm h.2⟩
theorem vx_Zq.kept {C n d : String} {A : Nat → Prop} {U : State} {H H1 : Heap} (h : vx_Zq C n d A U H) (hq : ∀ a : Nat, a < H.size → ¬ A a → H1[a]? = H[a]?) : vx_Zq C n d A U H1 := ⟨va_Zq.kept h.1 hq, vx_L.kept h.2 hq⟩
theorem vx_Zq.narrow {C n d : String} {A B : Nat → Prop} {U : State} {H : Heap} (h : vx_Zq C n d A U H) (hAB : ∀ q, B q → A q) : vx_Zq C n d B U H := ⟨va_Zq.narrow h.1 hAB, vx_L.narrow h.2 hAB⟩
theorem vx_Zqof {args : Array Value} {s : State} {C n d : String} {A : Nat → Prop} (hl : (Cond.laysStatic C n d).before args s = true) (hini : (Cond.initialized C).before args s = true) (h : (Cond.isRef (.static C n d)).before args s = true) (hA : ∀ a : Nat, a < s.heap.size → ¬ A a) : vx_Zq C n d A s s.heap := by
  refine ⟨va_Zqof hl hini h hA, ?_⟩
  obtain ⟨c, k, i, f, a, cell, h1, h2, h3, h4, h5, h6, h7, h8, h9⟩ := Cond.laysStatic_spec hl
  exact ⟨c, k, i, f, a, cell, h1, h2, h3, h4, h5, h6, h7, h8, h9, hA a (Array.getElem?_eq_some_iff.mp h5).1⟩
theorem vx_isRef {C n d : String} {v : Value} {A : Nat → Prop} {s : State} {args : Array Value} (h : va_Z C n d v A s s.heap) (hv : v.isRef = true) : (Cond.isRef (.static C n d)).before args s = true := by
  obtain ⟨cf, kf, fi, f, a, cell, h1, h2, h3, h4, h5, h6, h7, -⟩ := h
  have he : (Term.static C n d).eval args s none [] s = some v := by
    simp [Term.eval, State.fieldNamed?, h1, h2, h4, h5, h6, h7]
  simp only [Cond.before, Cond.holds, Cond.value, he]
  cases v <;> simp_all [Value.isRef]
theorem vx_isRefq {C n d : String} {A : Nat → Prop} {s : State} {args : Array Value} (h : va_Zq C n d A s s.heap) : (Cond.isRef (.static C n d)).before args s = true := by
  rcases h with h | ⟨t, h⟩
  · exact vx_isRef h rfl
  · exact vx_isRef h rfl
/-- the same frame, seen from here: as if the method were called anew in this heap -/
theorem vx_rebase {T : State} (X : Stand p l e R s m args below meth c T locs cells slots) {R' : Room} (hf : R'.frames ≤ R.frames) (hl : R'.locals ≤ R.locals) (hc : cells + R'.cells ≤ R.cells) (hs : slots + R'.slots ≤ R.slots) :
    Stand p l e R' ((T.setVm s.vm).setFrames (.invoking m args :: below)) m args below meth c T [] 0 0 := by
  have htop : (T.setVm s.vm).topJava?.isSome := X.here.top
  have hF : ((T.setVm s.vm).setFrames (.invoking m args :: below)).frames = .invoking m args :: below := State.frames_setFrames _ (State.cur_lt_of_top htop)
  obtain ⟨g₀, hg0⟩ := Option.isSome_iff_exists.mp htop
  obtain ⟨r, hr⟩ := State.topJava?_eq_some.mp hg0
  have hl9 : e.platform.stackLimits (T.setVm s.vm).me = e.platform.stackLimits s.me := X.limits
  have hb9 : (T.setVm s.vm).me.stackBytes = s.me.stackBytes := X.bytes
  refine ⟨X.admits, X.cas, X.clock, hF, ?_, X.hears, X.method, X.code, X.here, X.tail, X.warmed, ?_, ?_, ?_⟩
  · have h := X.room
    have hU : ((T.setVm s.vm).setFrames (.invoking m args :: below)).localsInUse = s.localsInUse := by
      rw [State.localsInUse_invoking hF (meth := meth) (c := c) X.method X.code, State.localsInUse_invoking X.frames X.method X.code]
    simp only [State.hasRoom, Bool.and_eq_true, decide_eq_true_eq] at h ⊢
    obtain ⟨⟨⟨⟨h1, h2, h3, h4, h5, h6⟩, h7⟩, h8⟩, h9⟩ := h
    rw [X.frames, List.length_cons] at h2 h3
    have q1 := X.heapSize
    have q2 := X.used
    simp only [hF, hU, List.length_cons, State.stackLimits_setFrames, State.stackBytes_setFrames, hl9, hb9]
    refine ⟨⟨⟨⟨by omega, by omega, by omega, by omega, by omega, h6⟩, ?_⟩, ?_⟩, X.book⟩
    · show T.heap.size + R'.cells ≤ e.platform.maxCells
      omega
    · show T.slotsUsed + R'.slots ≤ e.platform.maxSlots
      omega
  · rw [State.stackLimits_setFrames]; rfl
  · rw [State.stackBytes_setFrames]; rfl
  · refine ⟨?_, Nat.le_refl _, Nat.le_refl _, ?_, ?_, fun a c9 h9 => ⟨c9, h9, rfl, rfl, fun _ _ => rfl⟩⟩
    · obtain ⟨t, ht, -⟩ := State.frames_cons hr
      show T.setVm s.vm = { ((T.setVm s.vm).setFrames (.invoking m args :: below)).setFrames (T.setVm s.vm).frames with heap := T.heap, slotsUsed := T.slotsUsed }
      rw [State.setFrames_setFrames, State.setFrames_self ht]
      rfl
    · show T.slotsUsed = T.slotsUsed + ((T.heap.toList.drop T.heap.size).map (·.slots.size)).sum
      rw [List.drop_eq_nil_of_le (Nat.le_of_eq Array.length_toList)]
      rfl
    · show ((T.heap.toList.drop T.heap.size).map (·.slots.size)).sum ≤ 0
      rw [List.drop_eq_nil_of_le (Nat.le_of_eq Array.length_toList)]
      exact Nat.le_refl _
/-- 'throw new E()': new; dup; invokespecial; athrow -/
theorem vx_throw0 {cc : ByteArray} {pc : Nat} (hexec : p.tables.exec = Jvm.exec) (hb : c.code = cc) (hl : l.stackTraces = false) {own cls : String} {names : List String} {ik ic mc ms : Nat} {A : Nat → Prop}
    (hown : s.vm.findClass own = some m.cls) (hcls : Bundle.fit cls = true) (hnames : ∀ n ∈ names, Bundle.fit n = true)
    (hk : (Cond.classLink own ik cls).before args s = true) (hini : (Cond.initialized cls).before args s = true) (hat : ∀ w ∈ vx_at0 own ic cls names, w.before args s = true)
    (hgood : ∀ w ∈ Cond.classLink own ik cls :: Cond.initialized cls :: vx_at0 own ic cls names, vx_ot w = true)
    (hU : vx_Zq Bundle.tN "UNASSIGNED_STACK" Bundle.steD A s s.heap) (hN : vx_Zq Bundle.tN "SUPPRESSED_SENTINEL" Bundle.listD A s s.heap) (hS : va_S A s.heap H locs) (hsize : ls.size = c.maxLocals)
    (d0 : decode cc pc = .ok (.new ik, 3)) (d3 : decode cc (pc + 3) = .ok (.dup, 1)) (d4 : decode cc (pc + 4) = .ok (.invokespecial ic, 3)) (d7 : decode cc (pc + 7) = .ok (.athrow, 1))
    (hout : ∀ x ∈ c.exceptionTable.toList, covers x (pc + 7) = false)
    (hRframes : names.length + 3 < R.frames) (hRlocals : (rest.map fun v => v.category).sum + (13 * (names.length + 1) + 42) ≤ R.locals) (hRcells : cells + 1 ≤ R.cells) (hRslots : slots + 6 ≤ R.slots) (hlocks : meth.locks = false)
    (hx : ∀ t : State, s.vm.Alike t.vm → H.size ≤ t.heap.size → (∀ q : Nat, q < H.size → t.heap[q]? = H[q]?) → XC cls s t)
    (hf : ∀ z ∈ locs, free z.base) (hc : cells + 1 ≤ mc) (hs : slots + 6 ≤ ms) :
    W p l e R s m args below meth c H locs cells slots (vx_MQ below Qc XC args s mc ms free) (F0 m pc ls rest) := by
  intro T hT X
  have htr : e.platform.stackTraces = false := (show e.platform.stackTraces = l.stackTraces by rw [X.admits.platform]).trans hl
  have Y := vx_rebase X (R' := { frames := R.frames, locals := R.locals, cells := 1, slots := 6 }) (Nat.le_refl _) (Nat.le_refl _) hRcells hRslots
  obtain ⟨s', hA⟩ : ∃ z, z = (T.setVm s.vm).setFrames (.invoking m args :: below) := ⟨_, rfl⟩
  rw [← hA] at Y
  have hvm : s'.vm = s.vm := by rw [hA]; rfl
  have hhp : s'.heap = H := by rw [hA]; exact hT
  have hW0 : s.WarmedH s'.vm := by rw [hvm]; exact State.WarmedH.refl s
  have hat' : ∀ w ∈ vx_at0 own ic cls names, w.before args s' = true := fun w hw => vx_ot_at hW0 hvm.symm (hgood w (List.mem_cons_of_mem _ (List.mem_cons_of_mem _ hw))) (hat w hw)
  have hk' : (Cond.classLink own ik cls).before args s' = true := vx_ot_at hW0 hvm.symm (hgood _ List.mem_cons_self) hk
  have hini' : (Cond.initialized cls).before args s' = true := vx_ot_at hW0 hvm.symm (hgood _ (List.mem_cons_of_mem _ List.mem_cons_self)) hini
  have hU' : vx_Zq Bundle.tN "UNASSIGNED_STACK" Bundle.steD A s' s'.heap := by rw [hhp]; exact vx_Zq.moved hW0.alike (hU.kept hS.2.1)
  have hN' : vx_Zq Bundle.tN "SUPPRESSED_SENTINEL" Bundle.listD A s' s'.heap := by rw [hhp]; exact vx_Zq.moved hW0.alike (hN.kept hS.2.1)
  have h : ∀ w ∈ Bundle.ownAtoms0 own ic cls names, w.before args s' = true := vx_own hat' (vx_isRefq hU'.1) (vx_isRefq hN'.1) hU'.2.word hN'.2.word
  have hown' : s'.vm.findClass own = some m.cls := by rw [hvm]; exact hown
  have hins : (Cond.instantiable cls 6).before args s' = true := h _ (by simp [Bundle.ownAtoms0])
  obtain ⟨vm₁, cX, kX, hfX, hkX, -, -, X₁, st1⟩ := Y.newCold hexec (own := own) (C := cls) (index := ik) (n := 6) hown' hk' hins hini'
    (g := F0 m pc ls rest) rfl (by rw [hb]; exact d0) (Nat.le_refl _) (Nat.le_refl _)
  generalize hT1 : (T.setVm vm₁).pushCell { cls := cX, slots := kX.instanceTypes.map defaultValue, vm := .none } = T1 at X₁ st1
  have hcat : (Value.ref T.heap.size).category = 1 := rfl
  have hcellA : T1.heap[T.heap.size]? = some (freshCell cX kX) := by rw [← hT1]; exact State.heap_pushCell_size _ _
  have d3' : decode c.code (pc + 3) = .ok (.dup, 1) := by rw [hb]; exact d3
  obtain ⟨U, hsteps, hrun, hend, hW, hsame, ce, hce, hO⟩ := X₁.ctorThrow0 hexec htr (own := own) (cls := cls) (names := names) (ic := ic) hown' hcls hnames h (fun x hx => nomatch hx) hfX hkX hcellA (by rw [hhp, hT]; exact Nat.le_refl _)
    (g := { method := m, pc := pc + 4, locals := ls, stack := .ref T.heap.size :: .ref T.heap.size :: rest, locked := none }) rfl hsize rfl rfl (rest := rest) rfl
    (by rw [hb]; exact d4) (by rw [hb]; exact d7) hout hRframes (by simp only [List.map_cons, List.sum_cons, hcat]; omega) hlocks
  obtain ⟨f1, f2⟩ := vx_frame hsame
  rw [hhp] at f1 f2
  have hWs : s.WarmedH U.vm := State.WarmedH.trans hW0 hW
  have hcl : s.vm.findClass cls = some ce.cls := by
    have h9 := hO.cls
    rw [hvm] at h9
    exact h9
  have hall : s.sameButNew ({ U with vm := s.vm } : State) locs mc ms := by
    subst hA
    obtain ⟨e1, e2⟩ := hsame
    rw [State.setFrames_setFrames] at e1
    have h2 : (T.setVm s.vm).sameButNew ({ U with vm := s.vm } : State) [] (0 + 1) (0 + 6) := ⟨e1, e2⟩
    have h3 := X.same.trans h2
    rw [List.append_nil] at h3
    exact h3.mono hc hs
  refine ⟨U, ?_, .threw T.heap.size, hrun, hend, Or.inr ⟨T.heap.size, rfl, cls, ce, locs, hx U hWs.alike f1 (fun q hq => f2 q hq (fun z hz => nomatch hz)), hce, hO.vm, hcl, hWs, hall, hf⟩⟩
  refine st1 _ ?_
  show Steps p.tables e below (T1.setTop { method := m, pc := pc + 3, locals := ls, stack := .ref T.heap.size :: rest, locked := none }) _
  jvm_step X₁.here [X₁.here.top, hexec, d3', Value.category]
  exact hsteps
/-- 'throw new E("text")': new; dup; ldc; invokespecial; athrow -/
theorem vx_throwS {cc : ByteArray} {pc : Nat} (hexec : p.tables.exec = Jvm.exec) (hb : c.code = cc) (hl : l.stackTraces = false) {own cls text : String} {names : List String} {ik is ic mc ms sa : Nat} {A : Nat → Prop}
    (hown : s.vm.findClass own = some m.cls) (hcls : Bundle.fit cls = true) (hnames : ∀ n ∈ names, Bundle.fit n = true)
    (hk : (Cond.classLink own ik cls).before args s = true) (hini : (Cond.initialized cls).before args s = true) (hstr : vk_R own is text sa s) (hat : ∀ w ∈ vx_atS own ic cls names, w.before args s = true)
    (hgood : ∀ w ∈ Cond.classLink own ik cls :: Cond.initialized cls :: vx_atS own ic cls names, vx_ot w = true)
    (hU : vx_Zq Bundle.tN "UNASSIGNED_STACK" Bundle.steD A s s.heap) (hN : vx_Zq Bundle.tN "SUPPRESSED_SENTINEL" Bundle.listD A s s.heap) (hS : va_S A s.heap H locs) (hsize : ls.size = c.maxLocals)
    (d0 : decode cc pc = .ok (.new ik, 3)) (d3 : decode cc (pc + 3) = .ok (.dup, 1)) (d4 : decode cc (pc + 4) = .ok (.ldc is, 2)) (d6 : decode cc (pc + 6) = .ok (.invokespecial ic, 3)) (d9 : decode cc (pc + 9) = .ok (.athrow, 1))
    (hout : ∀ x ∈ c.exceptionTable.toList, covers x (pc + 9) = false)
    (hRframes : names.length + 3 < R.frames) (hRlocals : (rest.map fun v => v.category).sum + (13 * (names.length + 1) + 43) ≤ R.locals) (hRcells : cells + 1 ≤ R.cells) (hRslots : slots + 6 ≤ R.slots) (hlocks : meth.locks = false)
    (hx : ∀ t : State, s.vm.Alike t.vm → H.size ≤ t.heap.size → (∀ q : Nat, q < H.size → t.heap[q]? = H[q]?) → XC cls s t)
    (hf : ∀ z ∈ locs, free z.base) (hc : cells + 1 ≤ mc) (hs : slots + 6 ≤ ms) :
    W p l e R s m args below meth c H locs cells slots (vx_MQ below Qc XC args s mc ms free) (F0 m pc ls rest) := by
  intro T hT X
  have htr : e.platform.stackTraces = false := (show e.platform.stackTraces = l.stackTraces by rw [X.admits.platform]).trans hl
  have Y := vx_rebase X (R' := { frames := R.frames, locals := R.locals, cells := 1, slots := 6 }) (Nat.le_refl _) (Nat.le_refl _) hRcells hRslots
  obtain ⟨s', hA⟩ : ∃ z, z = (T.setVm s.vm).setFrames (.invoking m args :: below) := ⟨_, rfl⟩
  rw [← hA] at Y
  have hvm : s'.vm = s.vm := by rw [hA]; rfl
  have hhp : s'.heap = H := by rw [hA]; exact hT
  have hW0 : s.WarmedH s'.vm := by rw [hvm]; exact State.WarmedH.refl s
  have hat' : ∀ w ∈ vx_atS own ic cls names, w.before args s' = true := fun w hw => vx_ot_at hW0 hvm.symm (hgood w (List.mem_cons_of_mem _ (List.mem_cons_of_mem _ hw))) (hat w hw)
  have hk' : (Cond.classLink own ik cls).before args s' = true := vx_ot_at hW0 hvm.symm (hgood _ List.mem_cons_self) hk
  have hini' : (Cond.initialized cls).before args s' = true := vx_ot_at hW0 hvm.symm (hgood _ (List.mem_cons_of_mem _ List.mem_cons_self)) hini
  have hU' : vx_Zq Bundle.tN "UNASSIGNED_STACK" Bundle.steD A s' s'.heap := by rw [hhp]; exact vx_Zq.moved hW0.alike (hU.kept hS.2.1)
  have hN' : vx_Zq Bundle.tN "SUPPRESSED_SENTINEL" Bundle.listD A s' s'.heap := by rw [hhp]; exact vx_Zq.moved hW0.alike (hN.kept hS.2.1)
  have h : ∀ w ∈ Bundle.ownAtoms own ic cls names, w.before args s' = true := vx_own hat' (vx_isRefq hU'.1) (vx_isRefq hN'.1) hU'.2.word hN'.2.word
  have hown' : s'.vm.findClass own = some m.cls := by rw [hvm]; exact hown
  have hins : (Cond.instantiable cls 6).before args s' = true := h _ (by simp [Bundle.ownAtoms])
  obtain ⟨vm₁, cX, kX, hfX, hkX, -, -, X₁, st1⟩ := Y.newCold hexec (own := own) (C := cls) (index := ik) (n := 6) hown' hk' hins hini'
    (g := F0 m pc ls rest) rfl (by rw [hb]; exact d0) (Nat.le_refl _) (Nat.le_refl _)
  generalize hT1 : (T.setVm vm₁).pushCell { cls := cX, slots := kX.instanceTypes.map defaultValue, vm := .none } = T1 at X₁ st1
  have hcat : (Value.ref T.heap.size).category = 1 := rfl
  have hcellA : T1.heap[T.heap.size]? = some (freshCell cX kX) := by rw [← hT1]; exact State.heap_pushCell_size _ _
  have d3' : decode c.code (pc + 3) = .ok (.dup, 1) := by rw [hb]; exact d3
  have d4' : decode c.code (pc + 4) = .ok (.ldc is, 2) := by rw [hb]; exact d4
  have hstr' : vk_R own is text sa s' := vk_R.warm hW0 hstr
  obtain ⟨U, hsteps, hrun, hend, hW, hsame, ce, hce, hO⟩ := X₁.ctorThrowS hexec htr (own := own) (cls := cls) (names := names) (ic := ic) hown' hcls hnames h (fun x hx => nomatch hx) hfX hkX hcellA (by rw [hhp, hT]; exact Nat.le_refl _) (msg := .ref sa) rfl
    (g := { method := m, pc := pc + 6, locals := ls, stack := .ref sa :: .ref T.heap.size :: .ref T.heap.size :: rest, locked := none }) rfl hsize rfl rfl (rest := rest) rfl
    (by rw [hb]; exact d6) (by rw [hb]; exact d9) hout hRframes (by simp only [List.map_cons, List.sum_cons, hcat]; omega) hlocks
  obtain ⟨f1, f2⟩ := vx_frame hsame
  rw [hhp] at f1 f2
  have hWs : s.WarmedH U.vm := State.WarmedH.trans hW0 hW
  have hcl : s.vm.findClass cls = some ce.cls := by
    have h9 := hO.cls
    rw [hvm] at h9
    exact h9
  have hall : s.sameButNew ({ U with vm := s.vm } : State) locs mc ms := by
    subst hA
    obtain ⟨e1, e2⟩ := hsame
    rw [State.setFrames_setFrames] at e1
    have h2 : (T.setVm s.vm).sameButNew ({ U with vm := s.vm } : State) [] (0 + 1) (0 + 6) := ⟨e1, e2⟩
    have h3 := X.same.trans h2
    rw [List.append_nil] at h3
    exact h3.mono hc hs
  refine ⟨U, ?_, .threw T.heap.size, hrun, hend, Or.inr ⟨T.heap.size, rfl, cls, ce, locs, hx U hWs.alike f1 (fun q hq => f2 q hq (fun z hz => nomatch hz)), hce, hO.vm, hcl, hWs, hall, hf⟩⟩
  refine st1 _ ?_
  show Steps p.tables e below (T1.setTop { method := m, pc := pc + 3, locals := ls, stack := .ref T.heap.size :: rest, locked := none }) _
  jvm_step X₁.here [X₁.here.top, hexec, d3', Value.category]
  exact X₁.ldcString hexec (own := own) (text := text) (index := is) (a := sa) hown' hstr'.1 hstr'.2
    (g := { method := m, pc := pc + 4, locals := ls, stack := .ref T.heap.size :: .ref T.heap.size :: rest, locked := none }) rfl d4' _ hsteps
/-- 'throw new E("text")', the text by a wide index -/
theorem vx_throwSW {cc : ByteArray} {pc : Nat} (hexec : p.tables.exec = Jvm.exec) (hb : c.code = cc) (hl : l.stackTraces = false) {own cls text : String} {names : List String} {ik is ic mc ms sa : Nat} {A : Nat → Prop}
    (hown : s.vm.findClass own = some m.cls) (hcls : Bundle.fit cls = true) (hnames : ∀ n ∈ names, Bundle.fit n = true)
    (hk : (Cond.classLink own ik cls).before args s = true) (hini : (Cond.initialized cls).before args s = true) (hstr : vk_R own is text sa s) (hat : ∀ w ∈ vx_atS own ic cls names, w.before args s = true)
    (hgood : ∀ w ∈ Cond.classLink own ik cls :: Cond.initialized cls :: vx_atS own ic cls names, vx_ot w = true)
    (hU : vx_Zq Bundle.tN "UNASSIGNED_STACK" Bundle.steD A s s.heap) (hN : vx_Zq Bundle.tN "SUPPRESSED_SENTINEL" Bundle.listD A s s.heap) (hS : va_S A s.heap H locs) (hsize : ls.size = c.maxLocals)
    (d0 : decode cc pc = .ok (.new ik, 3)) (d3 : decode cc (pc + 3) = .ok (.dup, 1)) (d4 : decode cc (pc + 4) = .ok (.ldc_w is, 3)) (d7 : decode cc (pc + 7) = .ok (.invokespecial ic, 3)) (d10 : decode cc (pc + 10) = .ok (.athrow, 1))
    (hout : ∀ x ∈ c.exceptionTable.toList, covers x (pc + 10) = false)
    (hRframes : names.length + 3 < R.frames) (hRlocals : (rest.map fun v => v.category).sum + (13 * (names.length + 1) + 43) ≤ R.locals) (hRcells : cells + 1 ≤ R.cells) (hRslots : slots + 6 ≤ R.slots) (hlocks : meth.locks = false)
    (hx : ∀ t : State, s.vm.Alike t.vm → H.size ≤ t.heap.size → (∀ q : Nat, q < H.size → t.heap[q]? = H[q]?) → XC cls s t)
    (hf : ∀ z ∈ locs, free z.base) (hc : cells + 1 ≤ mc) (hs : slots + 6 ≤ ms) :
    W p l e R s m args below meth c H locs cells slots (vx_MQ below Qc XC args s mc ms free) (F0 m pc ls rest) := by
  intro T hT X
  have htr : e.platform.stackTraces = false := (show e.platform.stackTraces = l.stackTraces by rw [X.admits.platform]).trans hl
  have Y := vx_rebase X (R' := { frames := R.frames, locals := R.locals, cells := 1, slots := 6 }) (Nat.le_refl _) (Nat.le_refl _) hRcells hRslots
  obtain ⟨s', hA⟩ : ∃ z, z = (T.setVm s.vm).setFrames (.invoking m args :: below) := ⟨_, rfl⟩
  rw [← hA] at Y
  have hvm : s'.vm = s.vm := by rw [hA]; rfl
  have hhp : s'.heap = H := by rw [hA]; exact hT
  have hW0 : s.WarmedH s'.vm := by rw [hvm]; exact State.WarmedH.refl s
  have hat' : ∀ w ∈ vx_atS own ic cls names, w.before args s' = true := fun w hw => vx_ot_at hW0 hvm.symm (hgood w (List.mem_cons_of_mem _ (List.mem_cons_of_mem _ hw))) (hat w hw)
  have hk' : (Cond.classLink own ik cls).before args s' = true := vx_ot_at hW0 hvm.symm (hgood _ List.mem_cons_self) hk
  have hini' : (Cond.initialized cls).before args s' = true := vx_ot_at hW0 hvm.symm (hgood _ (List.mem_cons_of_mem _ List.mem_cons_self)) hini
  have hU' : vx_Zq Bundle.tN "UNASSIGNED_STACK" Bundle.steD A s' s'.heap := by rw [hhp]; exact vx_Zq.moved hW0.alike (hU.kept hS.2.1)
  have hN' : vx_Zq Bundle.tN "SUPPRESSED_SENTINEL" Bundle.listD A s' s'.heap := by rw [hhp]; exact vx_Zq.moved hW0.alike (hN.kept hS.2.1)
  have h : ∀ w ∈ Bundle.ownAtoms own ic cls names, w.before args s' = true := vx_own hat' (vx_isRefq hU'.1) (vx_isRefq hN'.1) hU'.2.word hN'.2.word
  have hown' : s'.vm.findClass own = some m.cls := by rw [hvm]; exact hown
  have hins : (Cond.instantiable cls 6).before args s' = true := h _ (by simp [Bundle.ownAtoms])
  obtain ⟨vm₁, cX, kX, hfX, hkX, -, -, X₁, st1⟩ := Y.newCold hexec (own := own) (C := cls) (index := ik) (n := 6) hown' hk' hins hini'
    (g := F0 m pc ls rest) rfl (by rw [hb]; exact d0) (Nat.le_refl _) (Nat.le_refl _)
  generalize hT1 : (T.setVm vm₁).pushCell { cls := cX, slots := kX.instanceTypes.map defaultValue, vm := .none } = T1 at X₁ st1
  have hcat : (Value.ref T.heap.size).category = 1 := rfl
  have hcellA : T1.heap[T.heap.size]? = some (freshCell cX kX) := by rw [← hT1]; exact State.heap_pushCell_size _ _
  have d3' : decode c.code (pc + 3) = .ok (.dup, 1) := by rw [hb]; exact d3
  have d4' : decode c.code (pc + 4) = .ok (.ldc_w is, 3) := by rw [hb]; exact d4
  have hstr' : vk_R own is text sa s' := vk_R.warm hW0 hstr
  obtain ⟨U, hsteps, hrun, hend, hW, hsame, ce, hce, hO⟩ := X₁.ctorThrowS hexec htr (own := own) (cls := cls) (names := names) (ic := ic) hown' hcls hnames h (fun x hx => nomatch hx) hfX hkX hcellA (by rw [hhp, hT]; exact Nat.le_refl _) (msg := .ref sa) rfl
    (g := { method := m, pc := pc + 7, locals := ls, stack := .ref sa :: .ref T.heap.size :: .ref T.heap.size :: rest, locked := none }) rfl hsize rfl rfl (rest := rest) rfl
    (by rw [hb]; exact d7) (by rw [hb]; exact d10) hout hRframes (by simp only [List.map_cons, List.sum_cons, hcat]; omega) hlocks
  obtain ⟨f1, f2⟩ := vx_frame hsame
  rw [hhp] at f1 f2
  have hWs : s.WarmedH U.vm := State.WarmedH.trans hW0 hW
  have hcl : s.vm.findClass cls = some ce.cls := by
    have h9 := hO.cls
    rw [hvm] at h9
    exact h9
  have hall : s.sameButNew ({ U with vm := s.vm } : State) locs mc ms := by
    subst hA
    obtain ⟨e1, e2⟩ := hsame
    rw [State.setFrames_setFrames] at e1
    have h2 : (T.setVm s.vm).sameButNew ({ U with vm := s.vm } : State) [] (0 + 1) (0 + 6) := ⟨e1, e2⟩
    have h3 := X.same.trans h2
    rw [List.append_nil] at h3
    exact h3.mono hc hs
  refine ⟨U, ?_, .threw T.heap.size, hrun, hend, Or.inr ⟨T.heap.size, rfl, cls, ce, locs, hx U hWs.alike f1 (fun q hq => f2 q hq (fun z hz => nomatch hz)), hce, hO.vm, hcl, hWs, hall, hf⟩⟩
  refine st1 _ ?_
  show Steps p.tables e below (T1.setTop { method := m, pc := pc + 3, locals := ls, stack := .ref T.heap.size :: rest, locked := none }) _
  jvm_step X₁.here [X₁.here.top, hexec, d3', Value.category]
  exact X₁.ldcStringW hexec (own := own) (text := text) (index := is) (a := sa) hown' hstr'.1 hstr'.2
    (g := { method := m, pc := pc + 4, locals := ls, stack := .ref T.heap.size :: .ref T.heap.size :: rest, locked := none }) rfl d4' _ hsteps
end Ends
section Bodies
variable {l : Launch}
theorem vx_ofW {y : MethodName} {ws ws' : List Cond} {rm : Room} {Pc : Array Value → State → Prop} {Qc : Array Value → State → Outcome → State → Prop} {XC : String → State → State → Prop} {mc ms : Nat} {free : Addr → Prop} {cc : ByteArray} {maxL : Nat} {ret : Option FieldType}
    (hy : plainName y.cls = true) (hw : ws = Cond.code y cc maxL ret :: ws')
    (body : ∀ p e s m args below meth c s₁, BodyLoose p l y (headSpec ws rm) cc maxL ret e s m args below meth c s₁ → c.maxLocals = maxL → (∀ x ∈ c.exceptionTable.toList, False) → Pc args s →
      W p l e (headSpec ws rm).room s m args below meth c s.heap [] 0 0 (vx_MQ below Qc XC args s mc ms free) (entryFrame m args maxL)) : vx_Met l y ws rm Pc Qc XC mc ms free := by
  refine MetFree.of_bodyS (code := cc) (maxLocals := maxL) (ret := ret) hy ?_ ?_
  · intro args s m h hn
    obtain ⟨meth, c, h1, h2, h3, h4, h5, h6, -, -⟩ := Cond.code_spec hn (atoms_spec (ws := ws) h _ (by rw [hw]; exact List.mem_cons_self))
    exact ⟨meth, c, h1, h2, h3, h4, h5, h6⟩
  · intro p e s m args below meth c s₁ B hml hP _
    have hh0 : s₁.heap = s.heap := by rw [B.state]; rfl
    have ht : ∀ x ∈ c.exceptionTable.toList, False := by
      obtain ⟨meth9, c9, h1, h2, -, -, -, -, h7, -⟩ := Cond.code_spec B.named (atoms_spec (ws := ws) B.pre _ (by rw [hw]; exact List.mem_cons_self))
      cases Option.some.inj (h1.symm.trans B.method)
      cases Option.some.inj (h2.symm.trans (Stand.of_body B).code)
      intro x hx
      rw [Array.isEmpty_iff.mp h7] at hx
      cases hx
    obtain ⟨t, a1, o, b1, b2, b3⟩ := body p e s m args below meth c s₁ B hml ht hP s₁ hh0 (Stand.of_body B)
    exact ⟨t, o, a1, b1, b2, b3⟩
/-- the table of a body with handlers -/
theorem vx_table {p : Program} {x y : MethodName} {S : Spec} {cc bytes : ByteArray} {maxL maxL' : Nat} {ret ret' : Option FieldType} {e : Env} {s s₁ : State} {m : MethodId} {args : Array Value} {below : List Frame} {meth : Method} {c : Code} {hh : List (Nat × Nat × Nat × Nat)}
    (B : BodyLoose p l y S cc maxL ret e s m args below meth c s₁) (h : (Cond.codeWith y bytes maxL' ret' hh).before args s = true) : c.exceptionTable.toList = tableOf hh := by
  obtain ⟨m9, meth9, c9, hn9, h1, h2, -, -, h6, -⟩ := Cond.codeWith_spec h
  cases Option.some.inj (hn9.symm.trans B.named)
  cases Option.some.inj (h1.symm.trans B.method)
  cases Option.some.inj (h2.symm.trans (Stand.of_body B).code)
  rw [← h6, table_eq]
end Bodies
end VXA
/-! ===== END ===== -/
/-! ===== BEGIN a static call of a method with an exception table ===== -/
section VXS
variable {p : Program} {l : Launch} {e : Env} {R : Room} {s : State} {m : MethodId} {args : Array Value} {below : List Frame} {meth : Method} {c : Code} {T : State} {H : Heap} {locs : List Loc} {cells slots : Nat}
abbrev vx_CSW (R : Room) (s : State) (args : Array Value) (own : String) (index : Nat) (y : MethodName) (bytes : ByteArray) (maxL : Nat) (ret : Option FieldType) (hh : List (Nat × Nat × Nat × Nat)) (ws : List Cond) (rm : Room) (mc ms n : Nat) : Prop :=
  (rm.cells = mc ∧ rm.slots = ms ∧ rm.frames + 1 ≤ R.frames ∧ 8 + (maxL + 11) + rm.locals ≤ R.locals ∧ (∀ w ∈ ws, ∀ (a' : Array Value) (U : State), s.WarmedH U.vm → w.before a' U = true) ∧ Cond.codeWith y bytes maxL ret hh ∈ ws) ∧
  (Cond.codeWith y bytes maxL ret hh).before args s = true ∧ (Cond.initialized y.cls).before args s = true ∧ (y.cls ≠ "java/lang/invoke/MethodHandle" ∧ y.cls ≠ "java/lang/invoke/VarHandle") ∧
  (∀ sig, parseMethodDescriptor y.desc = some sig → n = sig.parameters.length) ∧ (Cond.methodLink own index y).before args s = true ∧ (Cond.static y).before args s = true
theorem vx_cwSW {own : String} {index maxL mc ms : Nat} {y : MethodName} {bytes : ByteArray} {ret : Option FieldType} {hh : List (Nat × Nat × Nat × Nat)} {Ts ws ws' : List Cond} {rm : Room} (n : Nat) (ht : ∀ w ∈ Ts, w.before args s = true) (hT : GoodIn Ts (va_wsS own index y ws)) (hw : ws = Cond.codeWith y bytes maxL ret hh :: ws') (hrc : rm.cells = mc) (hrs : rm.slots = ms)
    (hd : y.cls ≠ "java/lang/invoke/MethodHandle" ∧ y.cls ≠ "java/lang/invoke/VarHandle" ∧ (parseMethodDescriptor y.desc).map (fun d => d.parameters.length) = some n) (hR : rm.frames + 1 ≤ R.frames ∧ 8 + (maxL + 11) + rm.locals ≤ R.locals) :
    vx_CSW R s args own index y bytes maxL ret hh ws rm mc ms n := by
  have ok : ∀ w ∈ va_wsS own index y ws, w.before args s = true := fun w h => ht w (hT w h).1
  have hG : GoodIn Ts ws := fun w h => hT w (by unfold va_wsS; exact List.mem_append_right _ h)
  have hc : Cond.codeWith y bytes maxL ret hh ∈ ws := by rw [hw]; exact List.mem_cons_self
  refine ⟨⟨hrc, hrs, hR.1, hR.2, pay_in ht hG, hc⟩, ht _ (hG _ hc).1, ok _ (by simp [va_wsS]), ⟨hd.1, hd.2.1⟩, fun sig h => ?_, ok _ (by simp [va_wsS]), ok _ (by simp [va_wsS])⟩
  have h2 := hd.2.2
  rw [h] at h2
  exact (Option.some.inj h2).symm
theorem vx_callSW (X : Stand p l e R s m args below meth c T locs cells slots) (hexec : p.tables.exec = Jvm.exec) {own : String} {index : Nat} {y : MethodName} {bytes : ByteArray} {maxL : Nat} {ret : Option FieldType} {hh : List (Nat × Nat × Nat × Nat)}
    (hown : s.vm.findClass own = some m.cls) (hlink : (Cond.methodLink own index y).before args s = true) (hstat : (Cond.static y).before args s = true) (hinit : (Cond.initialized y.cls).before args s = true)
    (hcode : (Cond.codeWith y bytes maxL ret hh).before args s = true) (hy : y.cls ≠ "java/lang/invoke/MethodHandle" ∧ y.cls ≠ "java/lang/invoke/VarHandle")
    {W9 : Nat} {Pre : Pt → Array Value → Prop} {Post : Pt → Array Value → Option Value → Pt → Prop} (hK : Back l R p e below s args y 3 W9 Pre Post)
    {g : JFrame} (hg : g.method = m) (hsize : g.locals.size = c.maxLocals) {argsL rest : List Value} (hlen : ∀ sig, parseMethodDescriptor y.desc = some sig → argsL.length = sig.parameters.length)
    (hstack : g.stack = argsL.reverse ++ rest) (hW : 2 * g.monitorRoom + (rest.map fun v => v.category).sum ≤ W9) (hdg : decode c.code g.pc = .ok (.invokestatic index, 3))
    (hpre : ∀ vm₁, s.WarmedH vm₁ → Pre ⟨T.setVm vm₁, locs, cells, slots⟩ argsL.toArray) :
    ∃ (v : Option Value) (vm₁ : Vm) (B : Pt), s.WarmedH vm₁ ∧ Stand p l e R s m args below meth c B.U B.locs B.cells B.slots ∧ Post ⟨T.setVm vm₁, locs, cells, slots⟩ argsL.toArray v B ∧
      ∀ target, Steps p.tables e below (B.U.setTop { g with pc := g.pc + 3, stack := v.toList ++ rest }) target → Steps p.tables e below (T.setTop g) target := by
  obtain ⟨mk, methM, cM, hnamed, hmethM, -, -, -, -, -, -, hsigM⟩ := Cond.codeWith_spec hcode
  have hstatic : methM.isStatic = true := Cond.static_spec hnamed hmethM hstat
  obtain ⟨kP, hkP, -⟩ := className_of_methodNamed hnamed
  have hinitP : kP.init = .initialized := Cond.initialized_spec (findClass_of_methodNamed hnamed) hkP hinit
  obtain ⟨vm₁, X₁, hstep₁⟩ := X.invokestatic hexec hown hlink hnamed hmethM hstatic hkP hinitP hy (g := g) hg (argsL := argsL) (rest := rest) (hlen _ hsigM) hstack hdg
  obtain ⟨v, B, X', hpost, hsteps⟩ := hK m meth c ⟨T.setVm vm₁, locs, cells, slots⟩ { g with stack := rest } (.invokestatic index) mk argsL.toArray X₁ hg hsize hdg hW (X₁.named hnamed) (hpre vm₁ X₁.warmed)
  exact ⟨v, vm₁, B, X₁.warmed, X', hpost, fun target h => hstep₁ _ fun acts => by rw [doInvoke_state]; exact hsteps.trans h⟩
theorem vx_runSW {y : MethodName} {bytes cc : ByteArray} {maxL nL mc ms n index : Nat} {ret : Option FieldType} {hh : List (Nat × Nat × Nat × Nat)} {ws : List Cond} {rm : Room} {Pc : Array Value → State → Prop} {Qc : Array Value → State → Outcome → State → Prop} {free : Addr → Prop} {Ts : List Cond} {own : String} {As rest : List Value} {g : JFrame}
    (S : CallFix p m c cc nL s args Ts own) (hM : Met l y ws rm Pc Qc mc ms free) (cw : vx_CSW R s args own index y bytes maxL ret hh ws rm mc ms n) (hp : PreS s H Pc As)
    (hg : g.method = m) (hn : As.length = n) (hsize : g.locals.size = nL) (hstack : g.stack = As.reverse ++ rest) (hW : 2 * g.monitorRoom + (rest.map fun v => v.category).sum ≤ 8) (hdg : decode cc g.pc = .ok (.invokestatic index, 3)) (hf : cells + mc ≤ R.cells ∧ slots + ms ≤ R.slots) :
    va_Run p l e R s m args below meth c H locs cells slots mc ms g rest (Qc As.toArray) (free) := by
  obtain ⟨⟨hrc, hrs, hfr, hlo, hws, hcw⟩, hcode, hini, hy, hlen, hl, hstt⟩ := cw
  have hK : Back l R p e below s args y 3 8 (PreOf R mc ms Pc) (PostOf Qc mc ms free) := va_backW (hh := hh) (bytes := bytes) (maxL := maxL) (ret := ret) hM hp.1 hrc hrs hfr hlo hws hcw (fun a' U hW => word_at hW (Or.inl (by first | rfl | simp [Cond.onTables, Cond.keeps, Cond.steady])) hini)
  obtain ⟨hx, hb, hml, ho, -⟩ := S
  intro T hT X
  obtain ⟨v, vm₁, ⟨U', l2, c2, s2⟩, hW₁, X', ⟨g', mk, t, L, e1, e2, hq, h1, hL, h2, h3⟩, st⟩ := vx_callSW X hx (hh := hh) (bytes := bytes) (maxL := maxL) (ret := ret) ho hl hstt hini hcode hy hK hg (hsize.trans hml.symm) (argsL := As) (rest := rest) (fun sig h => hn.trans (hlen sig h)) hstack hW (by rw [hb]; exact hdg)
    (fun vm₁ hW₁ => ⟨hf.1, hf.2, hp.2 (T.setVm vm₁) hT hW₁⟩)
  dsimp only [Pt.U, Pt.locs, Pt.cells, Pt.slots] at X' e1 e2 h1 h2 h3 st
  subst h1; subst h2; subst h3
  exact ⟨v, (T.setVm vm₁).calling g' mk As.toArray, t, U', L, hT, X', hL, e1, e2, hq, st⟩
/-- not caught here, past rows that name other classes: it goes on to the caller -/
theorem vx_outP {p : Program} {l : Launch} {e : Env} {R : Room} {s : State} {m : MethodId} {args : Array Value} {below : List Frame} {meth : Method} {c : Code} {H : Heap} {locs : List Loc} {cells slots : Nat} {free : Addr → Prop} {ls : Array Slot} {rest : List Value} {Qc : Array Value → State → Outcome → State → Prop} {XC : String → State → State → Prop}
    {pc : Nat} {own E : String} {ce : Cell} {q : Addr} {mc ms : Nat} (hown : s.vm.findClass own = some m.cls) (hlocks : meth.locks = false)
    (hpass : ∀ z ∈ c.exceptionTable.toList, covers z pc = false ∨ (z.catchType ≠ 0 ∧ ∃ nm : String, (Cond.classLink own z.catchType nm).before args s = true ∧ va_Nc E nm s)) (hcell : H[q]? = some ce) (hv : ce.vm = .none) (hcl : s.vm.findClass E = some ce.cls)
    (hx : ∀ t : State, t.heap = H → s.vm.Alike t.vm → XC E s t) (hf : ∀ z ∈ locs, free z.base) (hc : cells ≤ mc) (hs : slots ≤ ms) :
    vx_W p l e R s m args below meth c H locs cells slots (vx_MQ below Qc XC args s mc ms free) (F0 m pc ls rest) q := by
  intro T hT X
  have hpl : e.platform.magicAccessors = ({} : Platform).magicAccessors := by rw [X.admits.platform]
  obtain ⟨vm', hW', X', st⟩ := X.outThrough hlocks q (g := F0 m pc ls rest) rfl rfl rfl (cell := ce) (by rw [hT]; exact hcell) (by rw [hv]; rfl)
    (by obtain ⟨k9, h9, -⟩ := Vm.findClass_spec hcl; exact ⟨k9, h9⟩) (fun z hz => by
      rcases hpass z hz with h | ⟨hz0, nm, hl1, hn1⟩
      · exact Or.inl h
      · obtain ⟨c6, hc6, hcl6⟩ := Cond.classLink_spec hown hl1 e.platform hpl
        obtain ⟨a8, b8, h1, h2, h3⟩ := hn1
        cases Option.some.inj (h1.symm.trans hcl)
        cases Option.some.inj (h2.symm.trans hc6)
        exact Or.inr ⟨hz0, _, hcl6, h3⟩)
  obtain ⟨g₀, hfr⟩ := X'.frames_eq
  have hcell9 : ((T.setVm vm').setFrames (.throwing q :: below)).heap[q]? = some ce := by
    show T.heap[q]? = some ce
    rw [hT]; exact hcell
  have hend : Ended ((T.setVm vm').setFrames (.throwing q :: below)) below (.threw q) := State.frames_setFrames _ (State.cur_lt_of_frames hfr)
  refine ⟨(T.setVm vm').setFrames (.throwing q :: below), ?_, .threw q, X'.here.running, hend, Or.inr ⟨q, rfl, E, ce, locs, hx _ hT (X'.ends _).1.alike, hcell9, hv, hcl, (X'.ends _).1, (X'.ends _).2.mono hc hs, hf⟩⟩
  rw [X.pushThrowing_eq]
  exact st
/-- a thing of a world lies in the heap -/
theorem vx_lt {D : va_G} {cl : List vw_C} {ws : va_W} {H1 : Heap} (h : va_P D cl ws H1) {k : Nat} {q : Nat × va_E} (hk : ws[k]? = some q) : q.1 < H1.size := (h k q hk).lt
end VXS
/-! ===== END ===== -/
/-! ===== BEGIN methods with a table of their own: called by a name, returning or throwing ===== -/
section VXH
/-! vx_backW, vx_callVX, vx_callSX, vx_callVW, vx_runVW, vx_runVX, vx_runSX, vx_ofWH follow the same proofs as their sisters above (Free/Laws.lean, Shelf42/LK1.lean); vx_outP calls Shelf42/NT130.lean (outThrough). -/
section
variable {l : Launch} {R : Room} {p : Program} {e : Env} {below : List Frame} {s : State} {sargs : Array Value} {y : MethodName} {len W9 : Nat}
theorem vx_backW {ws : List Cond} {rm : Room} {Pc : Array Value → State → Prop} {Qc : Array Value → State → Outcome → State → Prop} {XC : String → State → State → Prop} {mc ms : Nat} {free : Addr → Prop} {bytes : ByteArray} {maxL : Nat} {ret : Option FieldType} {hh : List (Nat × Nat × Nat × Nat)}
    (hM : vx_Met l y ws rm Pc Qc XC mc ms free) (hblind : FrameBlind Pc) (hrc : rm.cells = mc) (hrs : rm.slots = ms)
    (hframes : rm.frames + 1 ≤ R.frames) (hlocals : W9 + (maxL + 11) + rm.locals ≤ R.locals)
    (hws : ∀ w ∈ ws, ∀ a' U, s.WarmedH U.vm → w.before a' U = true) (hcode : Cond.codeWith y bytes maxL ret hh ∈ ws) (hinit : ∀ a' U, s.WarmedH U.vm → (Cond.initialized y.cls).before a' U = true) :
    vx_Back l R p e below s sargs y len W9 (PreOf R mc ms Pc) (PostOf Qc mc ms free) (vx_Post XC mc ms free) := by
  intro m meth c A g ig mk a X hg hsize hdg hW hn hp
  have h1 : (headSpec ws rm).pre.before a A.U = true := atoms_intro fun w hw => hws w hw _ _ X.warmed
  have h2 : (Cond.codeWith y bytes maxL ret hh).before a A.U = true := hws _ hcode _ _ X.warmed
  have h3 : (Cond.initialized y.cls).before a A.U = true := hinit _ _ X.warmed
  have h4 : A.cells + (headSpec ws rm).room.cells ≤ R.cells := by rw [show (headSpec ws rm).room.cells = mc from hrc]; exact hp.1
  have h5 : A.slots + (headSpec ws rm).room.slots ≤ R.slots := by rw [show (headSpec ws rm).room.slots = ms from hrs]; exact hp.2.1
  have hPc : Pc a (A.U.calling g mk a) := hblind _ _ _ _ hp.2.2
  obtain ⟨U, Ls, c0, s0⟩ := A
  dsimp only [Pt.U, Pt.locs, Pt.cells, Pt.slots] at h1 h2 h3 h4 h5 X hn hPc ⊢
  obtain ⟨m9, methY, cY, hn9, hmY, hcY, -, hlY, -⟩ := Cond.codeWith_spec h2
  cases Option.some.inj (hn9.symm.trans hn)
  obtain ⟨kY, hkY, -⟩ := className_of_methodNamed hn
  have hinitY : kY.init = .initialized := Cond.initialized_spec (findClass_of_methodNamed hn) hkY h3
  have h : At U g.method c below := by rw [hg]; exact X.here
  have hlocals9 : W9 + (maxL + 11) + (headSpec ws rm).room.locals ≤ R.locals := hlocals
  have happ : (headSpec ws rm).appliesLoose y e.platform (U.calling g mk a) = true :=
    Spec.appliesLoose_calling (g := g) h hdg hn hkY hinitY
      (X.room_calling (g := g) (R' := (headSpec ws rm).room) hsize hmY hcY hframes (by rw [hlY]; omega) h4 h5) h1
  obtain ⟨mid, hmid⟩ := h.above
  have hfr : (U.setTop g).frames = (.java g :: mid) ++ below := by rw [State.frames_setTop' g h.top, hmid]; rfl
  obtain ⟨o, s₂, hsteps, -, hend, hq⟩ := Steps.callFree hM p X.admits X.cas X.clock (acts := []) hfr happ hPc trivial
  have hq' : vx_Q Qc XC mc ms free a (U.calling g mk a) o s₂ := hq
  rw [State.frames_setTop' g h.top] at hend
  obtain ⟨g₀, hg0⟩ := Option.isSome_iff_exists.mp h.top
  obtain ⟨r, hr⟩ := State.topJava?_eq_some.mp hg0
  have hr' : (({ U with heap := s₂.heap, slotsUsed := s₂.slotsUsed } : State).setVm s₂.vm).frames = .java g₀ :: r := hr
  rcases hq' with ⟨hqc, L, hfe, hL⟩ | ⟨q, rfl, E, ce, L, hx, hce, hcv, hcl, hW₂, hsm, hL⟩
  · obtain ⟨⟨v, rfl⟩, hW₂, e2, q2, q3, q4, q5, q6⟩ := id hfe
    have e3 : s₂ = ({ (U.calling g mk a).setFrames s₂.frames with heap := s₂.heap, slotsUsed := s₂.slotsUsed } : State).setVm s₂.vm := by
      have : s₂ = ({ s₂ with vm := (U.calling g mk a).vm } : State).setVm s₂.vm := rfl
      rw [e2] at this
      exact this
    obtain ⟨c₂, i₂, len₂, hc₂, hd₂, hf₂⟩ := hend
    have hW' : U.WarmedH s₂.vm := hW₂
    have hcc : c₂ = c := by
      have h1 : s₂.code? g.method = U.code? g.method := by
        rw [State.code?_eq, State.code?_eq, hW'.alike.method?]
      exact Option.some.inj (hc₂.symm.trans (h1.trans h.code))
    subst hcc
    have hlen : len₂ = len := by rw [hdg] at hd₂; cases hd₂; rfl
    subst hlen
    have hs₂ : s₂ = (({ U with heap := s₂.heap, slotsUsed := s₂.slotsUsed } : State).setVm s₂.vm).setTop { g with pc := g.pc + len₂, stack := v.toList ++ g.stack } := by
      refine e3.trans ?_
      rw [hf₂, State.calling_eq h.top, State.setFrames_setFrames, State.setTop_of_frames _ hr', hr]
      rfl
    have hsame : U.sameButNew ({ U with heap := s₂.heap, slotsUsed := s₂.slotsUsed } : State) L mc ms := by
      refine ⟨?_, q2, q3, q4, q5, q6⟩
      obtain ⟨t, ht, -⟩ := State.frames_cons hr
      show ({ U with heap := s₂.heap, slotsUsed := s₂.slotsUsed } : State) = { U.setFrames U.frames with heap := s₂.heap, slotsUsed := s₂.slotsUsed }
      rw [State.setFrames_self ht]
    subst hg
    refine Or.inl ⟨v, ⟨(({ U with heap := s₂.heap, slotsUsed := s₂.slotsUsed } : State).setVm s₂.vm), Ls ++ L, c0 + mc, s0 + ms⟩,
      ⟨X.admits, X.cas, X.clock, X.frames, X.room, X.hears, X.method, X.code, (X.here.setHeapUsed s₂.heap s₂.slotsUsed).setVm hW'.alike, X.tail, State.WarmedH.trans X.warmed hW', X.limits, X.bytes, X.same.trans (hsame.setVm s.vm)⟩,
      ⟨g, mk, s₂, L, rfl, rfl, hqc, rfl, hL, rfl, rfl⟩, ?_⟩
    show Steps p.tables e below _ ((({ U with heap := s₂.heap, slotsUsed := s₂.slotsUsed } : State).setVm s₂.vm).setTop { g with pc := g.pc + len₂, stack := v.toList ++ g.stack })
    rw [← hs₂]
    exact hsteps
  · obtain ⟨e2, q2, q3, q4, q5, q6⟩ := id hsm
    have e3 : s₂ = ({ (U.calling g mk a).setFrames s₂.frames with heap := s₂.heap, slotsUsed := s₂.slotsUsed } : State).setVm s₂.vm := by
      have : s₂ = ({ s₂ with vm := (U.calling g mk a).vm } : State).setVm s₂.vm := rfl
      rw [e2] at this
      exact this
    have hf₂ : s₂.frames = .throwing q :: .java g :: U.frames.tail := hend
    have hW' : U.WarmedH s₂.vm := hW₂
    have hs₂ : s₂ = ((({ U with heap := s₂.heap, slotsUsed := s₂.slotsUsed } : State).setVm s₂.vm).setTop g).pushFrame (.throwing q) := by
      refine e3.trans ?_
      rw [hf₂, State.calling_eq h.top, State.setFrames_setFrames, State.pushFrame, State.frames_setTop _ hr', State.setTop_of_frames _ hr', State.setFrames_setFrames, hr]
      rfl
    have hsame : U.sameButNew ({ U with heap := s₂.heap, slotsUsed := s₂.slotsUsed } : State) L mc ms := by
      refine ⟨?_, q2, q3, q4, q5, q6⟩
      obtain ⟨t, ht, -⟩ := State.frames_cons hr
      show ({ U with heap := s₂.heap, slotsUsed := s₂.slotsUsed } : State) = { U.setFrames U.frames with heap := s₂.heap, slotsUsed := s₂.slotsUsed }
      rw [State.setFrames_self ht]
    subst hg
    refine Or.inr ⟨q, ⟨(({ U with heap := s₂.heap, slotsUsed := s₂.slotsUsed } : State).setVm s₂.vm), Ls ++ L, c0 + mc, s0 + ms⟩,
      ⟨X.admits, X.cas, X.clock, X.frames, X.room, X.hears, X.method, X.code, (X.here.setHeapUsed s₂.heap s₂.slotsUsed).setVm hW'.alike, X.tail, State.WarmedH.trans X.warmed hW', X.limits, X.bytes, X.same.trans (hsame.setVm s.vm)⟩,
      ⟨g, mk, s₂, L, E, ce, rfl, rfl, hx, hce, hcv, hcl, rfl, hL, rfl, rfl⟩, ?_⟩
    show Steps p.tables e below _ (((({ U with heap := s₂.heap, slotsUsed := s₂.slotsUsed } : State).setVm s₂.vm).setTop g).pushFrame (.throwing q))
    rw [← hs₂]
    exact hsteps
end
variable {p : Program} {l : Launch} {e : Env} {R : Room} {s : State} {m : MethodId} {args : Array Value} {below : List Frame} {meth : Method} {c : Code} {T : State} {H : Heap} {locs : List Loc} {cells slots : Nat}
theorem vx_callVX (X : Stand p l e R s m args below meth c T locs cells slots) (hexec : p.tables.exec = Jvm.exec) {own C : String} {index : Nat} {y : MethodName} {bytes : ByteArray} {maxL : Nat} {ret : Option FieldType} {hh : List (Nat × Nat × Nat × Nat)}
    (hown : s.vm.findClass own = some m.cls) (hlink : (Cond.methodLink own index y).before args s = true) (hinst : (Cond.instanceMethod y).before args s = true) (hsel : (Cond.selects C y y).before args s = true)
    (hcode : (Cond.codeWith y bytes maxL ret hh).before args s = true) (hy : y.cls ≠ "java/lang/invoke/MethodHandle" ∧ y.cls ≠ "java/lang/invoke/VarHandle")
    {W9 : Nat} {Pre : Pt → Array Value → Prop} {Post : Pt → Array Value → Option Value → Pt → Prop} {PostX : Pt → Array Value → Addr → Pt → Prop} (hK : vx_Back l R p e below s args y 3 W9 Pre Post PostX)
    {b : Addr} {cellB : Cell} (hcell : T.heap[b]? = some cellB) (hobj : cellB.vm.isStatics = false) (hcls : s.vm.findClass C = some cellB.cls)
    {g : JFrame} (hg : g.method = m) (hsize : g.locals.size = c.maxLocals) {argsL rest : List Value} (hlen : ∀ sig, parseMethodDescriptor y.desc = some sig → argsL.length = sig.parameters.length)
    (hstack : g.stack = argsL.reverse ++ .ref b :: rest) (hW : 2 * g.monitorRoom + (rest.map fun v => v.category).sum ≤ W9) (hdg : decode c.code g.pc = .ok (.invokevirtual index, 3))
    (hpre : ∀ vm₁, s.WarmedH vm₁ → Pre ⟨T.setVm vm₁, locs, cells, slots⟩ (Value.ref b :: argsL).toArray) :
    (∃ (v : Option Value) (vm₁ : Vm) (B : Pt), s.WarmedH vm₁ ∧ Stand p l e R s m args below meth c B.U B.locs B.cells B.slots ∧ Post ⟨T.setVm vm₁, locs, cells, slots⟩ (Value.ref b :: argsL).toArray v B ∧
      ∀ target, Steps p.tables e below (B.U.setTop { g with pc := g.pc + 3, stack := v.toList ++ rest }) target → Steps p.tables e below (T.setTop g) target) ∨
    (∃ (q : Addr) (vm₁ : Vm) (B : Pt), s.WarmedH vm₁ ∧ Stand p l e R s m args below meth c B.U B.locs B.cells B.slots ∧ PostX ⟨T.setVm vm₁, locs, cells, slots⟩ (Value.ref b :: argsL).toArray q B ∧
      Steps p.tables e below (T.setTop g) ((B.U.setTop { g with stack := rest }).pushFrame (.throwing q))) := by
  obtain ⟨mk, methM, hnamed, hmethM, hstM, habM⟩ := Cond.instanceMethod_spec hinst
  obtain ⟨m8, methM', cM, hn8, hmethM', -, -, -, -, -, -, hsigM⟩ := Cond.codeWith_spec hcode
  cases Option.some.inj (hn8.symm.trans hnamed)
  cases hmethM.symm.trans hmethM'
  obtain ⟨c2, r2, m2, q1, q2, q3, q4, kP, hkP, hkPi⟩ := Cond.selects_spec hsel
  cases hcls.symm.trans q1
  cases (State.methodFound?_of_named hnamed hy).symm.trans q2
  cases hnamed.symm.trans q3
  have hselP : selectMethod e.platform s.vm cellB.cls mk = .method mk := by rw [Launch.admits_selectMethod X.admits]; exact q4
  obtain ⟨vm₁, X₁, hstep₁⟩ := X.invokevirtual hexec hown hlink hnamed hmethM hstM hkP hkPi hy (a := b) (cell := cellB) hcell
    (fun z h => by rw [h] at hobj; cases hobj) hselP hmethM habM hkP hkPi (g := g) hg (argsL := argsL) (rest := rest) (hlen _ hsigM) hstack hdg
  rcases hK m meth c ⟨T.setVm vm₁, locs, cells, slots⟩ { g with stack := rest } (.invokevirtual index) mk (Value.ref b :: argsL).toArray X₁ hg hsize hdg hW (X₁.named hnamed) (hpre vm₁ X₁.warmed) with ⟨v, B, X', hpost, hsteps⟩ | ⟨q, B, X', hpost, hsteps⟩
  · exact Or.inl ⟨v, vm₁, B, X₁.warmed, X', hpost, fun target h => hstep₁ _ fun acts => by rw [doInvoke_state]; exact hsteps.trans h⟩
  · exact Or.inr ⟨q, vm₁, B, X₁.warmed, X', hpost, hstep₁ _ fun acts => by rw [doInvoke_state]; exact hsteps⟩
theorem vx_callSX (X : Stand p l e R s m args below meth c T locs cells slots) (hexec : p.tables.exec = Jvm.exec) {own : String} {index : Nat} {y : MethodName} {bytes : ByteArray} {maxL : Nat} {ret : Option FieldType} {hh : List (Nat × Nat × Nat × Nat)}
    (hown : s.vm.findClass own = some m.cls) (hlink : (Cond.methodLink own index y).before args s = true) (hstat : (Cond.static y).before args s = true) (hinit : (Cond.initialized y.cls).before args s = true)
    (hcode : (Cond.codeWith y bytes maxL ret hh).before args s = true) (hy : y.cls ≠ "java/lang/invoke/MethodHandle" ∧ y.cls ≠ "java/lang/invoke/VarHandle")
    {W9 : Nat} {Pre : Pt → Array Value → Prop} {Post : Pt → Array Value → Option Value → Pt → Prop} {PostX : Pt → Array Value → Addr → Pt → Prop} (hK : vx_Back l R p e below s args y 3 W9 Pre Post PostX)
    {g : JFrame} (hg : g.method = m) (hsize : g.locals.size = c.maxLocals) {argsL rest : List Value} (hlen : ∀ sig, parseMethodDescriptor y.desc = some sig → argsL.length = sig.parameters.length)
    (hstack : g.stack = argsL.reverse ++ rest) (hW : 2 * g.monitorRoom + (rest.map fun v => v.category).sum ≤ W9) (hdg : decode c.code g.pc = .ok (.invokestatic index, 3))
    (hpre : ∀ vm₁, s.WarmedH vm₁ → Pre ⟨T.setVm vm₁, locs, cells, slots⟩ argsL.toArray) :
    (∃ (v : Option Value) (vm₁ : Vm) (B : Pt), s.WarmedH vm₁ ∧ Stand p l e R s m args below meth c B.U B.locs B.cells B.slots ∧ Post ⟨T.setVm vm₁, locs, cells, slots⟩ argsL.toArray v B ∧
      ∀ target, Steps p.tables e below (B.U.setTop { g with pc := g.pc + 3, stack := v.toList ++ rest }) target → Steps p.tables e below (T.setTop g) target) ∨
    (∃ (q : Addr) (vm₁ : Vm) (B : Pt), s.WarmedH vm₁ ∧ Stand p l e R s m args below meth c B.U B.locs B.cells B.slots ∧ PostX ⟨T.setVm vm₁, locs, cells, slots⟩ argsL.toArray q B ∧
      Steps p.tables e below (T.setTop g) ((B.U.setTop { g with stack := rest }).pushFrame (.throwing q))) := by
  obtain ⟨mk, methM, cM, hnamed, hmethM, -, -, -, -, -, -, hsigM⟩ := Cond.codeWith_spec hcode
  have hstatic : methM.isStatic = true := Cond.static_spec hnamed hmethM hstat
  obtain ⟨kP, hkP, -⟩ := className_of_methodNamed hnamed
  have hinitP : kP.init = .initialized := Cond.initialized_spec (findClass_of_methodNamed hnamed) hkP hinit
  obtain ⟨vm₁, X₁, hstep₁⟩ := X.invokestatic hexec hown hlink hnamed hmethM hstatic hkP hinitP hy (g := g) hg (argsL := argsL) (rest := rest) (hlen _ hsigM) hstack hdg
  rcases hK m meth c ⟨T.setVm vm₁, locs, cells, slots⟩ { g with stack := rest } (.invokestatic index) mk argsL.toArray X₁ hg hsize hdg hW (X₁.named hnamed) (hpre vm₁ X₁.warmed) with ⟨v, B, X', hpost, hsteps⟩ | ⟨q, B, X', hpost, hsteps⟩
  · exact Or.inl ⟨v, vm₁, B, X₁.warmed, X', hpost, fun target h => hstep₁ _ fun acts => by rw [doInvoke_state]; exact hsteps.trans h⟩
  · exact Or.inr ⟨q, vm₁, B, X₁.warmed, X', hpost, hstep₁ _ fun acts => by rw [doInvoke_state]; exact hsteps⟩
theorem vx_callVW (X : Stand p l e R s m args below meth c T locs cells slots) (hexec : p.tables.exec = Jvm.exec) {own C : String} {index : Nat} {y : MethodName} {bytes : ByteArray} {maxL : Nat} {ret : Option FieldType} {hh : List (Nat × Nat × Nat × Nat)}
    (hown : s.vm.findClass own = some m.cls) (hlink : (Cond.methodLink own index y).before args s = true) (hinst : (Cond.instanceMethod y).before args s = true) (hsel : (Cond.selects C y y).before args s = true)
    (hcode : (Cond.codeWith y bytes maxL ret hh).before args s = true) (hy : y.cls ≠ "java/lang/invoke/MethodHandle" ∧ y.cls ≠ "java/lang/invoke/VarHandle")
    {W9 : Nat} {Pre : Pt → Array Value → Prop} {Post : Pt → Array Value → Option Value → Pt → Prop} (hK : Back l R p e below s args y 3 W9 Pre Post)
    {b : Addr} {cellB : Cell} (hcell : T.heap[b]? = some cellB) (hobj : cellB.vm.isStatics = false) (hcls : s.vm.findClass C = some cellB.cls)
    {g : JFrame} (hg : g.method = m) (hsize : g.locals.size = c.maxLocals) {argsL rest : List Value} (hlen : ∀ sig, parseMethodDescriptor y.desc = some sig → argsL.length = sig.parameters.length)
    (hstack : g.stack = argsL.reverse ++ .ref b :: rest) (hW : 2 * g.monitorRoom + (rest.map fun v => v.category).sum ≤ W9) (hdg : decode c.code g.pc = .ok (.invokevirtual index, 3))
    (hpre : ∀ vm₁, s.WarmedH vm₁ → Pre ⟨T.setVm vm₁, locs, cells, slots⟩ (Value.ref b :: argsL).toArray) :
    ∃ (v : Option Value) (vm₁ : Vm) (B : Pt), s.WarmedH vm₁ ∧ Stand p l e R s m args below meth c B.U B.locs B.cells B.slots ∧ Post ⟨T.setVm vm₁, locs, cells, slots⟩ (Value.ref b :: argsL).toArray v B ∧
      ∀ target, Steps p.tables e below (B.U.setTop { g with pc := g.pc + 3, stack := v.toList ++ rest }) target → Steps p.tables e below (T.setTop g) target := by
  obtain ⟨mk, methM, hnamed, hmethM, hstM, habM⟩ := Cond.instanceMethod_spec hinst
  obtain ⟨m8, methM', cM, hn8, hmethM', -, -, -, -, -, -, hsigM⟩ := Cond.codeWith_spec hcode
  cases Option.some.inj (hn8.symm.trans hnamed)
  cases hmethM.symm.trans hmethM'
  obtain ⟨c2, r2, m2, q1, q2, q3, q4, kP, hkP, hkPi⟩ := Cond.selects_spec hsel
  cases hcls.symm.trans q1
  cases (State.methodFound?_of_named hnamed hy).symm.trans q2
  cases hnamed.symm.trans q3
  have hselP : selectMethod e.platform s.vm cellB.cls mk = .method mk := by rw [Launch.admits_selectMethod X.admits]; exact q4
  obtain ⟨vm₁, X₁, hstep₁⟩ := X.invokevirtual hexec hown hlink hnamed hmethM hstM hkP hkPi hy (a := b) (cell := cellB) hcell
    (fun z h => by rw [h] at hobj; cases hobj) hselP hmethM habM hkP hkPi (g := g) hg (argsL := argsL) (rest := rest) (hlen _ hsigM) hstack hdg
  obtain ⟨v, B, X', hpost, hsteps⟩ := hK m meth c ⟨T.setVm vm₁, locs, cells, slots⟩ { g with stack := rest } (.invokevirtual index) mk (Value.ref b :: argsL).toArray X₁ hg hsize hdg hW (X₁.named hnamed) (hpre vm₁ X₁.warmed)
  exact ⟨v, vm₁, B, X₁.warmed, X', hpost, fun target h => hstep₁ _ fun acts => by rw [doInvoke_state]; exact hsteps.trans h⟩
abbrev vx_CVW (R : Room) (s : State) (args : Array Value) (own C : String) (index : Nat) (y : MethodName) (bytes : ByteArray) (maxL : Nat) (ret : Option FieldType) (hh : List (Nat × Nat × Nat × Nat)) (ws : List Cond) (rm : Room) (mc ms n : Nat) : Prop :=
  (rm.cells = mc ∧ rm.slots = ms ∧ rm.frames + 1 ≤ R.frames ∧ 8 + (maxL + 11) + rm.locals ≤ R.locals ∧ (∀ w ∈ ws, ∀ (a' : Array Value) (U : State), s.WarmedH U.vm → w.before a' U = true) ∧ Cond.codeWith y bytes maxL ret hh ∈ ws) ∧
  (Cond.codeWith y bytes maxL ret hh).before args s = true ∧ (Cond.initialized y.cls).before args s = true ∧ (y.cls ≠ "java/lang/invoke/MethodHandle" ∧ y.cls ≠ "java/lang/invoke/VarHandle") ∧
  (∀ sig, parseMethodDescriptor y.desc = some sig → n = sig.parameters.length) ∧ (Cond.methodLink own index y).before args s = true ∧ (Cond.instanceMethod y).before args s = true ∧ (Cond.selects C y y).before args s = true
theorem vx_cwVW {own C : String} {index maxL mc ms : Nat} {y : MethodName} {bytes : ByteArray} {ret : Option FieldType} {hh : List (Nat × Nat × Nat × Nat)} {Ts ws ws' : List Cond} {rm : Room} (n : Nat) (ht : ∀ w ∈ Ts, w.before args s = true) (hT : GoodIn Ts (wsV own index C y ws)) (hw : ws = Cond.codeWith y bytes maxL ret hh :: ws') (hrc : rm.cells = mc) (hrs : rm.slots = ms)
    (hd : y.cls = C ∧ y.cls ≠ "java/lang/invoke/MethodHandle" ∧ y.cls ≠ "java/lang/invoke/VarHandle" ∧ (parseMethodDescriptor y.desc).map (fun d => d.parameters.length) = some n) (hR : rm.frames + 1 ≤ R.frames ∧ 8 + (maxL + 11) + rm.locals ≤ R.locals) :
    vx_CVW R s args own C index y bytes maxL ret hh ws rm mc ms n := by
  obtain ⟨hC, hd⟩ := hd
  subst hC
  have ok : ∀ w ∈ wsV own index y.cls y ws, w.before args s = true := fun w h => ht w (hT w h).1
  have hG : GoodIn Ts ws := fun w h => hT w (by unfold wsV; exact List.mem_append_right _ h)
  have hc : Cond.codeWith y bytes maxL ret hh ∈ ws := by rw [hw]; exact List.mem_cons_self
  refine ⟨⟨hrc, hrs, hR.1, hR.2, pay_in ht hG, hc⟩, ht _ (hG _ hc).1, ok _ (by simp [wsV]), ⟨hd.1, hd.2.1⟩, fun sig h => ?_, ok _ (by simp [wsV]), ok _ (by simp [wsV]), ok _ (by simp [wsV])⟩
  have h2 := hd.2.2
  rw [h] at h2
  exact (Option.some.inj h2).symm
theorem vx_runVW {y : MethodName} {bytes cc : ByteArray} {maxL nL mc ms n index : Nat} {ret : Option FieldType} {hh : List (Nat × Nat × Nat × Nat)} {ws : List Cond} {rm : Room} {Pc : Array Value → State → Prop} {Qc : Array Value → State → Outcome → State → Prop} {free : Addr → Prop} {Ts : List Cond} {own C : String} {b : Addr} {As rest : List Value} {g : JFrame}
    (S : CallFix p m c cc nL s args Ts own) (hM : Met l y ws rm Pc Qc mc ms free) (cw : vx_CVW R s args own C index y bytes maxL ret hh ws rm mc ms n) (hp : PreV s H C b Pc As)
    (hg : g.method = m) (hn : As.length = n) (hsize : g.locals.size = nL) (hstack : g.stack = As.reverse ++ .ref b :: rest) (hW : 2 * g.monitorRoom + (rest.map fun v => v.category).sum ≤ 8) (hdg : decode cc g.pc = .ok (.invokevirtual index, 3)) (hf : cells + mc ≤ R.cells ∧ slots + ms ≤ R.slots) :
    va_Run p l e R s m args below meth c H locs cells slots mc ms g rest (Qc (Value.ref b :: As).toArray) free := by
  obtain ⟨⟨hrc, hrs, hfr, hlo, hws, hcw⟩, hcode, hini, hy, hlen, hl, hin, hse⟩ := cw
  have hK : Back l R p e below s args y 3 8 (PreOf R mc ms Pc) (PostOf Qc mc ms free) := va_backW (hh := hh) (bytes := bytes) (maxL := maxL) (ret := ret) hM hp.1 hrc hrs hfr hlo hws hcw (fun a' U hW => word_at hW (Or.inl (by first | rfl | simp [Cond.onTables, Cond.keeps, Cond.steady])) hini)
  obtain ⟨hx, hb, hml, ho, -⟩ := S
  obtain ⟨-, ⟨cellB, hcB, hoB, hclB⟩, hPc⟩ := hp
  intro T hT X
  obtain ⟨v, vm₁, ⟨U', l2, c2, s2⟩, hW₁, X', ⟨g', mk, t, L, e1, e2, hq, h1, hL, h2, h3⟩, st⟩ := vx_callVW X hx (C := C) (hh := hh) (bytes := bytes) (maxL := maxL) (ret := ret) ho hl hin hse hcode hy hK (by rw [hT]; exact hcB) hoB hclB hg (hsize.trans hml.symm) (argsL := As) (rest := rest) (fun sig h => hn.trans (hlen sig h)) hstack hW (by rw [hb]; exact hdg)
    (fun vm₁ hW₁ => ⟨hf.1, hf.2, hPc (T.setVm vm₁) hT hW₁⟩)
  dsimp only [Pt.U, Pt.locs, Pt.cells, Pt.slots] at X' e1 e2 h1 h2 h3 st
  subst h1; subst h2; subst h3
  exact ⟨v, (T.setVm vm₁).calling g' mk (Value.ref b :: As).toArray, t, U', L, hT, X', hL, e1, e2, hq, st⟩
section
variable {y : MethodName} {bytes cc : ByteArray} {maxL nL mc ms n index : Nat} {ret : Option FieldType} {ws : List Cond} {rm : Room} {Pc : Array Value → State → Prop} {Qc : Array Value → State → Outcome → State → Prop} {XC : String → State → State → Prop} {free : Addr → Prop} {Ts : List Cond} {own C : String} {b : Addr} {As rest : List Value} {g : JFrame}
theorem vx_runVX {hh : List (Nat × Nat × Nat × Nat)} (S : CallFix p m c cc nL s args Ts own) (hM : vx_Met l y ws rm Pc Qc XC mc ms free) (cw : vx_CVW R s args own C index y bytes maxL ret hh ws rm mc ms n) (hp : PreV s H C b Pc As)
    (hg : g.method = m) (hn : As.length = n) (hsize : g.locals.size = nL) (hstack : g.stack = As.reverse ++ .ref b :: rest) (hW : 2 * g.monitorRoom + (rest.map fun v => v.category).sum ≤ 8) (hdg : decode cc g.pc = .ok (.invokevirtual index, 3)) (hf : cells + mc ≤ R.cells ∧ slots + ms ≤ R.slots) :
    vx_Run p l e R s m args below meth c H locs cells slots mc ms g rest (Qc (Value.ref b :: As).toArray) XC free := by
  obtain ⟨⟨hrc, hrs, hfr, hlo, hws, hcw⟩, hcode, hini, hy, hlen, hl, hin, hse⟩ := cw
  have hK : vx_Back l R p e below s args y 3 8 (PreOf R mc ms Pc) (PostOf Qc mc ms free) (vx_Post XC mc ms free) := vx_backW (hh := hh) (bytes := bytes) (maxL := maxL) (ret := ret) hM hp.1 hrc hrs hfr hlo hws hcw (fun a' U hW => word_at hW (Or.inl (by first | rfl | simp [Cond.onTables, Cond.keeps, Cond.steady])) hini)
  obtain ⟨hx, hb, hml, ho, -⟩ := S
  obtain ⟨-, ⟨cellB, hcB, hoB, hclB⟩, hPc⟩ := hp
  intro T hT X
  rcases vx_callVX X hx (C := C) (hh := hh) (bytes := bytes) (maxL := maxL) (ret := ret) ho hl hin hse hcode hy hK (by rw [hT]; exact hcB) hoB hclB hg (hsize.trans hml.symm) (argsL := As) (rest := rest) (fun sig h => hn.trans (hlen sig h)) hstack hW (by rw [hb]; exact hdg)
    (fun vm₁ hW₁ => ⟨hf.1, hf.2, hPc (T.setVm vm₁) hT hW₁⟩) with ⟨v, vm₁, ⟨U', l2, c2, s2⟩, hW₁, X', ⟨g', mk, t, L, e1, e2, hq, h1, hL, h2, h3⟩, st⟩ | ⟨q, vm₁, ⟨U', l2, c2, s2⟩, hW₁, X', ⟨g', mk, t, L, E, ce, e1, e2, hq, hce, hcv, hcl, h1, hL, h2, h3⟩, st⟩
  · dsimp only [Pt.U, Pt.locs, Pt.cells, Pt.slots] at X' e1 e2 h1 h2 h3 st
    subst h1; subst h2; subst h3
    exact Or.inl ⟨v, (T.setVm vm₁).calling g' mk (Value.ref b :: As).toArray, t, U', L, hT, X', hL, e1, e2, hq, st⟩
  · dsimp only [Pt.U, Pt.locs, Pt.cells, Pt.slots] at X' e1 e2 h1 h2 h3 st hcl
    subst h1; subst h2; subst h3
    exact Or.inr ⟨q, (T.setVm vm₁).calling g' mk (Value.ref b :: As).toArray, t, U', L, E, ce, hT, X', hL, e1, e2, hq, hce, hcv, vx_cls hW₁ hcl, st⟩
theorem vx_runSX {hh : List (Nat × Nat × Nat × Nat)} (S : CallFix p m c cc nL s args Ts own) (hM : vx_Met l y ws rm Pc Qc XC mc ms free) (cw : vx_CSW R s args own index y bytes maxL ret hh ws rm mc ms n) (hp : PreS s H Pc As)
    (hg : g.method = m) (hn : As.length = n) (hsize : g.locals.size = nL) (hstack : g.stack = As.reverse ++ rest) (hW : 2 * g.monitorRoom + (rest.map fun v => v.category).sum ≤ 8) (hdg : decode cc g.pc = .ok (.invokestatic index, 3)) (hf : cells + mc ≤ R.cells ∧ slots + ms ≤ R.slots) :
    vx_Run p l e R s m args below meth c H locs cells slots mc ms g rest (Qc As.toArray) XC free := by
  obtain ⟨⟨hrc, hrs, hfr, hlo, hws, hcw⟩, hcode, hini, hy, hlen, hl, hstt⟩ := cw
  have hK : vx_Back l R p e below s args y 3 8 (PreOf R mc ms Pc) (PostOf Qc mc ms free) (vx_Post XC mc ms free) := vx_backW (hh := hh) (bytes := bytes) (maxL := maxL) (ret := ret) hM hp.1 hrc hrs hfr hlo hws hcw (fun a' U hW => word_at hW (Or.inl (by first | rfl | simp [Cond.onTables, Cond.keeps, Cond.steady])) hini)
  obtain ⟨hx, hb, hml, ho, -⟩ := S
  intro T hT X
  rcases vx_callSX X hx (hh := hh) (bytes := bytes) (maxL := maxL) (ret := ret) ho hl hstt hini hcode hy hK hg (hsize.trans hml.symm) (argsL := As) (rest := rest) (fun sig h => hn.trans (hlen sig h)) hstack hW (by rw [hb]; exact hdg)
    (fun vm₁ hW₁ => ⟨hf.1, hf.2, hp.2 (T.setVm vm₁) hT hW₁⟩) with ⟨v, vm₁, ⟨U', l2, c2, s2⟩, hW₁, X', ⟨g', mk, t, L, e1, e2, hq, h1, hL, h2, h3⟩, st⟩ | ⟨q, vm₁, ⟨U', l2, c2, s2⟩, hW₁, X', ⟨g', mk, t, L, E, ce, e1, e2, hq, hce, hcv, hcl, h1, hL, h2, h3⟩, st⟩
  · dsimp only [Pt.U, Pt.locs, Pt.cells, Pt.slots] at X' e1 e2 h1 h2 h3 st
    subst h1; subst h2; subst h3
    exact Or.inl ⟨v, (T.setVm vm₁).calling g' mk As.toArray, t, U', L, hT, X', hL, e1, e2, hq, st⟩
  · dsimp only [Pt.U, Pt.locs, Pt.cells, Pt.slots] at X' e1 e2 h1 h2 h3 st hcl
    subst h1; subst h2; subst h3
    exact Or.inr ⟨q, (T.setVm vm₁).calling g' mk As.toArray, t, U', L, E, ce, hT, X', hL, e1, e2, hq, hce, hcv, vx_cls hW₁ hcl, st⟩
end
end VXH
theorem vx_ofWH {l : Launch} {y : MethodName} {ws ws' : List Cond} {rm : Room} {Pc : Array Value → State → Prop} {Qc : Array Value → State → Outcome → State → Prop} {XC : String → State → State → Prop} {mc ms : Nat} {free : Addr → Prop} {cc : ByteArray} {maxL : Nat} {ret : Option FieldType} {hh : List (Nat × Nat × Nat × Nat)}
    (hy : plainName y.cls = true) (hw : ws = Cond.codeWith y cc maxL ret hh :: ws')
    (body : ∀ p e s m args below meth c s₁, BodyLoose p l y (headSpec ws rm) cc maxL ret e s m args below meth c s₁ → c.maxLocals = maxL → Pc args s →
      W p l e (headSpec ws rm).room s m args below meth c s.heap [] 0 0 (vx_MQ below Qc XC args s mc ms free) (entryFrame m args maxL)) : vx_Met l y ws rm Pc Qc XC mc ms free := by
  refine MetFree.of_bodyS (code := cc) (maxLocals := maxL) (ret := ret) hy ?_ ?_
  · intro args s m h hn
    obtain ⟨m9, meth, c, hn9, h1, h2, h3, h4, -, h5, h6, -⟩ := Cond.codeWith_spec (atoms_spec (ws := ws) h _ (by rw [hw]; exact List.mem_cons_self))
    cases hn.symm.trans hn9
    exact ⟨meth, c, h1, h2, h3, h4, h5, h6⟩
  · intro p e s m args below meth c s₁ B hml hP _
    have hh0 : s₁.heap = s.heap := by rw [B.state]; rfl
    obtain ⟨t, a1, o, b1, b2, b3⟩ := body p e s m args below meth c s₁ B hml hP s₁ hh0 (Stand.of_body B)
    exact ⟨t, o, a1, b1, b2, b3⟩
/-! ===== END ===== -/

def RX0 : String := "KeyPlan$Assigning"
def TX0 : u_T := fun k => match k with
  | 0 => ("KeyPlan$Assigning", "wantedCommands", "[I", true)
  | 1 => ("KeyPlan$Assigning", "wantedContexts", "[I", true)
  | 2 => ("KeyPlan$Assigning", "wantedCount", "I", false)
  | 3 => ("KeyPlan$Assigning", "offeredStrokes", "[I", true)
  | 4 => ("KeyPlan$Assigning", "offeredCount", "I", false)
  | 5 => ("KeyPlan$Assigning", "solved", "Z", false)
  | 6 => ("KeyPlan$Assigning", "bestSum", "I", false)
  | 7 => ("KeyPlan$Assigning", "bestStrokes", "[I", true)
  | 8 => ("KeyPlan$Assigning", "trial", "[I", true)
  | 9 => ("KeyPlan$Assigning", "prices", "[[I", true)
  | 10 => ("KeyPlan$Assigning", "leastFrom", "[I", true)
  | _ => ("KeyPlan$Assigning", "meets", "[Z", true)
def tyX0 : Nat → FieldType := fun k => match k with
  | 0 => .array .int
  | 1 => .array .int
  | 2 => .int
  | 3 => .array .int
  | 4 => .int
  | 5 => .boolean
  | 6 => .int
  | 7 => .array .int
  | 8 => .array .int
  | 9 => .array (.array .int)
  | 10 => .array .int
  | _ => .array .boolean
theorem nmX0 : ∀ a, a < 12 → ∀ b, b < 12 → a ≠ b → (TX0 a).2.1 ≠ (TX0 b).2.1 := by decide +kernel
theorem tyX0_ok : ∀ k, k < 12 → parseFieldDescriptor (TX0 k).2.2.1 = some (tyX0 k) := by decide +kernel
abbrev cX0_init : ByteArray := prog_2_method_1_code
def yX0_init : MethodName := ⟨RX0, "<init>", "()V"⟩
abbrev cX0_forget : ByteArray := prog_2_method_2_code
def yX0_forget : MethodName := ⟨RX0, "forget", "()V"⟩
abbrev cX0_empty : ByteArray := prog_2_method_3_code
def yX0_empty : MethodName := ⟨RX0, "empty", "()V"⟩
abbrev cX0_addWanted : ByteArray := prog_2_method_4_code
def yX0_addWanted : MethodName := ⟨RX0, "addWanted", "(II)I"⟩
abbrev cX0_addOffered : ByteArray := prog_2_method_5_code
def yX0_addOffered : MethodName := ⟨RX0, "addOffered", "(I)I"⟩
abbrev cX0_isAmong : ByteArray := prog_2_method_6_code
def yX0_isAmong : MethodName := ⟨RX0, "isAmong", "([III)Z"⟩
abbrev cX0_solve : ByteArray := prog_2_method_7_code
def yX0_solve : MethodName := ⟨RX0, "solve", "(LKeyPlan$Costs;LKeyPlan$Contexts;)V"⟩
abbrev cX0_prepare : ByteArray := prog_2_method_8_code
def yX0_prepare : MethodName := ⟨RX0, "prepare", "(LKeyPlan$Costs;LKeyPlan$Contexts;)V"⟩
abbrev cX0_giveFrom : ByteArray := prog_2_method_9_code
def yX0_giveFrom : MethodName := ⟨RX0, "giveFrom", "(II)V"⟩
abbrev cX0_isUntaken : ByteArray := prog_2_method_10_code
def yX0_isUntaken : MethodName := ⟨RX0, "isUntaken", "(II)Z"⟩
abbrev cX0_remember : ByteArray := prog_2_method_11_code
def yX0_remember : MethodName := ⟨RX0, "remember", "(I)V"⟩
abbrev cX0_brokenHabits : ByteArray := prog_2_method_12_code
def yX0_brokenHabits : MethodName := ⟨RX0, "brokenHabits", "(LKeyPlan$Costs;)I"⟩
abbrev cX0_bestKey : ByteArray := prog_2_method_13_code
def yX0_bestKey : MethodName := ⟨RX0, "bestKey", "(I)I"⟩
def RX1 : String := "KeyPlan$Bindings"
def TX1 : u_T := fun k => match k with
  | 0 => ("KeyPlan$Bindings", "keys", "[I", true)
  | 1 => ("KeyPlan$Bindings", "commands", "[I", true)
  | _ => ("KeyPlan$Bindings", "size", "I", false)
def tyX1 : Nat → FieldType := fun k => match k with
  | 0 => .array .int
  | 1 => .array .int
  | _ => .int
theorem nmX1 : ∀ a, a < 3 → ∀ b, b < 3 → a ≠ b → (TX1 a).2.1 ≠ (TX1 b).2.1 := by decide +kernel
theorem tyX1_ok : ∀ k, k < 3 → parseFieldDescriptor (TX1 k).2.2.1 = some (tyX1 k) := by decide +kernel
abbrev cX1_init : ByteArray := prog_3_method_1_code
def yX1_init : MethodName := ⟨RX1, "<init>", "()V"⟩
abbrev cX1_key : ByteArray := prog_3_method_2_code
def yX1_key : MethodName := ⟨RX1, "key", "(II)I"⟩
abbrev cX1_contextOf : ByteArray := prog_3_method_3_code
def yX1_contextOf : MethodName := ⟨RX1, "contextOf", "(I)I"⟩
abbrev cX1_rowOf : ByteArray := prog_3_method_4_code
def yX1_rowOf : MethodName := ⟨RX1, "rowOf", "(I)I"⟩
abbrev cX1_place : ByteArray := prog_3_method_5_code
def yX1_place : MethodName := ⟨RX1, "place", "(I)I"⟩
abbrev cX1_isAt : ByteArray := prog_3_method_6_code
def yX1_isAt : MethodName := ⟨RX1, "isAt", "(II)Z"⟩
abbrev cX1_at : ByteArray := prog_3_method_7_code
def yX1_at : MethodName := ⟨RX1, "at", "(I)I"⟩
abbrev cX1_put : ByteArray := prog_3_method_8_code
def yX1_put : MethodName := ⟨RX1, "put", "(II)V"⟩
abbrev cX1_openGap : ByteArray := prog_3_method_9_code
def yX1_openGap : MethodName := ⟨RX1, "openGap", "(I)V"⟩
abbrev cX1_closeGap : ByteArray := prog_3_method_10_code
def yX1_closeGap : MethodName := ⟨RX1, "closeGap", "(I)V"⟩
abbrev cX1_copyFrom : ByteArray := prog_3_method_11_code
def yX1_copyFrom : MethodName := ⟨RX1, "copyFrom", "(LKeyPlan$Bindings;)V"⟩
abbrev cX1_differences : ByteArray := prog_3_method_12_code
def yX1_differences : MethodName := ⟨RX1, "differences", "(LKeyPlan$Bindings;[I)I"⟩
def RX2 : String := "KeyPlan$Contexts"
def TX2 : u_T := fun k => match k with
  | 0 => ("KeyPlan$Contexts", "outsides", "[I", true)
  | _ => ("KeyPlan$Contexts", "size", "I", false)
def tyX2 : Nat → FieldType := fun k => match k with
  | 0 => .array .int
  | _ => .int
theorem nmX2 : ∀ a, a < 2 → ∀ b, b < 2 → a ≠ b → (TX2 a).2.1 ≠ (TX2 b).2.1 := by decide +kernel
theorem tyX2_ok : ∀ k, k < 2 → parseFieldDescriptor (TX2 k).2.2.1 = some (tyX2 k) := by decide +kernel
abbrev cX2_init : ByteArray := prog_4_method_1_code
def yX2_init : MethodName := ⟨RX2, "<init>", "()V"⟩
abbrev cX2_hold : ByteArray := prog_4_method_2_code
def yX2_hold : MethodName := ⟨RX2, "hold", "(I)Z"⟩
abbrev cX2_add : ByteArray := prog_4_method_3_code
def yX2_add : MethodName := ⟨RX2, "add", "(I)I"⟩
abbrev cX2_outsideOf : ByteArray := prog_4_method_4_code
def yX2_outsideOf : MethodName := ⟨RX2, "outsideOf", "(I)I"⟩
abbrev cX2_meet : ByteArray := prog_4_method_5_code
def yX2_meet : MethodName := ⟨RX2, "meet", "(II)Z"⟩
abbrev cX2_isWithin : ByteArray := prog_4_method_6_code
def yX2_isWithin : MethodName := ⟨RX2, "isWithin", "(II)Z"⟩
def RX3 : String := "KeyPlan$Costs"
def TX3 : u_T := fun k => match k with
  | 0 => ("KeyPlan$Costs", "stretches", "[I", true)
  | 1 => ("KeyPlan$Costs", "useCounts", "[I", true)
  | 2 => ("KeyPlan$Costs", "habitStrokes", "[I", true)
  | _ => ("KeyPlan$Costs", "habitWeights", "[I", true)
def tyX3 : Nat → FieldType := fun k => match k with
  | 0 => .array .int
  | 1 => .array .int
  | 2 => .array .int
  | _ => .array .int
theorem nmX3 : ∀ a, a < 4 → ∀ b, b < 4 → a ≠ b → (TX3 a).2.1 ≠ (TX3 b).2.1 := by decide +kernel
theorem tyX3_ok : ∀ k, k < 4 → parseFieldDescriptor (TX3 k).2.2.1 = some (tyX3 k) := by decide +kernel
abbrev cX3_init : ByteArray := prog_5_method_1_code
def yX3_init : MethodName := ⟨RX3, "<init>", "()V"⟩
abbrev cX3_breaksHabit : ByteArray := prog_5_method_2_code
def yX3_breaksHabit : MethodName := ⟨RX3, "breaksHabit", "(II)Z"⟩
abbrev cX3_price : ByteArray := prog_5_method_3_code
def yX3_price : MethodName := ⟨RX3, "price", "(II)I"⟩
abbrev cX3_rowStretch : ByteArray := prog_5_method_4_code
def yX3_rowStretch : MethodName := ⟨RX3, "rowStretch", "(I)I"⟩
def RX4 : String := "KeyPlan$Fights"
def TX4 : u_T := fun k => match k with
  | 0 => ("KeyPlan$Fights", "rows", "[I", true)
  | 1 => ("KeyPlan$Fights", "firsts", "[I", true)
  | 2 => ("KeyPlan$Fights", "seconds", "[I", true)
  | _ => ("KeyPlan$Fights", "size", "I", false)
def tyX4 : Nat → FieldType := fun k => match k with
  | 0 => .array .int
  | 1 => .array .int
  | 2 => .array .int
  | _ => .int
theorem nmX4 : ∀ a, a < 4 → ∀ b, b < 4 → a ≠ b → (TX4 a).2.1 ≠ (TX4 b).2.1 := by decide +kernel
theorem tyX4_ok : ∀ k, k < 4 → parseFieldDescriptor (TX4 k).2.2.1 = some (tyX4 k) := by decide +kernel
abbrev cX4_init : ByteArray := prog_6_method_1_code
def yX4_init : MethodName := ⟨RX4, "<init>", "()V"⟩
abbrev cX4_collect : ByteArray := prog_6_method_2_code
def yX4_collect : MethodName := ⟨RX4, "collect", "(LKeyPlan$Layout;I)V"⟩
abbrev cX4_add : ByteArray := prog_6_method_3_code
def yX4_add : MethodName := ⟨RX4, "add", "(II)V"⟩
def RX5 : String := "KeyPlan$Layout"
def TX5 : u_T := fun k => match k with
  | 0 => ("KeyPlan$Layout", "contexts", "LKeyPlan$Contexts;", true)
  | _ => ("KeyPlan$Layout", "map", "LKeyPlan$Bindings;", true)
def tyX5 : Nat → FieldType := fun k => match k with
  | 0 => .object "KeyPlan$Contexts"
  | _ => .object "KeyPlan$Bindings"
theorem nmX5 : ∀ a, a < 2 → ∀ b, b < 2 → a ≠ b → (TX5 a).2.1 ≠ (TX5 b).2.1 := by decide +kernel
theorem tyX5_ok : ∀ k, k < 2 → parseFieldDescriptor (TX5 k).2.2.1 = some (tyX5 k) := by decide +kernel
abbrev cX5_init : ByteArray := prog_7_method_1_code
def yX5_init : MethodName := ⟨RX5, "<init>", "()V"⟩
abbrev cX5_meaning : ByteArray := prog_7_method_2_code
def yX5_meaning : MethodName := ⟨RX5, "meaning", "(II)I"⟩
abbrev cX5_isLive : ByteArray := prog_7_method_3_code
def yX5_isLive : MethodName := ⟨RX5, "isLive", "(II)Z"⟩
abbrev cX5_opensLonger : ByteArray := prog_7_method_4_code
def yX5_opensLonger : MethodName := ⟨RX5, "opensLonger", "(II)Z"⟩
abbrev cX5_meaningRows : ByteArray := prog_7_method_5_code
def yX5_meaningRows : MethodName := ⟨RX5, "meaningRows", "(I[I)I"⟩
abbrev cX5_insertOnce : ByteArray := prog_7_method_6_code
def yX5_insertOnce : MethodName := ⟨RX5, "insertOnce", "([III)I"⟩
def RX6 : String := "KeyPlan$Learning"
def TX6 : u_T := fun k => match k with
  | _ => ("KeyPlan$Learning", "savings", "[I", true)
def tyX6 : Nat → FieldType := fun k => match k with
  | _ => .array .int
theorem nmX6 : ∀ a, a < 1 → ∀ b, b < 1 → a ≠ b → (TX6 a).2.1 ≠ (TX6 b).2.1 := by decide +kernel
theorem tyX6_ok : ∀ k, k < 1 → parseFieldDescriptor (TX6 k).2.2.1 = some (tyX6 k) := by decide +kernel
abbrev cX6_init : ByteArray := prog_8_method_1_code
def yX6_init : MethodName := ⟨RX6, "<init>", "()V"⟩
abbrev cX6_weigh : ByteArray := prog_8_method_2_code
def yX6_weigh : MethodName := ⟨RX6, "weigh", "(LKeyPlan$Bindings;LKeyPlan$Costs;)V"⟩
abbrev cX6_ranked : ByteArray := prog_8_method_3_code
def yX6_ranked : MethodName := ⟨RX6, "ranked", "(I)I"⟩
abbrev cX6_countAhead : ByteArray := prog_8_method_4_code
def yX6_countAhead : MethodName := ⟨RX6, "countAhead", "(I)I"⟩
def RX7 : String := "KeyPlan$Row"
def TX7 : u_T := fun k => match k with
  | _ => ("", "", "", false)
def tyX7 : Nat → FieldType := fun k => match k with
  | _ => .int
theorem nmX7 : ∀ a, a < 0 → ∀ b, b < 0 → a ≠ b → (TX7 a).2.1 ≠ (TX7 b).2.1 := by decide +kernel
theorem tyX7_ok : ∀ k, k < 0 → parseFieldDescriptor (TX7 k).2.2.1 = some (tyX7 k) := by decide +kernel
abbrev cX7_isStroke : ByteArray := prog_9_method_2_code
def yX7_isStroke : MethodName := ⟨RX7, "isStroke", "(I)Z"⟩
abbrev cX7_isRow : ByteArray := prog_9_method_3_code
def yX7_isRow : MethodName := ⟨RX7, "isRow", "(I)Z"⟩
abbrev cX7_strokeAt : ByteArray := prog_9_method_4_code
def yX7_strokeAt : MethodName := ⟨RX7, "strokeAt", "(II)I"⟩
abbrev cX7_length : ByteArray := prog_9_method_5_code
def yX7_length : MethodName := ⟨RX7, "length", "(I)I"⟩
abbrev cX7_beginning : ByteArray := prog_9_method_6_code
def yX7_beginning : MethodName := ⟨RX7, "beginning", "(II)I"⟩
abbrev cX7_withoutBeginning : ByteArray := prog_9_method_7_code
def yX7_withoutBeginning : MethodName := ⟨RX7, "withoutBeginning", "(II)I"⟩
abbrev cX7_withStroke : ByteArray := prog_9_method_8_code
def yX7_withStroke : MethodName := ⟨RX7, "withStroke", "(II)I"⟩
abbrev cX7_beginsWith : ByteArray := prog_9_method_9_code
def yX7_beginsWith : MethodName := ⟨RX7, "beginsWith", "(II)Z"⟩
def RX8 : String := "KeyPlan$Typing"
def TX8 : u_T := fun k => match k with
  | 0 => ("KeyPlan$Typing", "outCommands", "[I", true)
  | 1 => ("KeyPlan$Typing", "outTicks", "[I", true)
  | 2 => ("KeyPlan$Typing", "outCount", "I", false)
  | 3 => ("KeyPlan$Typing", "lostCount", "I", false)
  | 4 => ("KeyPlan$Typing", "here", "I", false)
  | 5 => ("KeyPlan$Typing", "patienceTicks", "I", false)
  | 6 => ("KeyPlan$Typing", "lastTick", "I", false)
  | _ => ("KeyPlan$Typing", "waiting", "I", false)
def tyX8 : Nat → FieldType := fun k => match k with
  | 0 => .array .int
  | 1 => .array .int
  | 2 => .int
  | 3 => .int
  | 4 => .int
  | 5 => .int
  | 6 => .int
  | _ => .int
theorem nmX8 : ∀ a, a < 8 → ∀ b, b < 8 → a ≠ b → (TX8 a).2.1 ≠ (TX8 b).2.1 := by decide +kernel
theorem tyX8_ok : ∀ k, k < 8 → parseFieldDescriptor (TX8 k).2.2.1 = some (tyX8 k) := by decide +kernel
abbrev cX8_init : ByteArray := prog_10_method_1_code
def yX8_init : MethodName := ⟨RX8, "<init>", "()V"⟩
abbrev cX8_mayComeAt : ByteArray := prog_10_method_2_code
def yX8_mayComeAt : MethodName := ⟨RX8, "mayComeAt", "(I)Z"⟩
abbrev cX8_press : ByteArray := prog_10_method_3_code
def yX8_press : MethodName := ⟨RX8, "press", "(LKeyPlan$Layout;II)V"⟩
abbrev cX8_settleAll : ByteArray := prog_10_method_4_code
def yX8_settleAll : MethodName := ⟨RX8, "settleAll", "(LKeyPlan$Layout;I)V"⟩
abbrev cX8_settleOne : ByteArray := prog_10_method_5_code
def yX8_settleOne : MethodName := ⟨RX8, "settleOne", "(LKeyPlan$Layout;I)V"⟩
abbrev cX8_send : ByteArray := prog_10_method_6_code
def yX8_send : MethodName := ⟨RX8, "send", "(II)V"⟩
def RX9 : String := "KeyPlan"
def TX9 : u_T := fun k => match k with
  | 0 => ("KeyPlan", "layout", "LKeyPlan$Layout;", true)
  | 1 => ("KeyPlan", "kept", "LKeyPlan$Bindings;", true)
  | 2 => ("KeyPlan", "changedKeys", "[I", true)
  | 3 => ("KeyPlan", "fightList", "LKeyPlan$Fights;", true)
  | 4 => ("KeyPlan", "typing", "LKeyPlan$Typing;", true)
  | 5 => ("KeyPlan", "costs", "LKeyPlan$Costs;", true)
  | 6 => ("KeyPlan", "assigning", "LKeyPlan$Assigning;", true)
  | _ => ("KeyPlan", "learning", "LKeyPlan$Learning;", true)
def tyX9 : Nat → FieldType := fun k => match k with
  | 0 => .object "KeyPlan$Layout"
  | 1 => .object "KeyPlan$Bindings"
  | 2 => .array .int
  | 3 => .object "KeyPlan$Fights"
  | 4 => .object "KeyPlan$Typing"
  | 5 => .object "KeyPlan$Costs"
  | 6 => .object "KeyPlan$Assigning"
  | _ => .object "KeyPlan$Learning"
theorem nmX9 : ∀ a, a < 8 → ∀ b, b < 8 → a ≠ b → (TX9 a).2.1 ≠ (TX9 b).2.1 := by decide +kernel
theorem tyX9_ok : ∀ k, k < 8 → parseFieldDescriptor (TX9 k).2.2.1 = some (tyX9 k) := by decide +kernel
abbrev cX9_init : ByteArray := prog_1_method_1_code
def yX9_init : MethodName := ⟨RX9, "<init>", "()V"⟩
abbrev cX9_context : ByteArray := prog_1_method_2_code
def yX9_context : MethodName := ⟨RX9, "context", "(I)I"⟩
abbrev cX9_bind : ByteArray := prog_1_method_3_code
def yX9_bind : MethodName := ⟨RX9, "bind", "(III)I"⟩
abbrev cX9_has : ByteArray := prog_1_method_4_code
def yX9_has : MethodName := ⟨RX9, "has", "(II)I"⟩
abbrev cX9_means : ByteArray := prog_1_method_5_code
def yX9_means : MethodName := ⟨RX9, "means", "(II)I"⟩
abbrev cX9_fight : ByteArray := prog_1_method_6_code
def yX9_fight : MethodName := ⟨RX9, "fight", "(III)I"⟩
abbrev cX9_fights : ByteArray := prog_1_method_7_code
def yX9_fights : MethodName := ⟨RX9, "fights", "(I)I"⟩
abbrev cX9_patience : ByteArray := prog_1_method_8_code
def yX9_patience : MethodName := ⟨RX9, "patience", "(I)Z"⟩
abbrev cX9_go : ByteArray := prog_1_method_9_code
def yX9_go : MethodName := ⟨RX9, "go", "(I)Z"⟩
abbrev cX9_type : ByteArray := prog_1_method_10_code
def yX9_type : MethodName := ⟨RX9, "type", "(II)I"⟩
abbrev cX9_settle : ByteArray := prog_1_method_11_code
def yX9_settle : MethodName := ⟨RX9, "settle", "(I)I"⟩
abbrev cX9_out : ByteArray := prog_1_method_12_code
def yX9_out : MethodName := ⟨RX9, "out", "(II)I"⟩
abbrev cX9_stretch : ByteArray := prog_1_method_13_code
def yX9_stretch : MethodName := ⟨RX9, "stretch", "(II)Z"⟩
abbrev cX9_uses : ByteArray := prog_1_method_14_code
def yX9_uses : MethodName := ⟨RX9, "uses", "(II)Z"⟩
abbrev cX9_habit : ByteArray := prog_1_method_15_code
def yX9_habit : MethodName := ⟨RX9, "habit", "(III)Z"⟩
abbrev cX9_want : ByteArray := prog_1_method_16_code
def yX9_want : MethodName := ⟨RX9, "want", "(II)I"⟩
abbrev cX9_offer : ByteArray := prog_1_method_17_code
def yX9_offer : MethodName := ⟨RX9, "offer", "(I)I"⟩
abbrev cX9_clear : ByteArray := prog_1_method_18_code
def yX9_clear : MethodName := ⟨RX9, "clear", "()V"⟩
abbrev cX9_cheapest : ByteArray := prog_1_method_19_code
def yX9_cheapest : MethodName := ⟨RX9, "cheapest", "()I"⟩
abbrev cX9_assigned : ByteArray := prog_1_method_20_code
def yX9_assigned : MethodName := ⟨RX9, "assigned", "(I)I"⟩
abbrev cX9_broken : ByteArray := prog_1_method_21_code
def yX9_broken : MethodName := ⟨RX9, "broken", "()I"⟩
abbrev cX9_apply : ByteArray := prog_1_method_22_code
def yX9_apply : MethodName := ⟨RX9, "apply", "()I"⟩
abbrev cX9_keep : ByteArray := prog_1_method_23_code
def yX9_keep : MethodName := ⟨RX9, "keep", "()V"⟩
abbrev cX9_change : ByteArray := prog_1_method_24_code
def yX9_change : MethodName := ⟨RX9, "change", "(II)I"⟩
abbrev cX9_back : ByteArray := prog_1_method_25_code
def yX9_back : MethodName := ⟨RX9, "back", "()I"⟩
abbrev cX9_learn : ByteArray := prog_1_method_26_code
def yX9_learn : MethodName := ⟨RX9, "learn", "(I)I"⟩
abbrev cX9_saves : ByteArray := prog_1_method_27_code
def yX9_saves : MethodName := ⟨RX9, "saves", "(I)I"⟩
abbrev cX9_count : ByteArray := prog_1_method_28_code
def yX9_count : MethodName := ⟨RX9, "count", "(I)I"⟩
abbrev cX9_isCommand : ByteArray := prog_1_method_29_code
def yX9_isCommand : MethodName := ⟨RX9, "isCommand", "(I)Z"⟩
def RX10 : String := "KeyPlanModel"
def TX10 : u_T := fun k => match k with
  | 0 => ("KeyPlanModel", "thrown", "I", false)
  | 1 => ("KeyPlanModel", "outside", "[I", true)
  | 2 => ("KeyPlanModel", "contexts", "I", false)
  | 3 => ("KeyPlanModel", "here", "I", false)
  | 4 => ("KeyPlanModel", "patience", "I", false)
  | 5 => ("KeyPlanModel", "lastTick", "I", false)
  | 6 => ("KeyPlanModel", "outMany", "I", false)
  | 7 => ("KeyPlanModel", "lost", "I", false)
  | 8 => ("KeyPlanModel", "entries", "I", false)
  | 9 => ("KeyPlanModel", "keptEntries", "I", false)
  | 10 => ("KeyPlanModel", "wants", "I", false)
  | 11 => ("KeyPlanModel", "offers", "I", false)
  | 12 => ("KeyPlanModel", "inContext", "[I", true)
  | 13 => ("KeyPlanModel", "forRow", "[I", true)
  | 14 => ("KeyPlanModel", "command", "[I", true)
  | 15 => ("KeyPlanModel", "keptContext", "[I", true)
  | 16 => ("KeyPlanModel", "keptRow", "[I", true)
  | 17 => ("KeyPlanModel", "keptCommand", "[I", true)
  | 18 => ("KeyPlanModel", "waits", "[I", true)
  | 19 => ("KeyPlanModel", "outCommand", "[I", true)
  | 20 => ("KeyPlanModel", "outTick", "[I", true)
  | 21 => ("KeyPlanModel", "waiting", "I", false)
  | 22 => ("KeyPlanModel", "stretch", "[I", true)
  | 23 => ("KeyPlanModel", "uses", "[I", true)
  | 24 => ("KeyPlanModel", "habit", "[I", true)
  | 25 => ("KeyPlanModel", "weight", "[I", true)
  | 26 => ("KeyPlanModel", "want", "[I", true)
  | 27 => ("KeyPlanModel", "wantIn", "[I", true)
  | 28 => ("KeyPlanModel", "offer", "[I", true)
  | 29 => ("KeyPlanModel", "rows", "[I", true)
  | 30 => ("KeyPlanModel", "rowMany", "I", false)
  | 31 => ("KeyPlanModel", "given", "[I", true)
  | 32 => ("KeyPlanModel", "best", "[I", true)
  | 33 => ("KeyPlanModel", "cheapest", "I", false)
  | 34 => ("KeyPlanModel", "changeContext", "I", false)
  | _ => ("KeyPlanModel", "changeRow", "I", false)
def tyX10 : Nat → FieldType := fun k => match k with
  | 0 => .int
  | 1 => .array .int
  | 2 => .int
  | 3 => .int
  | 4 => .int
  | 5 => .int
  | 6 => .int
  | 7 => .int
  | 8 => .int
  | 9 => .int
  | 10 => .int
  | 11 => .int
  | 12 => .array .int
  | 13 => .array .int
  | 14 => .array .int
  | 15 => .array .int
  | 16 => .array .int
  | 17 => .array .int
  | 18 => .array .int
  | 19 => .array .int
  | 20 => .array .int
  | 21 => .int
  | 22 => .array .int
  | 23 => .array .int
  | 24 => .array .int
  | 25 => .array .int
  | 26 => .array .int
  | 27 => .array .int
  | 28 => .array .int
  | 29 => .array .int
  | 30 => .int
  | 31 => .array .int
  | 32 => .array .int
  | 33 => .int
  | 34 => .int
  | _ => .int
theorem nmX10 : ∀ a, a < 36 → ∀ b, b < 36 → a ≠ b → (TX10 a).2.1 ≠ (TX10 b).2.1 := by decide +kernel
theorem tyX10_ok : ∀ k, k < 36 → parseFieldDescriptor (TX10 k).2.2.1 = some (tyX10 k) := by decide +kernel
abbrev cX10_init : ByteArray := prog_12_method_1_code
def yX10_init : MethodName := ⟨RX10, "<init>", "()V"⟩
abbrev cX10_thrown : ByteArray := prog_12_method_2_code
def yX10_thrown : MethodName := ⟨RX10, "thrown", "()I"⟩
abbrev cX10_isIn : ByteArray := prog_12_method_3_code
def yX10_isIn : MethodName := ⟨RX10, "isIn", "(III)Z"⟩
abbrev cX10_isContext : ByteArray := prog_12_method_4_code
def yX10_isContext : MethodName := ⟨RX10, "isContext", "(I)Z"⟩
abbrev cX10_stroke : ByteArray := prog_12_method_5_code
def yX10_stroke : MethodName := ⟨RX10, "stroke", "(II)I"⟩
abbrev cX10_length : ByteArray := prog_12_method_6_code
def yX10_length : MethodName := ⟨RX10, "length", "(I)I"⟩
abbrev cX10_isRow : ByteArray := prog_12_method_7_code
def yX10_isRow : MethodName := ⟨RX10, "isRow", "(I)Z"⟩
abbrev cX10_context : ByteArray := prog_12_method_8_code
def yX10_context : MethodName := ⟨RX10, "context", "(I)I"⟩
abbrev cX10_entry : ByteArray := prog_12_method_9_code
def yX10_entry : MethodName := ⟨RX10, "entry", "(II)I"⟩
abbrev cX10_hasFor : ByteArray := prog_12_method_10_code
def yX10_hasFor : MethodName := ⟨RX10, "hasFor", "(II)I"⟩
abbrev cX10_set : ByteArray := prog_12_method_11_code
def yX10_set : MethodName := ⟨RX10, "set", "(III)V"⟩
abbrev cX10_bind : ByteArray := prog_12_method_12_code
def yX10_bind : MethodName := ⟨RX10, "bind", "(III)I"⟩
abbrev cX10_has : ByteArray := prog_12_method_13_code
def yX10_has : MethodName := ⟨RX10, "has", "(II)I"⟩
abbrev cX10_meaning : ByteArray := prog_12_method_14_code
def yX10_meaning : MethodName := ⟨RX10, "meaning", "(II)I"⟩
abbrev cX10_means : ByteArray := prog_12_method_15_code
def yX10_means : MethodName := ⟨RX10, "means", "(II)I"⟩
abbrev cX10_begins : ByteArray := prog_12_method_16_code
def yX10_begins : MethodName := ⟨RX10, "begins", "(II)Z"⟩
abbrev cX10_findRows : ByteArray := prog_12_method_17_code
def yX10_findRows : MethodName := ⟨RX10, "findRows", "(I)V"⟩
abbrev cX10_fightOf : ByteArray := prog_12_method_18_code
def yX10_fightOf : MethodName := ⟨RX10, "fightOf", "(III)I"⟩
abbrev cX10_fight : ByteArray := prog_12_method_19_code
def yX10_fight : MethodName := ⟨RX10, "fight", "(III)I"⟩
abbrev cX10_fights : ByteArray := prog_12_method_20_code
def yX10_fights : MethodName := ⟨RX10, "fights", "(I)I"⟩
abbrev cX10_patience : ByteArray := prog_12_method_21_code
def yX10_patience : MethodName := ⟨RX10, "patience", "(I)Z"⟩
abbrev cX10_ahead : ByteArray := prog_12_method_22_code
def yX10_ahead : MethodName := ⟨RX10, "ahead", "(I)I"⟩
abbrev cX10_goes : ByteArray := prog_12_method_23_code
def yX10_goes : MethodName := ⟨RX10, "goes", "(I)V"⟩
abbrev cX10_one : ByteArray := prog_12_method_24_code
def yX10_one : MethodName := ⟨RX10, "one", "(I)V"⟩
abbrev cX10_leads : ByteArray := prog_12_method_25_code
def yX10_leads : MethodName := ⟨RX10, "leads", "(Z)Z"⟩
abbrev cX10_settles : ByteArray := prog_12_method_26_code
def yX10_settles : MethodName := ⟨RX10, "settles", "(I)V"⟩
abbrev cX10_go : ByteArray := prog_12_method_27_code
def yX10_go : MethodName := ⟨RX10, "go", "(I)Z"⟩
abbrev cX10_type : ByteArray := prog_12_method_28_code
def yX10_type : MethodName := ⟨RX10, "type", "(II)I"⟩
abbrev cX10_settle : ByteArray := prog_12_method_29_code
def yX10_settle : MethodName := ⟨RX10, "settle", "(I)I"⟩
abbrev cX10_out : ByteArray := prog_12_method_30_code
def yX10_out : MethodName := ⟨RX10, "out", "(II)I"⟩
abbrev cX10_stretch : ByteArray := prog_12_method_31_code
def yX10_stretch : MethodName := ⟨RX10, "stretch", "(II)Z"⟩
abbrev cX10_isCommand : ByteArray := prog_12_method_32_code
def yX10_isCommand : MethodName := ⟨RX10, "isCommand", "(I)Z"⟩
abbrev cX10_uses : ByteArray := prog_12_method_33_code
def yX10_uses : MethodName := ⟨RX10, "uses", "(II)Z"⟩
abbrev cX10_habit : ByteArray := prog_12_method_34_code
def yX10_habit : MethodName := ⟨RX10, "habit", "(III)Z"⟩
abbrev cX10_want : ByteArray := prog_12_method_35_code
def yX10_want : MethodName := ⟨RX10, "want", "(II)I"⟩
abbrev cX10_offer : ByteArray := prog_12_method_36_code
def yX10_offer : MethodName := ⟨RX10, "offer", "(I)I"⟩
abbrev cX10_clear : ByteArray := prog_12_method_37_code
def yX10_clear : MethodName := ⟨RX10, "clear", "()V"⟩
abbrev cX10_stands : ByteArray := prog_12_method_38_code
def yX10_stands : MethodName := ⟨RX10, "stands", "(II)Z"⟩
abbrev cX10_meet : ByteArray := prog_12_method_39_code
def yX10_meet : MethodName := ⟨RX10, "meet", "(II)Z"⟩
abbrev cX10_breaks : ByteArray := prog_12_method_40_code
def yX10_breaks : MethodName := ⟨RX10, "breaks", "(II)Z"⟩
abbrev cX10_gives : ByteArray := prog_12_method_41_code
def yX10_gives : MethodName := ⟨RX10, "gives", "(II)V"⟩
abbrev cX10_assigns : ByteArray := prog_12_method_42_code
def yX10_assigns : MethodName := ⟨RX10, "assigns", "()Z"⟩
abbrev cX10_cheapest : ByteArray := prog_12_method_43_code
def yX10_cheapest : MethodName := ⟨RX10, "cheapest", "()I"⟩
abbrev cX10_assigned : ByteArray := prog_12_method_44_code
def yX10_assigned : MethodName := ⟨RX10, "assigned", "(I)I"⟩
abbrev cX10_broken : ByteArray := prog_12_method_45_code
def yX10_broken : MethodName := ⟨RX10, "broken", "()I"⟩
abbrev cX10_apply : ByteArray := prog_12_method_46_code
def yX10_apply : MethodName := ⟨RX10, "apply", "()I"⟩
abbrev cX10_keep : ByteArray := prog_12_method_47_code
def yX10_keep : MethodName := ⟨RX10, "keep", "()V"⟩
abbrev cX10_keptFor : ByteArray := prog_12_method_48_code
def yX10_keptFor : MethodName := ⟨RX10, "keptFor", "(II)I"⟩
abbrev cX10_nextChange : ByteArray := prog_12_method_49_code
def yX10_nextChange : MethodName := ⟨RX10, "nextChange", "(II)Z"⟩
abbrev cX10_changes : ByteArray := prog_12_method_50_code
def yX10_changes : MethodName := ⟨RX10, "changes", "()I"⟩
abbrev cX10_change : ByteArray := prog_12_method_51_code
def yX10_change : MethodName := ⟨RX10, "change", "(II)I"⟩
abbrev cX10_back : ByteArray := prog_12_method_52_code
def yX10_back : MethodName := ⟨RX10, "back", "()I"⟩
abbrev cX10_savedBy : ByteArray := prog_12_method_53_code
def yX10_savedBy : MethodName := ⟨RX10, "savedBy", "(I)I"⟩
abbrev cX10_learn : ByteArray := prog_12_method_54_code
def yX10_learn : MethodName := ⟨RX10, "learn", "(I)I"⟩
abbrev cX10_saves : ByteArray := prog_12_method_55_code
def yX10_saves : MethodName := ⟨RX10, "saves", "(I)I"⟩
abbrev cX10_count : ByteArray := prog_12_method_56_code
def yX10_count : MethodName := ⟨RX10, "count", "(I)I"⟩
def RJ9 : String := "java/lang/Math"
def TJ9 : u_T := fun k => match k with
  | _ => ("", "", "", false)
def tyJ9 : Nat → FieldType := fun k => match k with
  | _ => .int
theorem nmJ9 : ∀ a, a < 0 → ∀ b, b < 0 → a ≠ b → (TJ9 a).2.1 ≠ (TJ9 b).2.1 := by decide +kernel
theorem tyJ9_ok : ∀ k, k < 0 → parseFieldDescriptor (TJ9 k).2.2.1 = some (tyJ9 k) := by decide +kernel
abbrev cJ9_max_7cf53 : ByteArray := prog_14_method_65_code
def yJ9_max_7cf53 : MethodName := ⟨RJ9, "max", "(II)I"⟩
abbrev cJ9_min_7cf53 : ByteArray := prog_14_method_69_code
def yJ9_min_7cf53 : MethodName := ⟨RJ9, "min", "(II)I"⟩
def RJ0 : String := "java/lang/String"
def TJ0 : u_T := fun k => match k with
  | _ => ("", "", "", false)
def tyJ0 : Nat → FieldType := fun k => match k with
  | _ => .int
theorem nmJ0 : ∀ a, a < 0 → ∀ b, b < 0 → a ≠ b → (TJ0 a).2.1 ≠ (TJ0 b).2.1 := by decide +kernel
theorem tyJ0_ok : ∀ k, k < 0 → parseFieldDescriptor (TJ0 k).2.2.1 = some (tyJ0 k) := by decide +kernel
def RL : String := "KeyPlanLaw"
abbrev cL_out : ByteArray := method_3_code
def yL_out : MethodName := ⟨RL, "out", "(LKeyPlan;II[J)I"⟩
abbrev cL_law : ByteArray := code
def yL_law : MethodName := ⟨RL, "law", "([I)Z"⟩
theorem dX0_init_0 : decode cX0_init 0 = .ok (.aload_n 0, 1) := by decide +kernel
theorem dX0_init_1 : decode cX0_init 1 = .ok (.invokespecial 3, 3) := by decide +kernel
theorem dX0_init_4 : decode cX0_init 4 = .ok (.aload_n 0, 1) := by decide +kernel
theorem dX0_init_5 : decode cX0_init 5 = .ok (.bipush 6, 2) := by decide +kernel
theorem dX0_init_7 : decode cX0_init 7 = .ok (.newarray .int, 2) := by decide +kernel
theorem dX0_init_9 : decode cX0_init 9 = .ok (.putfield 9, 3) := by decide +kernel
theorem dX0_init_12 : decode cX0_init 12 = .ok (.aload_n 0, 1) := by decide +kernel
theorem dX0_init_13 : decode cX0_init 13 = .ok (.bipush 6, 2) := by decide +kernel
theorem dX0_init_15 : decode cX0_init 15 = .ok (.newarray .int, 2) := by decide +kernel
theorem dX0_init_17 : decode cX0_init 17 = .ok (.putfield 15, 3) := by decide +kernel
theorem dX0_init_20 : decode cX0_init 20 = .ok (.aload_n 0, 1) := by decide +kernel
theorem dX0_init_21 : decode cX0_init 21 = .ok (.iconst 0, 1) := by decide +kernel
theorem dX0_init_22 : decode cX0_init 22 = .ok (.putfield 18, 3) := by decide +kernel
theorem dX0_init_25 : decode cX0_init 25 = .ok (.aload_n 0, 1) := by decide +kernel
theorem dX0_init_26 : decode cX0_init 26 = .ok (.bipush 8, 2) := by decide +kernel
theorem dX0_init_28 : decode cX0_init 28 = .ok (.newarray .int, 2) := by decide +kernel
theorem dX0_init_30 : decode cX0_init 30 = .ok (.putfield 22, 3) := by decide +kernel
theorem dX0_init_33 : decode cX0_init 33 = .ok (.aload_n 0, 1) := by decide +kernel
theorem dX0_init_34 : decode cX0_init 34 = .ok (.iconst 0, 1) := by decide +kernel
theorem dX0_init_35 : decode cX0_init 35 = .ok (.putfield 25, 3) := by decide +kernel
theorem dX0_init_38 : decode cX0_init 38 = .ok (.aload_n 0, 1) := by decide +kernel
theorem dX0_init_39 : decode cX0_init 39 = .ok (.iconst 0, 1) := by decide +kernel
theorem dX0_init_40 : decode cX0_init 40 = .ok (.putfield 28, 3) := by decide +kernel
theorem dX0_init_43 : decode cX0_init 43 = .ok (.aload_n 0, 1) := by decide +kernel
theorem dX0_init_44 : decode cX0_init 44 = .ok (.iconst (-1), 1) := by decide +kernel
theorem dX0_init_45 : decode cX0_init 45 = .ok (.putfield 32, 3) := by decide +kernel
theorem dX0_init_48 : decode cX0_init 48 = .ok (.aload_n 0, 1) := by decide +kernel
theorem dX0_init_49 : decode cX0_init 49 = .ok (.bipush 6, 2) := by decide +kernel
theorem dX0_init_51 : decode cX0_init 51 = .ok (.newarray .int, 2) := by decide +kernel
theorem dX0_init_53 : decode cX0_init 53 = .ok (.putfield 35, 3) := by decide +kernel
theorem dX0_init_56 : decode cX0_init 56 = .ok (.aload_n 0, 1) := by decide +kernel
theorem dX0_init_57 : decode cX0_init 57 = .ok (.bipush 6, 2) := by decide +kernel
theorem dX0_init_59 : decode cX0_init 59 = .ok (.newarray .int, 2) := by decide +kernel
theorem dX0_init_61 : decode cX0_init 61 = .ok (.putfield 38, 3) := by decide +kernel
theorem dX0_init_64 : decode cX0_init 64 = .ok (.aload_n 0, 1) := by decide +kernel
theorem dX0_init_65 : decode cX0_init 65 = .ok (.bipush 6, 2) := by decide +kernel
theorem dX0_init_67 : decode cX0_init 67 = .ok (.bipush 8, 2) := by decide +kernel
theorem dX0_init_69 : decode cX0_init 69 = .ok (.multianewarray 41 2, 4) := by decide +kernel
theorem dX0_init_73 : decode cX0_init 73 = .ok (.putfield 43, 3) := by decide +kernel
theorem dX0_init_76 : decode cX0_init 76 = .ok (.aload_n 0, 1) := by decide +kernel
theorem dX0_init_77 : decode cX0_init 77 = .ok (.bipush 7, 2) := by decide +kernel
theorem dX0_init_79 : decode cX0_init 79 = .ok (.newarray .int, 2) := by decide +kernel
theorem dX0_init_81 : decode cX0_init 81 = .ok (.putfield 46, 3) := by decide +kernel
theorem dX0_init_84 : decode cX0_init 84 = .ok (.aload_n 0, 1) := by decide +kernel
theorem dX0_init_85 : decode cX0_init 85 = .ok (.bipush 36, 2) := by decide +kernel
theorem dX0_init_87 : decode cX0_init 87 = .ok (.newarray .boolean, 2) := by decide +kernel
theorem dX0_init_89 : decode cX0_init 89 = .ok (.putfield 49, 3) := by decide +kernel
theorem dX0_init_92 : decode cX0_init 92 = .ok (.return_, 1) := by decide +kernel
theorem dX1_init_0 : decode cX1_init 0 = .ok (.aload_n 0, 1) := by decide +kernel
theorem dX1_init_1 : decode cX1_init 1 = .ok (.invokespecial 3, 3) := by decide +kernel
theorem dX1_init_4 : decode cX1_init 4 = .ok (.aload_n 0, 1) := by decide +kernel
theorem dX1_init_5 : decode cX1_init 5 = .ok (.bipush 120, 2) := by decide +kernel
theorem dX1_init_7 : decode cX1_init 7 = .ok (.newarray .int, 2) := by decide +kernel
theorem dX1_init_9 : decode cX1_init 9 = .ok (.putfield 9, 3) := by decide +kernel
theorem dX1_init_12 : decode cX1_init 12 = .ok (.aload_n 0, 1) := by decide +kernel
theorem dX1_init_13 : decode cX1_init 13 = .ok (.bipush 120, 2) := by decide +kernel
theorem dX1_init_15 : decode cX1_init 15 = .ok (.newarray .int, 2) := by decide +kernel
theorem dX1_init_17 : decode cX1_init 17 = .ok (.putfield 15, 3) := by decide +kernel
theorem dX1_init_20 : decode cX1_init 20 = .ok (.aload_n 0, 1) := by decide +kernel
theorem dX1_init_21 : decode cX1_init 21 = .ok (.iconst 0, 1) := by decide +kernel
theorem dX1_init_22 : decode cX1_init 22 = .ok (.putfield 18, 3) := by decide +kernel
theorem dX1_init_25 : decode cX1_init 25 = .ok (.return_, 1) := by decide +kernel
theorem dX2_init_0 : decode cX2_init 0 = .ok (.aload_n 0, 1) := by decide +kernel
theorem dX2_init_1 : decode cX2_init 1 = .ok (.invokespecial 3, 3) := by decide +kernel
theorem dX2_init_4 : decode cX2_init 4 = .ok (.aload_n 0, 1) := by decide +kernel
theorem dX2_init_5 : decode cX2_init 5 = .ok (.bipush 12, 2) := by decide +kernel
theorem dX2_init_7 : decode cX2_init 7 = .ok (.newarray .int, 2) := by decide +kernel
theorem dX2_init_9 : decode cX2_init 9 = .ok (.putfield 9, 3) := by decide +kernel
theorem dX2_init_12 : decode cX2_init 12 = .ok (.aload_n 0, 1) := by decide +kernel
theorem dX2_init_13 : decode cX2_init 13 = .ok (.getfield 9, 3) := by decide +kernel
theorem dX2_init_16 : decode cX2_init 16 = .ok (.iconst 0, 1) := by decide +kernel
theorem dX2_init_17 : decode cX2_init 17 = .ok (.iconst (-1), 1) := by decide +kernel
theorem dX2_init_18 : decode cX2_init 18 = .ok (.iastore, 1) := by decide +kernel
theorem dX2_init_19 : decode cX2_init 19 = .ok (.aload_n 0, 1) := by decide +kernel
theorem dX2_init_20 : decode cX2_init 20 = .ok (.iconst 1, 1) := by decide +kernel
theorem dX2_init_21 : decode cX2_init 21 = .ok (.putfield 15, 3) := by decide +kernel
theorem dX2_init_24 : decode cX2_init 24 = .ok (.return_, 1) := by decide +kernel
theorem dX3_init_0 : decode cX3_init 0 = .ok (.aload_n 0, 1) := by decide +kernel
theorem dX3_init_1 : decode cX3_init 1 = .ok (.invokespecial 3, 3) := by decide +kernel
theorem dX3_init_4 : decode cX3_init 4 = .ok (.aload_n 0, 1) := by decide +kernel
theorem dX3_init_5 : decode cX3_init 5 = .ok (.sipush 241, 3) := by decide +kernel
theorem dX3_init_8 : decode cX3_init 8 = .ok (.newarray .int, 2) := by decide +kernel
theorem dX3_init_10 : decode cX3_init 10 = .ok (.putfield 9, 3) := by decide +kernel
theorem dX3_init_13 : decode cX3_init 13 = .ok (.iconst 1, 1) := by decide +kernel
theorem dX3_init_14 : decode cX3_init 14 = .ok (.istore_n 1, 1) := by decide +kernel
theorem dX3_init_15 : decode cX3_init 15 = .ok (.iload_n 1, 1) := by decide +kernel
theorem dX3_init_16 : decode cX3_init 16 = .ok (.sipush 240, 3) := by decide +kernel
theorem dX3_init_19 : decode cX3_init 19 = .ok (.if_icmp .gt 17, 3) := by decide +kernel
theorem dX3_init_22 : decode cX3_init 22 = .ok (.aload_n 0, 1) := by decide +kernel
theorem dX3_init_23 : decode cX3_init 23 = .ok (.getfield 9, 3) := by decide +kernel
theorem dX3_init_26 : decode cX3_init 26 = .ok (.iload_n 1, 1) := by decide +kernel
theorem dX3_init_27 : decode cX3_init 27 = .ok (.bipush 10, 2) := by decide +kernel
theorem dX3_init_29 : decode cX3_init 29 = .ok (.iastore, 1) := by decide +kernel
theorem dX3_init_30 : decode cX3_init 30 = .ok (.iinc 1 1, 3) := by decide +kernel
theorem dX3_init_33 : decode cX3_init 33 = .ok (.goto (-18), 3) := by decide +kernel
theorem dX3_init_36 : decode cX3_init 36 = .ok (.aload_n 0, 1) := by decide +kernel
theorem dX3_init_37 : decode cX3_init 37 = .ok (.bipush 40, 2) := by decide +kernel
theorem dX3_init_39 : decode cX3_init 39 = .ok (.newarray .int, 2) := by decide +kernel
theorem dX3_init_41 : decode cX3_init 41 = .ok (.putfield 15, 3) := by decide +kernel
theorem dX3_init_44 : decode cX3_init 44 = .ok (.iconst 0, 1) := by decide +kernel
theorem dX3_init_45 : decode cX3_init 45 = .ok (.istore_n 1, 1) := by decide +kernel
theorem dX3_init_46 : decode cX3_init 46 = .ok (.iload_n 1, 1) := by decide +kernel
theorem dX3_init_47 : decode cX3_init 47 = .ok (.bipush 40, 2) := by decide +kernel
theorem dX3_init_49 : decode cX3_init 49 = .ok (.if_icmp .ge 16, 3) := by decide +kernel
theorem dX3_init_52 : decode cX3_init 52 = .ok (.aload_n 0, 1) := by decide +kernel
theorem dX3_init_53 : decode cX3_init 53 = .ok (.getfield 15, 3) := by decide +kernel
theorem dX3_init_56 : decode cX3_init 56 = .ok (.iload_n 1, 1) := by decide +kernel
theorem dX3_init_57 : decode cX3_init 57 = .ok (.iconst 1, 1) := by decide +kernel
theorem dX3_init_58 : decode cX3_init 58 = .ok (.iastore, 1) := by decide +kernel
theorem dX3_init_59 : decode cX3_init 59 = .ok (.iinc 1 1, 3) := by decide +kernel
theorem dX3_init_62 : decode cX3_init 62 = .ok (.goto (-16), 3) := by decide +kernel
theorem dX3_init_65 : decode cX3_init 65 = .ok (.aload_n 0, 1) := by decide +kernel
theorem dX3_init_66 : decode cX3_init 66 = .ok (.bipush 40, 2) := by decide +kernel
theorem dX3_init_68 : decode cX3_init 68 = .ok (.newarray .int, 2) := by decide +kernel
theorem dX3_init_70 : decode cX3_init 70 = .ok (.putfield 18, 3) := by decide +kernel
theorem dX3_init_73 : decode cX3_init 73 = .ok (.aload_n 0, 1) := by decide +kernel
theorem dX3_init_74 : decode cX3_init 74 = .ok (.bipush 40, 2) := by decide +kernel
theorem dX3_init_76 : decode cX3_init 76 = .ok (.newarray .int, 2) := by decide +kernel
theorem dX3_init_78 : decode cX3_init 78 = .ok (.putfield 21, 3) := by decide +kernel
theorem dX3_init_81 : decode cX3_init 81 = .ok (.return_, 1) := by decide +kernel
theorem dX4_init_0 : decode cX4_init 0 = .ok (.aload_n 0, 1) := by decide +kernel
theorem dX4_init_1 : decode cX4_init 1 = .ok (.invokespecial 3, 3) := by decide +kernel
theorem dX4_init_4 : decode cX4_init 4 = .ok (.aload_n 0, 1) := by decide +kernel
theorem dX4_init_5 : decode cX4_init 5 = .ok (.bipush 120, 2) := by decide +kernel
theorem dX4_init_7 : decode cX4_init 7 = .ok (.newarray .int, 2) := by decide +kernel
theorem dX4_init_9 : decode cX4_init 9 = .ok (.putfield 9, 3) := by decide +kernel
theorem dX4_init_12 : decode cX4_init 12 = .ok (.aload_n 0, 1) := by decide +kernel
theorem dX4_init_13 : decode cX4_init 13 = .ok (.sipush 240, 3) := by decide +kernel
theorem dX4_init_16 : decode cX4_init 16 = .ok (.newarray .int, 2) := by decide +kernel
theorem dX4_init_18 : decode cX4_init 18 = .ok (.putfield 15, 3) := by decide +kernel
theorem dX4_init_21 : decode cX4_init 21 = .ok (.aload_n 0, 1) := by decide +kernel
theorem dX4_init_22 : decode cX4_init 22 = .ok (.sipush 240, 3) := by decide +kernel
theorem dX4_init_25 : decode cX4_init 25 = .ok (.newarray .int, 2) := by decide +kernel
theorem dX4_init_27 : decode cX4_init 27 = .ok (.putfield 18, 3) := by decide +kernel
theorem dX4_init_30 : decode cX4_init 30 = .ok (.aload_n 0, 1) := by decide +kernel
theorem dX4_init_31 : decode cX4_init 31 = .ok (.iconst 0, 1) := by decide +kernel
theorem dX4_init_32 : decode cX4_init 32 = .ok (.putfield 21, 3) := by decide +kernel
theorem dX4_init_35 : decode cX4_init 35 = .ok (.return_, 1) := by decide +kernel
theorem dX5_init_0 : decode cX5_init 0 = .ok (.aload_n 0, 1) := by decide +kernel
theorem dX5_init_1 : decode cX5_init 1 = .ok (.invokespecial 3, 3) := by decide +kernel
theorem dX5_init_4 : decode cX5_init 4 = .ok (.aload_n 0, 1) := by decide +kernel
theorem dX5_init_5 : decode cX5_init 5 = .ok (.new 9, 3) := by decide +kernel
theorem dX5_init_8 : decode cX5_init 8 = .ok (.dup, 1) := by decide +kernel
theorem dX5_init_9 : decode cX5_init 9 = .ok (.invokespecial 11, 3) := by decide +kernel
theorem dX5_init_12 : decode cX5_init 12 = .ok (.putfield 12, 3) := by decide +kernel
theorem dX5_init_15 : decode cX5_init 15 = .ok (.aload_n 0, 1) := by decide +kernel
theorem dX5_init_16 : decode cX5_init 16 = .ok (.new 18, 3) := by decide +kernel
theorem dX5_init_19 : decode cX5_init 19 = .ok (.dup, 1) := by decide +kernel
theorem dX5_init_20 : decode cX5_init 20 = .ok (.invokespecial 20, 3) := by decide +kernel
theorem dX5_init_23 : decode cX5_init 23 = .ok (.putfield 21, 3) := by decide +kernel
theorem dX5_init_26 : decode cX5_init 26 = .ok (.return_, 1) := by decide +kernel
theorem dX6_init_0 : decode cX6_init 0 = .ok (.aload_n 0, 1) := by decide +kernel
theorem dX6_init_1 : decode cX6_init 1 = .ok (.invokespecial 3, 3) := by decide +kernel
theorem dX6_init_4 : decode cX6_init 4 = .ok (.aload_n 0, 1) := by decide +kernel
theorem dX6_init_5 : decode cX6_init 5 = .ok (.bipush 40, 2) := by decide +kernel
theorem dX6_init_7 : decode cX6_init 7 = .ok (.newarray .int, 2) := by decide +kernel
theorem dX6_init_9 : decode cX6_init 9 = .ok (.putfield 9, 3) := by decide +kernel
theorem dX6_init_12 : decode cX6_init 12 = .ok (.return_, 1) := by decide +kernel
theorem dX8_init_0 : decode cX8_init 0 = .ok (.aload_n 0, 1) := by decide +kernel
theorem dX8_init_1 : decode cX8_init 1 = .ok (.invokespecial 3, 3) := by decide +kernel
theorem dX8_init_4 : decode cX8_init 4 = .ok (.aload_n 0, 1) := by decide +kernel
theorem dX8_init_5 : decode cX8_init 5 = .ok (.sipush 400, 3) := by decide +kernel
theorem dX8_init_8 : decode cX8_init 8 = .ok (.newarray .int, 2) := by decide +kernel
theorem dX8_init_10 : decode cX8_init 10 = .ok (.putfield 9, 3) := by decide +kernel
theorem dX8_init_13 : decode cX8_init 13 = .ok (.aload_n 0, 1) := by decide +kernel
theorem dX8_init_14 : decode cX8_init 14 = .ok (.sipush 400, 3) := by decide +kernel
theorem dX8_init_17 : decode cX8_init 17 = .ok (.newarray .int, 2) := by decide +kernel
theorem dX8_init_19 : decode cX8_init 19 = .ok (.putfield 15, 3) := by decide +kernel
theorem dX8_init_22 : decode cX8_init 22 = .ok (.aload_n 0, 1) := by decide +kernel
theorem dX8_init_23 : decode cX8_init 23 = .ok (.iconst 0, 1) := by decide +kernel
theorem dX8_init_24 : decode cX8_init 24 = .ok (.putfield 18, 3) := by decide +kernel
theorem dX8_init_27 : decode cX8_init 27 = .ok (.aload_n 0, 1) := by decide +kernel
theorem dX8_init_28 : decode cX8_init 28 = .ok (.iconst 0, 1) := by decide +kernel
theorem dX8_init_29 : decode cX8_init 29 = .ok (.putfield 22, 3) := by decide +kernel
theorem dX8_init_32 : decode cX8_init 32 = .ok (.aload_n 0, 1) := by decide +kernel
theorem dX8_init_33 : decode cX8_init 33 = .ok (.iconst 0, 1) := by decide +kernel
theorem dX8_init_34 : decode cX8_init 34 = .ok (.putfield 25, 3) := by decide +kernel
theorem dX8_init_37 : decode cX8_init 37 = .ok (.aload_n 0, 1) := by decide +kernel
theorem dX8_init_38 : decode cX8_init 38 = .ok (.bipush 10, 2) := by decide +kernel
theorem dX8_init_40 : decode cX8_init 40 = .ok (.putfield 28, 3) := by decide +kernel
theorem dX8_init_43 : decode cX8_init 43 = .ok (.aload_n 0, 1) := by decide +kernel
theorem dX8_init_44 : decode cX8_init 44 = .ok (.iconst 0, 1) := by decide +kernel
theorem dX8_init_45 : decode cX8_init 45 = .ok (.putfield 31, 3) := by decide +kernel
theorem dX8_init_48 : decode cX8_init 48 = .ok (.aload_n 0, 1) := by decide +kernel
theorem dX8_init_49 : decode cX8_init 49 = .ok (.iconst 0, 1) := by decide +kernel
theorem dX8_init_50 : decode cX8_init 50 = .ok (.putfield 34, 3) := by decide +kernel
theorem dX8_init_53 : decode cX8_init 53 = .ok (.return_, 1) := by decide +kernel
theorem dX9_init_0 : decode cX9_init 0 = .ok (.aload_n 0, 1) := by decide +kernel
theorem dX9_init_1 : decode cX9_init 1 = .ok (.invokespecial 3, 3) := by decide +kernel
theorem dX9_init_4 : decode cX9_init 4 = .ok (.aload_n 0, 1) := by decide +kernel
theorem dX9_init_5 : decode cX9_init 5 = .ok (.new 9, 3) := by decide +kernel
theorem dX9_init_8 : decode cX9_init 8 = .ok (.dup, 1) := by decide +kernel
theorem dX9_init_9 : decode cX9_init 9 = .ok (.invokespecial 11, 3) := by decide +kernel
theorem dX9_init_12 : decode cX9_init 12 = .ok (.putfield 12, 3) := by decide +kernel
theorem dX9_init_15 : decode cX9_init 15 = .ok (.aload_n 0, 1) := by decide +kernel
theorem dX9_init_16 : decode cX9_init 16 = .ok (.new 16, 3) := by decide +kernel
theorem dX9_init_19 : decode cX9_init 19 = .ok (.dup, 1) := by decide +kernel
theorem dX9_init_20 : decode cX9_init 20 = .ok (.invokespecial 18, 3) := by decide +kernel
theorem dX9_init_23 : decode cX9_init 23 = .ok (.putfield 19, 3) := by decide +kernel
theorem dX9_init_26 : decode cX9_init 26 = .ok (.aload_n 0, 1) := by decide +kernel
theorem dX9_init_27 : decode cX9_init 27 = .ok (.sipush 240, 3) := by decide +kernel
theorem dX9_init_30 : decode cX9_init 30 = .ok (.newarray .int, 2) := by decide +kernel
theorem dX9_init_32 : decode cX9_init 32 = .ok (.putfield 23, 3) := by decide +kernel
theorem dX9_init_35 : decode cX9_init 35 = .ok (.aload_n 0, 1) := by decide +kernel
theorem dX9_init_36 : decode cX9_init 36 = .ok (.new 27, 3) := by decide +kernel
theorem dX9_init_39 : decode cX9_init 39 = .ok (.dup, 1) := by decide +kernel
theorem dX9_init_40 : decode cX9_init 40 = .ok (.invokespecial 29, 3) := by decide +kernel
theorem dX9_init_43 : decode cX9_init 43 = .ok (.putfield 30, 3) := by decide +kernel
theorem dX9_init_46 : decode cX9_init 46 = .ok (.aload_n 0, 1) := by decide +kernel
theorem dX9_init_47 : decode cX9_init 47 = .ok (.new 34, 3) := by decide +kernel
theorem dX9_init_50 : decode cX9_init 50 = .ok (.dup, 1) := by decide +kernel
theorem dX9_init_51 : decode cX9_init 51 = .ok (.invokespecial 36, 3) := by decide +kernel
theorem dX9_init_54 : decode cX9_init 54 = .ok (.putfield 37, 3) := by decide +kernel
theorem dX9_init_57 : decode cX9_init 57 = .ok (.aload_n 0, 1) := by decide +kernel
theorem dX9_init_58 : decode cX9_init 58 = .ok (.new 41, 3) := by decide +kernel
theorem dX9_init_61 : decode cX9_init 61 = .ok (.dup, 1) := by decide +kernel
theorem dX9_init_62 : decode cX9_init 62 = .ok (.invokespecial 43, 3) := by decide +kernel
theorem dX9_init_65 : decode cX9_init 65 = .ok (.putfield 44, 3) := by decide +kernel
theorem dX9_init_68 : decode cX9_init 68 = .ok (.aload_n 0, 1) := by decide +kernel
theorem dX9_init_69 : decode cX9_init 69 = .ok (.new 48, 3) := by decide +kernel
theorem dX9_init_72 : decode cX9_init 72 = .ok (.dup, 1) := by decide +kernel
theorem dX9_init_73 : decode cX9_init 73 = .ok (.invokespecial 50, 3) := by decide +kernel
theorem dX9_init_76 : decode cX9_init 76 = .ok (.putfield 51, 3) := by decide +kernel
theorem dX9_init_79 : decode cX9_init 79 = .ok (.aload_n 0, 1) := by decide +kernel
theorem dX9_init_80 : decode cX9_init 80 = .ok (.new 55, 3) := by decide +kernel
theorem dX9_init_83 : decode cX9_init 83 = .ok (.dup, 1) := by decide +kernel
theorem dX9_init_84 : decode cX9_init 84 = .ok (.invokespecial 57, 3) := by decide +kernel
theorem dX9_init_87 : decode cX9_init 87 = .ok (.putfield 58, 3) := by decide +kernel
theorem dX9_init_90 : decode cX9_init 90 = .ok (.return_, 1) := by decide +kernel
theorem dX9_out_0 : decode cX9_out 0 = .ok (.iload_n 1, 1) := by decide +kernel
theorem dX9_out_1 : decode cX9_out 1 = .ok (.ifCond .lt 21, 3) := by decide +kernel
theorem dX9_out_4 : decode cX9_out 4 = .ok (.iload_n 1, 1) := by decide +kernel
theorem dX9_out_5 : decode cX9_out 5 = .ok (.aload_n 0, 1) := by decide +kernel
theorem dX9_out_6 : decode cX9_out 6 = .ok (.getfield 37, 3) := by decide +kernel
theorem dX9_out_9 : decode cX9_out 9 = .ok (.getfield 141, 3) := by decide +kernel
theorem dX9_out_12 : decode cX9_out 12 = .ok (.if_icmp .ge 10, 3) := by decide +kernel
theorem dX9_out_15 : decode cX9_out 15 = .ok (.iload_n 1, 1) := by decide +kernel
theorem dX9_out_16 : decode cX9_out 16 = .ok (.sipush 400, 3) := by decide +kernel
theorem dX9_out_19 : decode cX9_out 19 = .ok (.if_icmp .lt 13, 3) := by decide +kernel
theorem dX9_out_22 : decode cX9_out 22 = .ok (.new 144, 3) := by decide +kernel
theorem dX9_out_25 : decode cX9_out 25 = .ok (.dup, 1) := by decide +kernel
theorem dX9_out_26 : decode cX9_out 26 = .ok (.ldc 146, 2) := by decide +kernel
theorem dX9_out_28 : decode cX9_out 28 = .ok (.invokespecial 148, 3) := by decide +kernel
theorem dX9_out_31 : decode cX9_out 31 = .ok (.athrow, 1) := by decide +kernel
theorem dX9_out_32 : decode cX9_out 32 = .ok (.iload_n 2, 1) := by decide +kernel
theorem dX9_out_33 : decode cX9_out 33 = .ok (.lookupswitch 47 #[(0, 27), (1, 37)], 27) := by decide +kernel
theorem dX9_out_60 : decode cX9_out 60 = .ok (.aload_n 0, 1) := by decide +kernel
theorem dX9_out_61 : decode cX9_out 61 = .ok (.getfield 37, 3) := by decide +kernel
theorem dX9_out_64 : decode cX9_out 64 = .ok (.getfield 151, 3) := by decide +kernel
theorem dX9_out_67 : decode cX9_out 67 = .ok (.iload_n 1, 1) := by decide +kernel
theorem dX9_out_68 : decode cX9_out 68 = .ok (.iaload, 1) := by decide +kernel
theorem dX9_out_69 : decode cX9_out 69 = .ok (.ireturn, 1) := by decide +kernel
theorem dX9_out_70 : decode cX9_out 70 = .ok (.aload_n 0, 1) := by decide +kernel
theorem dX9_out_71 : decode cX9_out 71 = .ok (.getfield 37, 3) := by decide +kernel
theorem dX9_out_74 : decode cX9_out 74 = .ok (.getfield 154, 3) := by decide +kernel
theorem dX9_out_77 : decode cX9_out 77 = .ok (.iload_n 1, 1) := by decide +kernel
theorem dX9_out_78 : decode cX9_out 78 = .ok (.iaload, 1) := by decide +kernel
theorem dX9_out_79 : decode cX9_out 79 = .ok (.ireturn, 1) := by decide +kernel
theorem dX9_out_80 : decode cX9_out 80 = .ok (.new 144, 3) := by decide +kernel
theorem dX9_out_83 : decode cX9_out 83 = .ok (.dup, 1) := by decide +kernel
theorem dX9_out_84 : decode cX9_out 84 = .ok (.ldc 157, 2) := by decide +kernel
theorem dX9_out_86 : decode cX9_out 86 = .ok (.invokespecial 148, 3) := by decide +kernel
theorem dX9_out_89 : decode cX9_out 89 = .ok (.athrow, 1) := by decide +kernel
theorem dX10_init_0 : decode cX10_init 0 = .ok (.aload_n 0, 1) := by decide +kernel
theorem dX10_init_1 : decode cX10_init 1 = .ok (.invokespecial 1, 3) := by decide +kernel
theorem dX10_init_4 : decode cX10_init 4 = .ok (.aload_n 0, 1) := by decide +kernel
theorem dX10_init_5 : decode cX10_init 5 = .ok (.bipush 12, 2) := by decide +kernel
theorem dX10_init_7 : decode cX10_init 7 = .ok (.newarray .int, 2) := by decide +kernel
theorem dX10_init_9 : decode cX10_init 9 = .ok (.putfield 9, 3) := by decide +kernel
theorem dX10_init_12 : decode cX10_init 12 = .ok (.aload_n 0, 1) := by decide +kernel
theorem dX10_init_13 : decode cX10_init 13 = .ok (.iconst 1, 1) := by decide +kernel
theorem dX10_init_14 : decode cX10_init 14 = .ok (.putfield 13, 3) := by decide +kernel
theorem dX10_init_17 : decode cX10_init 17 = .ok (.aload_n 0, 1) := by decide +kernel
theorem dX10_init_18 : decode cX10_init 18 = .ok (.bipush 10, 2) := by decide +kernel
theorem dX10_init_20 : decode cX10_init 20 = .ok (.putfield 17, 3) := by decide +kernel
theorem dX10_init_23 : decode cX10_init 23 = .ok (.aload_n 0, 1) := by decide +kernel
theorem dX10_init_24 : decode cX10_init 24 = .ok (.bipush 120, 2) := by decide +kernel
theorem dX10_init_26 : decode cX10_init 26 = .ok (.newarray .int, 2) := by decide +kernel
theorem dX10_init_28 : decode cX10_init 28 = .ok (.putfield 20, 3) := by decide +kernel
theorem dX10_init_31 : decode cX10_init 31 = .ok (.aload_n 0, 1) := by decide +kernel
theorem dX10_init_32 : decode cX10_init 32 = .ok (.bipush 120, 2) := by decide +kernel
theorem dX10_init_34 : decode cX10_init 34 = .ok (.newarray .int, 2) := by decide +kernel
theorem dX10_init_36 : decode cX10_init 36 = .ok (.putfield 23, 3) := by decide +kernel
theorem dX10_init_39 : decode cX10_init 39 = .ok (.aload_n 0, 1) := by decide +kernel
theorem dX10_init_40 : decode cX10_init 40 = .ok (.bipush 120, 2) := by decide +kernel
theorem dX10_init_42 : decode cX10_init 42 = .ok (.newarray .int, 2) := by decide +kernel
theorem dX10_init_44 : decode cX10_init 44 = .ok (.putfield 26, 3) := by decide +kernel
theorem dX10_init_47 : decode cX10_init 47 = .ok (.aload_n 0, 1) := by decide +kernel
theorem dX10_init_48 : decode cX10_init 48 = .ok (.bipush 120, 2) := by decide +kernel
theorem dX10_init_50 : decode cX10_init 50 = .ok (.newarray .int, 2) := by decide +kernel
theorem dX10_init_52 : decode cX10_init 52 = .ok (.putfield 29, 3) := by decide +kernel
theorem dX10_init_55 : decode cX10_init 55 = .ok (.aload_n 0, 1) := by decide +kernel
theorem dX10_init_56 : decode cX10_init 56 = .ok (.bipush 120, 2) := by decide +kernel
theorem dX10_init_58 : decode cX10_init 58 = .ok (.newarray .int, 2) := by decide +kernel
theorem dX10_init_60 : decode cX10_init 60 = .ok (.putfield 32, 3) := by decide +kernel
theorem dX10_init_63 : decode cX10_init 63 = .ok (.aload_n 0, 1) := by decide +kernel
theorem dX10_init_64 : decode cX10_init 64 = .ok (.bipush 120, 2) := by decide +kernel
theorem dX10_init_66 : decode cX10_init 66 = .ok (.newarray .int, 2) := by decide +kernel
theorem dX10_init_68 : decode cX10_init 68 = .ok (.putfield 35, 3) := by decide +kernel
theorem dX10_init_71 : decode cX10_init 71 = .ok (.aload_n 0, 1) := by decide +kernel
theorem dX10_init_72 : decode cX10_init 72 = .ok (.bipush 8, 2) := by decide +kernel
theorem dX10_init_74 : decode cX10_init 74 = .ok (.newarray .int, 2) := by decide +kernel
theorem dX10_init_76 : decode cX10_init 76 = .ok (.putfield 38, 3) := by decide +kernel
theorem dX10_init_79 : decode cX10_init 79 = .ok (.aload_n 0, 1) := by decide +kernel
theorem dX10_init_80 : decode cX10_init 80 = .ok (.sipush 400, 3) := by decide +kernel
theorem dX10_init_83 : decode cX10_init 83 = .ok (.newarray .int, 2) := by decide +kernel
theorem dX10_init_85 : decode cX10_init 85 = .ok (.putfield 41, 3) := by decide +kernel
theorem dX10_init_88 : decode cX10_init 88 = .ok (.aload_n 0, 1) := by decide +kernel
theorem dX10_init_89 : decode cX10_init 89 = .ok (.sipush 400, 3) := by decide +kernel
theorem dX10_init_92 : decode cX10_init 92 = .ok (.newarray .int, 2) := by decide +kernel
theorem dX10_init_94 : decode cX10_init 94 = .ok (.putfield 44, 3) := by decide +kernel
theorem dX10_init_97 : decode cX10_init 97 = .ok (.aload_n 0, 1) := by decide +kernel
theorem dX10_init_98 : decode cX10_init 98 = .ok (.sipush 241, 3) := by decide +kernel
theorem dX10_init_101 : decode cX10_init 101 = .ok (.newarray .int, 2) := by decide +kernel
theorem dX10_init_103 : decode cX10_init 103 = .ok (.putfield 47, 3) := by decide +kernel
theorem dX10_init_106 : decode cX10_init 106 = .ok (.aload_n 0, 1) := by decide +kernel
theorem dX10_init_107 : decode cX10_init 107 = .ok (.bipush 40, 2) := by decide +kernel
theorem dX10_init_109 : decode cX10_init 109 = .ok (.newarray .int, 2) := by decide +kernel
theorem dX10_init_111 : decode cX10_init 111 = .ok (.putfield 50, 3) := by decide +kernel
theorem dX10_init_114 : decode cX10_init 114 = .ok (.aload_n 0, 1) := by decide +kernel
theorem dX10_init_115 : decode cX10_init 115 = .ok (.bipush 40, 2) := by decide +kernel
theorem dX10_init_117 : decode cX10_init 117 = .ok (.newarray .int, 2) := by decide +kernel
theorem dX10_init_119 : decode cX10_init 119 = .ok (.putfield 53, 3) := by decide +kernel
theorem dX10_init_122 : decode cX10_init 122 = .ok (.aload_n 0, 1) := by decide +kernel
theorem dX10_init_123 : decode cX10_init 123 = .ok (.bipush 40, 2) := by decide +kernel
theorem dX10_init_125 : decode cX10_init 125 = .ok (.newarray .int, 2) := by decide +kernel
theorem dX10_init_127 : decode cX10_init 127 = .ok (.putfield 56, 3) := by decide +kernel
theorem dX10_init_130 : decode cX10_init 130 = .ok (.aload_n 0, 1) := by decide +kernel
theorem dX10_init_131 : decode cX10_init 131 = .ok (.bipush 6, 2) := by decide +kernel
theorem dX10_init_133 : decode cX10_init 133 = .ok (.newarray .int, 2) := by decide +kernel
theorem dX10_init_135 : decode cX10_init 135 = .ok (.putfield 59, 3) := by decide +kernel
theorem dX10_init_138 : decode cX10_init 138 = .ok (.aload_n 0, 1) := by decide +kernel
theorem dX10_init_139 : decode cX10_init 139 = .ok (.bipush 6, 2) := by decide +kernel
theorem dX10_init_141 : decode cX10_init 141 = .ok (.newarray .int, 2) := by decide +kernel
theorem dX10_init_143 : decode cX10_init 143 = .ok (.putfield 62, 3) := by decide +kernel
theorem dX10_init_146 : decode cX10_init 146 = .ok (.aload_n 0, 1) := by decide +kernel
theorem dX10_init_147 : decode cX10_init 147 = .ok (.bipush 8, 2) := by decide +kernel
theorem dX10_init_149 : decode cX10_init 149 = .ok (.newarray .int, 2) := by decide +kernel
theorem dX10_init_151 : decode cX10_init 151 = .ok (.putfield 65, 3) := by decide +kernel
theorem dX10_init_154 : decode cX10_init 154 = .ok (.aload_n 0, 1) := by decide +kernel
theorem dX10_init_155 : decode cX10_init 155 = .ok (.bipush 120, 2) := by decide +kernel
theorem dX10_init_157 : decode cX10_init 157 = .ok (.newarray .int, 2) := by decide +kernel
theorem dX10_init_159 : decode cX10_init 159 = .ok (.putfield 68, 3) := by decide +kernel
theorem dX10_init_162 : decode cX10_init 162 = .ok (.aload_n 0, 1) := by decide +kernel
theorem dX10_init_163 : decode cX10_init 163 = .ok (.bipush 6, 2) := by decide +kernel
theorem dX10_init_165 : decode cX10_init 165 = .ok (.newarray .int, 2) := by decide +kernel
theorem dX10_init_167 : decode cX10_init 167 = .ok (.putfield 71, 3) := by decide +kernel
theorem dX10_init_170 : decode cX10_init 170 = .ok (.aload_n 0, 1) := by decide +kernel
theorem dX10_init_171 : decode cX10_init 171 = .ok (.bipush 6, 2) := by decide +kernel
theorem dX10_init_173 : decode cX10_init 173 = .ok (.newarray .int, 2) := by decide +kernel
theorem dX10_init_175 : decode cX10_init 175 = .ok (.putfield 74, 3) := by decide +kernel
theorem dX10_init_178 : decode cX10_init 178 = .ok (.aload_n 0, 1) := by decide +kernel
theorem dX10_init_179 : decode cX10_init 179 = .ok (.getfield 9, 3) := by decide +kernel
theorem dX10_init_182 : decode cX10_init 182 = .ok (.iconst 0, 1) := by decide +kernel
theorem dX10_init_183 : decode cX10_init 183 = .ok (.iconst (-1), 1) := by decide +kernel
theorem dX10_init_184 : decode cX10_init 184 = .ok (.iastore, 1) := by decide +kernel
theorem dX10_init_185 : decode cX10_init 185 = .ok (.iconst 0, 1) := by decide +kernel
theorem dX10_init_186 : decode cX10_init 186 = .ok (.istore_n 1, 1) := by decide +kernel
theorem dX10_init_187 : decode cX10_init 187 = .ok (.iload_n 1, 1) := by decide +kernel
theorem dX10_init_188 : decode cX10_init 188 = .ok (.sipush 240, 3) := by decide +kernel
theorem dX10_init_191 : decode cX10_init 191 = .ok (.if_icmp .gt 17, 3) := by decide +kernel
theorem dX10_init_194 : decode cX10_init 194 = .ok (.aload_n 0, 1) := by decide +kernel
theorem dX10_init_195 : decode cX10_init 195 = .ok (.getfield 47, 3) := by decide +kernel
theorem dX10_init_198 : decode cX10_init 198 = .ok (.iload_n 1, 1) := by decide +kernel
theorem dX10_init_199 : decode cX10_init 199 = .ok (.bipush 10, 2) := by decide +kernel
theorem dX10_init_201 : decode cX10_init 201 = .ok (.iastore, 1) := by decide +kernel
theorem dX10_init_202 : decode cX10_init 202 = .ok (.iinc 1 1, 3) := by decide +kernel
theorem dX10_init_205 : decode cX10_init 205 = .ok (.goto (-18), 3) := by decide +kernel
theorem dX10_init_208 : decode cX10_init 208 = .ok (.iconst 0, 1) := by decide +kernel
theorem dX10_init_209 : decode cX10_init 209 = .ok (.istore_n 1, 1) := by decide +kernel
theorem dX10_init_210 : decode cX10_init 210 = .ok (.iload_n 1, 1) := by decide +kernel
theorem dX10_init_211 : decode cX10_init 211 = .ok (.bipush 40, 2) := by decide +kernel
theorem dX10_init_213 : decode cX10_init 213 = .ok (.if_icmp .ge 16, 3) := by decide +kernel
theorem dX10_init_216 : decode cX10_init 216 = .ok (.aload_n 0, 1) := by decide +kernel
theorem dX10_init_217 : decode cX10_init 217 = .ok (.getfield 50, 3) := by decide +kernel
theorem dX10_init_220 : decode cX10_init 220 = .ok (.iload_n 1, 1) := by decide +kernel
theorem dX10_init_221 : decode cX10_init 221 = .ok (.iconst 1, 1) := by decide +kernel
theorem dX10_init_222 : decode cX10_init 222 = .ok (.iastore, 1) := by decide +kernel
theorem dX10_init_223 : decode cX10_init 223 = .ok (.iinc 1 1, 3) := by decide +kernel
theorem dX10_init_226 : decode cX10_init 226 = .ok (.goto (-16), 3) := by decide +kernel
theorem dX10_init_229 : decode cX10_init 229 = .ok (.return_, 1) := by decide +kernel
theorem dL_out_0 : decode cL_out 0 = .ok (.aload_n 3, 1) := by decide +kernel
theorem dL_out_1 : decode cL_out 1 = .ok (.iconst 0, 1) := by decide +kernel
theorem dL_out_2 : decode cL_out 2 = .ok (.aload_n 0, 1) := by decide +kernel
theorem dL_out_3 : decode cL_out 3 = .ok (.iload_n 1, 1) := by decide +kernel
theorem dL_out_4 : decode cL_out 4 = .ok (.iload_n 2, 1) := by decide +kernel
theorem dL_out_5 : decode cL_out 5 = .ok (.invokevirtual 7, 3) := by decide +kernel
theorem dL_out_8 : decode cL_out 8 = .ok (.i2l, 1) := by decide +kernel
theorem dL_out_9 : decode cL_out 9 = .ok (.lastore, 1) := by decide +kernel
theorem dL_out_10 : decode cL_out 10 = .ok (.goto 7, 3) := by decide +kernel
theorem dL_out_13 : decode cL_out 13 = .ok (.astore 4, 2) := by decide +kernel
theorem dL_out_15 : decode cL_out 15 = .ok (.iconst 1, 1) := by decide +kernel
theorem dL_out_16 : decode cL_out 16 = .ok (.ireturn, 1) := by decide +kernel
theorem dL_out_17 : decode cL_out 17 = .ok (.iconst 0, 1) := by decide +kernel
theorem dL_out_18 : decode cL_out 18 = .ok (.ireturn, 1) := by decide +kernel
theorem dL_law_0 : decode cL_law 0 = .ok (.new 8, 3) := by decide +kernel
theorem dL_law_3 : decode cL_law 3 = .ok (.dup, 1) := by decide +kernel
theorem dL_law_4 : decode cL_law 4 = .ok (.invokespecial 15, 3) := by decide +kernel
theorem dL_law_7 : decode cL_law 7 = .ok (.astore_n 1, 1) := by decide +kernel
theorem dL_law_8 : decode cL_law 8 = .ok (.new 16, 3) := by decide +kernel
theorem dL_law_11 : decode cL_law 11 = .ok (.dup, 1) := by decide +kernel
theorem dL_law_12 : decode cL_law 12 = .ok (.invokespecial 18, 3) := by decide +kernel
theorem dL_law_15 : decode cL_law 15 = .ok (.astore_n 2, 1) := by decide +kernel
theorem dL_law_16 : decode cL_law 16 = .ok (.iconst 1, 1) := by decide +kernel
theorem dL_law_17 : decode cL_law 17 = .ok (.newarray .long, 2) := by decide +kernel
theorem dL_law_19 : decode cL_law 19 = .ok (.astore_n 3, 1) := by decide +kernel
theorem dL_law_20 : decode cL_law 20 = .ok (.iconst 0, 1) := by decide +kernel
theorem dL_law_21 : decode cL_law 21 = .ok (.istore 4, 2) := by decide +kernel
theorem dL_law_23 : decode cL_law 23 = .ok (.iload 4, 2) := by decide +kernel
theorem dL_law_25 : decode cL_law 25 = .ok (.aload_n 0, 1) := by decide +kernel
theorem dL_law_26 : decode cL_law 26 = .ok (.arraylength, 1) := by decide +kernel
theorem dL_law_27 : decode cL_law 27 = .ok (.iconst 4, 1) := by decide +kernel
theorem dL_law_28 : decode cL_law 28 = .ok (.isub, 1) := by decide +kernel
theorem dL_law_29 : decode cL_law 29 = .ok (.if_icmp .gt 935, 3) := by decide +kernel
theorem dL_law_32 : decode cL_law 32 = .ok (.aload_n 0, 1) := by decide +kernel
theorem dL_law_33 : decode cL_law 33 = .ok (.iload 4, 2) := by decide +kernel
theorem dL_law_35 : decode cL_law 35 = .ok (.iaload, 1) := by decide +kernel
theorem dL_law_36 : decode cL_law 36 = .ok (.bipush 31, 2) := by decide +kernel
theorem dL_law_38 : decode cL_law 38 = .ok (.iand, 1) := by decide +kernel
theorem dL_law_39 : decode cL_law 39 = .ok (.tableswitch 919 0 26 #[121, 146, 195, 232, 269, 318, 343, 368, 393, 430, 455, 523, 560, 597, 646, 683, 708, 719, 732, 757, 770, 783, 794, 831, 844, 869, 894], 121) := by decide +kernel
theorem dL_law_160 : decode cL_law 160 = .ok (.aload_n 1, 1) := by decide +kernel
theorem dL_law_161 : decode cL_law 161 = .ok (.aload_n 0, 1) := by decide +kernel
theorem dL_law_162 : decode cL_law 162 = .ok (.iload 4, 2) := by decide +kernel
theorem dL_law_164 : decode cL_law 164 = .ok (.iconst 1, 1) := by decide +kernel
theorem dL_law_165 : decode cL_law 165 = .ok (.iadd, 1) := by decide +kernel
theorem dL_law_166 : decode cL_law 166 = .ok (.iaload, 1) := by decide +kernel
theorem dL_law_167 : decode cL_law 167 = .ok (.invokevirtual 19, 3) := by decide +kernel
theorem dL_law_170 : decode cL_law 170 = .ok (.aload_n 2, 1) := by decide +kernel
theorem dL_law_171 : decode cL_law 171 = .ok (.aload_n 0, 1) := by decide +kernel
theorem dL_law_172 : decode cL_law 172 = .ok (.iload 4, 2) := by decide +kernel
theorem dL_law_174 : decode cL_law 174 = .ok (.iconst 1, 1) := by decide +kernel
theorem dL_law_175 : decode cL_law 175 = .ok (.iadd, 1) := by decide +kernel
theorem dL_law_176 : decode cL_law 176 = .ok (.iaload, 1) := by decide +kernel
theorem dL_law_177 : decode cL_law 177 = .ok (.invokevirtual 23, 3) := by decide +kernel
theorem dL_law_180 : decode cL_law 180 = .ok (.if_icmp .eq 778, 3) := by decide +kernel
theorem dL_law_183 : decode cL_law 183 = .ok (.iconst 0, 1) := by decide +kernel
theorem dL_law_184 : decode cL_law 184 = .ok (.ireturn, 1) := by decide +kernel
theorem dL_law_185 : decode cL_law 185 = .ok (.aload_n 1, 1) := by decide +kernel
theorem dL_law_186 : decode cL_law 186 = .ok (.aload_n 0, 1) := by decide +kernel
theorem dL_law_187 : decode cL_law 187 = .ok (.iload 4, 2) := by decide +kernel
theorem dL_law_189 : decode cL_law 189 = .ok (.iconst 1, 1) := by decide +kernel
theorem dL_law_190 : decode cL_law 190 = .ok (.iadd, 1) := by decide +kernel
theorem dL_law_191 : decode cL_law 191 = .ok (.iaload, 1) := by decide +kernel
theorem dL_law_192 : decode cL_law 192 = .ok (.aload_n 0, 1) := by decide +kernel
theorem dL_law_193 : decode cL_law 193 = .ok (.iload 4, 2) := by decide +kernel
theorem dL_law_195 : decode cL_law 195 = .ok (.iconst 2, 1) := by decide +kernel
theorem dL_law_196 : decode cL_law 196 = .ok (.iadd, 1) := by decide +kernel
theorem dL_law_197 : decode cL_law 197 = .ok (.iaload, 1) := by decide +kernel
theorem dL_law_198 : decode cL_law 198 = .ok (.aload_n 0, 1) := by decide +kernel
theorem dL_law_199 : decode cL_law 199 = .ok (.iload 4, 2) := by decide +kernel
theorem dL_law_201 : decode cL_law 201 = .ok (.iconst 3, 1) := by decide +kernel
theorem dL_law_202 : decode cL_law 202 = .ok (.iadd, 1) := by decide +kernel
theorem dL_law_203 : decode cL_law 203 = .ok (.iaload, 1) := by decide +kernel
theorem dL_law_204 : decode cL_law 204 = .ok (.invokevirtual 24, 3) := by decide +kernel
theorem dL_law_207 : decode cL_law 207 = .ok (.aload_n 2, 1) := by decide +kernel
theorem dL_law_208 : decode cL_law 208 = .ok (.aload_n 0, 1) := by decide +kernel
theorem dL_law_209 : decode cL_law 209 = .ok (.iload 4, 2) := by decide +kernel
theorem dL_law_211 : decode cL_law 211 = .ok (.iconst 1, 1) := by decide +kernel
theorem dL_law_212 : decode cL_law 212 = .ok (.iadd, 1) := by decide +kernel
theorem dL_law_213 : decode cL_law 213 = .ok (.iaload, 1) := by decide +kernel
theorem dL_law_214 : decode cL_law 214 = .ok (.aload_n 0, 1) := by decide +kernel
theorem dL_law_215 : decode cL_law 215 = .ok (.iload 4, 2) := by decide +kernel
theorem dL_law_217 : decode cL_law 217 = .ok (.iconst 2, 1) := by decide +kernel
theorem dL_law_218 : decode cL_law 218 = .ok (.iadd, 1) := by decide +kernel
theorem dL_law_219 : decode cL_law 219 = .ok (.iaload, 1) := by decide +kernel
theorem dL_law_220 : decode cL_law 220 = .ok (.aload_n 0, 1) := by decide +kernel
theorem dL_law_221 : decode cL_law 221 = .ok (.iload 4, 2) := by decide +kernel
theorem dL_law_223 : decode cL_law 223 = .ok (.iconst 3, 1) := by decide +kernel
theorem dL_law_224 : decode cL_law 224 = .ok (.iadd, 1) := by decide +kernel
theorem dL_law_225 : decode cL_law 225 = .ok (.iaload, 1) := by decide +kernel
theorem dL_law_226 : decode cL_law 226 = .ok (.invokevirtual 28, 3) := by decide +kernel
theorem dL_law_229 : decode cL_law 229 = .ok (.if_icmp .eq 729, 3) := by decide +kernel
theorem dL_law_232 : decode cL_law 232 = .ok (.iconst 0, 1) := by decide +kernel
theorem dL_law_233 : decode cL_law 233 = .ok (.ireturn, 1) := by decide +kernel
theorem dL_law_234 : decode cL_law 234 = .ok (.aload_n 1, 1) := by decide +kernel
theorem dL_law_235 : decode cL_law 235 = .ok (.aload_n 0, 1) := by decide +kernel
theorem dL_law_236 : decode cL_law 236 = .ok (.iload 4, 2) := by decide +kernel
theorem dL_law_238 : decode cL_law 238 = .ok (.iconst 1, 1) := by decide +kernel
theorem dL_law_239 : decode cL_law 239 = .ok (.iadd, 1) := by decide +kernel
theorem dL_law_240 : decode cL_law 240 = .ok (.iaload, 1) := by decide +kernel
theorem dL_law_241 : decode cL_law 241 = .ok (.aload_n 0, 1) := by decide +kernel
theorem dL_law_242 : decode cL_law 242 = .ok (.iload 4, 2) := by decide +kernel
theorem dL_law_244 : decode cL_law 244 = .ok (.iconst 2, 1) := by decide +kernel
theorem dL_law_245 : decode cL_law 245 = .ok (.iadd, 1) := by decide +kernel
theorem dL_law_246 : decode cL_law 246 = .ok (.iaload, 1) := by decide +kernel
theorem dL_law_247 : decode cL_law 247 = .ok (.invokevirtual 29, 3) := by decide +kernel
theorem dL_law_250 : decode cL_law 250 = .ok (.aload_n 2, 1) := by decide +kernel
theorem dL_law_251 : decode cL_law 251 = .ok (.aload_n 0, 1) := by decide +kernel
theorem dL_law_252 : decode cL_law 252 = .ok (.iload 4, 2) := by decide +kernel
theorem dL_law_254 : decode cL_law 254 = .ok (.iconst 1, 1) := by decide +kernel
theorem dL_law_255 : decode cL_law 255 = .ok (.iadd, 1) := by decide +kernel
theorem dL_law_256 : decode cL_law 256 = .ok (.iaload, 1) := by decide +kernel
theorem dL_law_257 : decode cL_law 257 = .ok (.aload_n 0, 1) := by decide +kernel
theorem dL_law_258 : decode cL_law 258 = .ok (.iload 4, 2) := by decide +kernel
theorem dL_law_260 : decode cL_law 260 = .ok (.iconst 2, 1) := by decide +kernel
theorem dL_law_261 : decode cL_law 261 = .ok (.iadd, 1) := by decide +kernel
theorem dL_law_262 : decode cL_law 262 = .ok (.iaload, 1) := by decide +kernel
theorem dL_law_263 : decode cL_law 263 = .ok (.invokevirtual 32, 3) := by decide +kernel
theorem dL_law_266 : decode cL_law 266 = .ok (.if_icmp .eq 692, 3) := by decide +kernel
theorem dL_law_269 : decode cL_law 269 = .ok (.iconst 0, 1) := by decide +kernel
theorem dL_law_270 : decode cL_law 270 = .ok (.ireturn, 1) := by decide +kernel
theorem dL_law_271 : decode cL_law 271 = .ok (.aload_n 1, 1) := by decide +kernel
theorem dL_law_272 : decode cL_law 272 = .ok (.aload_n 0, 1) := by decide +kernel
theorem dL_law_273 : decode cL_law 273 = .ok (.iload 4, 2) := by decide +kernel
theorem dL_law_275 : decode cL_law 275 = .ok (.iconst 1, 1) := by decide +kernel
theorem dL_law_276 : decode cL_law 276 = .ok (.iadd, 1) := by decide +kernel
theorem dL_law_277 : decode cL_law 277 = .ok (.iaload, 1) := by decide +kernel
theorem dL_law_278 : decode cL_law 278 = .ok (.aload_n 0, 1) := by decide +kernel
theorem dL_law_279 : decode cL_law 279 = .ok (.iload 4, 2) := by decide +kernel
theorem dL_law_281 : decode cL_law 281 = .ok (.iconst 2, 1) := by decide +kernel
theorem dL_law_282 : decode cL_law 282 = .ok (.iadd, 1) := by decide +kernel
theorem dL_law_283 : decode cL_law 283 = .ok (.iaload, 1) := by decide +kernel
theorem dL_law_284 : decode cL_law 284 = .ok (.invokevirtual 33, 3) := by decide +kernel
theorem dL_law_287 : decode cL_law 287 = .ok (.aload_n 2, 1) := by decide +kernel
theorem dL_law_288 : decode cL_law 288 = .ok (.aload_n 0, 1) := by decide +kernel
theorem dL_law_289 : decode cL_law 289 = .ok (.iload 4, 2) := by decide +kernel
theorem dL_law_291 : decode cL_law 291 = .ok (.iconst 1, 1) := by decide +kernel
theorem dL_law_292 : decode cL_law 292 = .ok (.iadd, 1) := by decide +kernel
theorem dL_law_293 : decode cL_law 293 = .ok (.iaload, 1) := by decide +kernel
theorem dL_law_294 : decode cL_law 294 = .ok (.aload_n 0, 1) := by decide +kernel
theorem dL_law_295 : decode cL_law 295 = .ok (.iload 4, 2) := by decide +kernel
theorem dL_law_297 : decode cL_law 297 = .ok (.iconst 2, 1) := by decide +kernel
theorem dL_law_298 : decode cL_law 298 = .ok (.iadd, 1) := by decide +kernel
theorem dL_law_299 : decode cL_law 299 = .ok (.iaload, 1) := by decide +kernel
theorem dL_law_300 : decode cL_law 300 = .ok (.invokevirtual 36, 3) := by decide +kernel
theorem dL_law_303 : decode cL_law 303 = .ok (.if_icmp .eq 655, 3) := by decide +kernel
theorem dL_law_306 : decode cL_law 306 = .ok (.iconst 0, 1) := by decide +kernel
theorem dL_law_307 : decode cL_law 307 = .ok (.ireturn, 1) := by decide +kernel
theorem dL_law_308 : decode cL_law 308 = .ok (.aload_n 1, 1) := by decide +kernel
theorem dL_law_309 : decode cL_law 309 = .ok (.aload_n 0, 1) := by decide +kernel
theorem dL_law_310 : decode cL_law 310 = .ok (.iload 4, 2) := by decide +kernel
theorem dL_law_312 : decode cL_law 312 = .ok (.iconst 1, 1) := by decide +kernel
theorem dL_law_313 : decode cL_law 313 = .ok (.iadd, 1) := by decide +kernel
theorem dL_law_314 : decode cL_law 314 = .ok (.iaload, 1) := by decide +kernel
theorem dL_law_315 : decode cL_law 315 = .ok (.aload_n 0, 1) := by decide +kernel
theorem dL_law_316 : decode cL_law 316 = .ok (.iload 4, 2) := by decide +kernel
theorem dL_law_318 : decode cL_law 318 = .ok (.iconst 2, 1) := by decide +kernel
theorem dL_law_319 : decode cL_law 319 = .ok (.iadd, 1) := by decide +kernel
theorem dL_law_320 : decode cL_law 320 = .ok (.iaload, 1) := by decide +kernel
theorem dL_law_321 : decode cL_law 321 = .ok (.aload_n 0, 1) := by decide +kernel
theorem dL_law_322 : decode cL_law 322 = .ok (.iload 4, 2) := by decide +kernel
theorem dL_law_324 : decode cL_law 324 = .ok (.iconst 3, 1) := by decide +kernel
theorem dL_law_325 : decode cL_law 325 = .ok (.iadd, 1) := by decide +kernel
theorem dL_law_326 : decode cL_law 326 = .ok (.iaload, 1) := by decide +kernel
theorem dL_law_327 : decode cL_law 327 = .ok (.invokevirtual 37, 3) := by decide +kernel
theorem dL_law_330 : decode cL_law 330 = .ok (.aload_n 2, 1) := by decide +kernel
theorem dL_law_331 : decode cL_law 331 = .ok (.aload_n 0, 1) := by decide +kernel
theorem dL_law_332 : decode cL_law 332 = .ok (.iload 4, 2) := by decide +kernel
theorem dL_law_334 : decode cL_law 334 = .ok (.iconst 1, 1) := by decide +kernel
theorem dL_law_335 : decode cL_law 335 = .ok (.iadd, 1) := by decide +kernel
theorem dL_law_336 : decode cL_law 336 = .ok (.iaload, 1) := by decide +kernel
theorem dL_law_337 : decode cL_law 337 = .ok (.aload_n 0, 1) := by decide +kernel
theorem dL_law_338 : decode cL_law 338 = .ok (.iload 4, 2) := by decide +kernel
theorem dL_law_340 : decode cL_law 340 = .ok (.iconst 2, 1) := by decide +kernel
theorem dL_law_341 : decode cL_law 341 = .ok (.iadd, 1) := by decide +kernel
theorem dL_law_342 : decode cL_law 342 = .ok (.iaload, 1) := by decide +kernel
theorem dL_law_343 : decode cL_law 343 = .ok (.aload_n 0, 1) := by decide +kernel
theorem dL_law_344 : decode cL_law 344 = .ok (.iload 4, 2) := by decide +kernel
theorem dL_law_346 : decode cL_law 346 = .ok (.iconst 3, 1) := by decide +kernel
theorem dL_law_347 : decode cL_law 347 = .ok (.iadd, 1) := by decide +kernel
theorem dL_law_348 : decode cL_law 348 = .ok (.iaload, 1) := by decide +kernel
theorem dL_law_349 : decode cL_law 349 = .ok (.invokevirtual 40, 3) := by decide +kernel
theorem dL_law_352 : decode cL_law 352 = .ok (.if_icmp .eq 606, 3) := by decide +kernel
theorem dL_law_355 : decode cL_law 355 = .ok (.iconst 0, 1) := by decide +kernel
theorem dL_law_356 : decode cL_law 356 = .ok (.ireturn, 1) := by decide +kernel
theorem dL_law_357 : decode cL_law 357 = .ok (.aload_n 1, 1) := by decide +kernel
theorem dL_law_358 : decode cL_law 358 = .ok (.aload_n 0, 1) := by decide +kernel
theorem dL_law_359 : decode cL_law 359 = .ok (.iload 4, 2) := by decide +kernel
theorem dL_law_361 : decode cL_law 361 = .ok (.iconst 1, 1) := by decide +kernel
theorem dL_law_362 : decode cL_law 362 = .ok (.iadd, 1) := by decide +kernel
theorem dL_law_363 : decode cL_law 363 = .ok (.iaload, 1) := by decide +kernel
theorem dL_law_364 : decode cL_law 364 = .ok (.invokevirtual 41, 3) := by decide +kernel
theorem dL_law_367 : decode cL_law 367 = .ok (.aload_n 2, 1) := by decide +kernel
theorem dL_law_368 : decode cL_law 368 = .ok (.aload_n 0, 1) := by decide +kernel
theorem dL_law_369 : decode cL_law 369 = .ok (.iload 4, 2) := by decide +kernel
theorem dL_law_371 : decode cL_law 371 = .ok (.iconst 1, 1) := by decide +kernel
theorem dL_law_372 : decode cL_law 372 = .ok (.iadd, 1) := by decide +kernel
theorem dL_law_373 : decode cL_law 373 = .ok (.iaload, 1) := by decide +kernel
theorem dL_law_374 : decode cL_law 374 = .ok (.invokevirtual 44, 3) := by decide +kernel
theorem dL_law_377 : decode cL_law 377 = .ok (.if_icmp .eq 581, 3) := by decide +kernel
theorem dL_law_380 : decode cL_law 380 = .ok (.iconst 0, 1) := by decide +kernel
theorem dL_law_381 : decode cL_law 381 = .ok (.ireturn, 1) := by decide +kernel
theorem dL_law_382 : decode cL_law 382 = .ok (.aload_n 1, 1) := by decide +kernel
theorem dL_law_383 : decode cL_law 383 = .ok (.aload_n 0, 1) := by decide +kernel
theorem dL_law_384 : decode cL_law 384 = .ok (.iload 4, 2) := by decide +kernel
theorem dL_law_386 : decode cL_law 386 = .ok (.iconst 1, 1) := by decide +kernel
theorem dL_law_387 : decode cL_law 387 = .ok (.iadd, 1) := by decide +kernel
theorem dL_law_388 : decode cL_law 388 = .ok (.iaload, 1) := by decide +kernel
theorem dL_law_389 : decode cL_law 389 = .ok (.invokevirtual 45, 3) := by decide +kernel
theorem dL_law_392 : decode cL_law 392 = .ok (.aload_n 2, 1) := by decide +kernel
theorem dL_law_393 : decode cL_law 393 = .ok (.aload_n 0, 1) := by decide +kernel
theorem dL_law_394 : decode cL_law 394 = .ok (.iload 4, 2) := by decide +kernel
theorem dL_law_396 : decode cL_law 396 = .ok (.iconst 1, 1) := by decide +kernel
theorem dL_law_397 : decode cL_law 397 = .ok (.iadd, 1) := by decide +kernel
theorem dL_law_398 : decode cL_law 398 = .ok (.iaload, 1) := by decide +kernel
theorem dL_law_399 : decode cL_law 399 = .ok (.invokevirtual 49, 3) := by decide +kernel
theorem dL_law_402 : decode cL_law 402 = .ok (.if_icmp .eq 556, 3) := by decide +kernel
theorem dL_law_405 : decode cL_law 405 = .ok (.iconst 0, 1) := by decide +kernel
theorem dL_law_406 : decode cL_law 406 = .ok (.ireturn, 1) := by decide +kernel
theorem dL_law_407 : decode cL_law 407 = .ok (.aload_n 1, 1) := by decide +kernel
theorem dL_law_408 : decode cL_law 408 = .ok (.aload_n 0, 1) := by decide +kernel
theorem dL_law_409 : decode cL_law 409 = .ok (.iload 4, 2) := by decide +kernel
theorem dL_law_411 : decode cL_law 411 = .ok (.iconst 1, 1) := by decide +kernel
theorem dL_law_412 : decode cL_law 412 = .ok (.iadd, 1) := by decide +kernel
theorem dL_law_413 : decode cL_law 413 = .ok (.iaload, 1) := by decide +kernel
theorem dL_law_414 : decode cL_law 414 = .ok (.invokevirtual 50, 3) := by decide +kernel
theorem dL_law_417 : decode cL_law 417 = .ok (.aload_n 2, 1) := by decide +kernel
theorem dL_law_418 : decode cL_law 418 = .ok (.aload_n 0, 1) := by decide +kernel
theorem dL_law_419 : decode cL_law 419 = .ok (.iload 4, 2) := by decide +kernel
theorem dL_law_421 : decode cL_law 421 = .ok (.iconst 1, 1) := by decide +kernel
theorem dL_law_422 : decode cL_law 422 = .ok (.iadd, 1) := by decide +kernel
theorem dL_law_423 : decode cL_law 423 = .ok (.iaload, 1) := by decide +kernel
theorem dL_law_424 : decode cL_law 424 = .ok (.invokevirtual 53, 3) := by decide +kernel
theorem dL_law_427 : decode cL_law 427 = .ok (.if_icmp .eq 531, 3) := by decide +kernel
theorem dL_law_430 : decode cL_law 430 = .ok (.iconst 0, 1) := by decide +kernel
theorem dL_law_431 : decode cL_law 431 = .ok (.ireturn, 1) := by decide +kernel
theorem dL_law_432 : decode cL_law 432 = .ok (.aload_n 1, 1) := by decide +kernel
theorem dL_law_433 : decode cL_law 433 = .ok (.aload_n 0, 1) := by decide +kernel
theorem dL_law_434 : decode cL_law 434 = .ok (.iload 4, 2) := by decide +kernel
theorem dL_law_436 : decode cL_law 436 = .ok (.iconst 1, 1) := by decide +kernel
theorem dL_law_437 : decode cL_law 437 = .ok (.iadd, 1) := by decide +kernel
theorem dL_law_438 : decode cL_law 438 = .ok (.iaload, 1) := by decide +kernel
theorem dL_law_439 : decode cL_law 439 = .ok (.aload_n 0, 1) := by decide +kernel
theorem dL_law_440 : decode cL_law 440 = .ok (.iload 4, 2) := by decide +kernel
theorem dL_law_442 : decode cL_law 442 = .ok (.iconst 2, 1) := by decide +kernel
theorem dL_law_443 : decode cL_law 443 = .ok (.iadd, 1) := by decide +kernel
theorem dL_law_444 : decode cL_law 444 = .ok (.iaload, 1) := by decide +kernel
theorem dL_law_445 : decode cL_law 445 = .ok (.invokevirtual 54, 3) := by decide +kernel
theorem dL_law_448 : decode cL_law 448 = .ok (.aload_n 2, 1) := by decide +kernel
theorem dL_law_449 : decode cL_law 449 = .ok (.aload_n 0, 1) := by decide +kernel
theorem dL_law_450 : decode cL_law 450 = .ok (.iload 4, 2) := by decide +kernel
theorem dL_law_452 : decode cL_law 452 = .ok (.iconst 1, 1) := by decide +kernel
theorem dL_law_453 : decode cL_law 453 = .ok (.iadd, 1) := by decide +kernel
theorem dL_law_454 : decode cL_law 454 = .ok (.iaload, 1) := by decide +kernel
theorem dL_law_455 : decode cL_law 455 = .ok (.aload_n 0, 1) := by decide +kernel
theorem dL_law_456 : decode cL_law 456 = .ok (.iload 4, 2) := by decide +kernel
theorem dL_law_458 : decode cL_law 458 = .ok (.iconst 2, 1) := by decide +kernel
theorem dL_law_459 : decode cL_law 459 = .ok (.iadd, 1) := by decide +kernel
theorem dL_law_460 : decode cL_law 460 = .ok (.iaload, 1) := by decide +kernel
theorem dL_law_461 : decode cL_law 461 = .ok (.invokevirtual 57, 3) := by decide +kernel
theorem dL_law_464 : decode cL_law 464 = .ok (.if_icmp .eq 494, 3) := by decide +kernel
theorem dL_law_467 : decode cL_law 467 = .ok (.iconst 0, 1) := by decide +kernel
theorem dL_law_468 : decode cL_law 468 = .ok (.ireturn, 1) := by decide +kernel
theorem dL_law_469 : decode cL_law 469 = .ok (.aload_n 1, 1) := by decide +kernel
theorem dL_law_470 : decode cL_law 470 = .ok (.aload_n 0, 1) := by decide +kernel
theorem dL_law_471 : decode cL_law 471 = .ok (.iload 4, 2) := by decide +kernel
theorem dL_law_473 : decode cL_law 473 = .ok (.iconst 1, 1) := by decide +kernel
theorem dL_law_474 : decode cL_law 474 = .ok (.iadd, 1) := by decide +kernel
theorem dL_law_475 : decode cL_law 475 = .ok (.iaload, 1) := by decide +kernel
theorem dL_law_476 : decode cL_law 476 = .ok (.invokevirtual 58, 3) := by decide +kernel
theorem dL_law_479 : decode cL_law 479 = .ok (.aload_n 2, 1) := by decide +kernel
theorem dL_law_480 : decode cL_law 480 = .ok (.aload_n 0, 1) := by decide +kernel
theorem dL_law_481 : decode cL_law 481 = .ok (.iload 4, 2) := by decide +kernel
theorem dL_law_483 : decode cL_law 483 = .ok (.iconst 1, 1) := by decide +kernel
theorem dL_law_484 : decode cL_law 484 = .ok (.iadd, 1) := by decide +kernel
theorem dL_law_485 : decode cL_law 485 = .ok (.iaload, 1) := by decide +kernel
theorem dL_law_486 : decode cL_law 486 = .ok (.invokevirtual 61, 3) := by decide +kernel
theorem dL_law_489 : decode cL_law 489 = .ok (.if_icmp .eq 469, 3) := by decide +kernel
theorem dL_law_492 : decode cL_law 492 = .ok (.iconst 0, 1) := by decide +kernel
theorem dL_law_493 : decode cL_law 493 = .ok (.ireturn, 1) := by decide +kernel
theorem dL_law_494 : decode cL_law 494 = .ok (.aload_n 1, 1) := by decide +kernel
theorem dL_law_495 : decode cL_law 495 = .ok (.aload_n 0, 1) := by decide +kernel
theorem dL_law_496 : decode cL_law 496 = .ok (.iload 4, 2) := by decide +kernel
theorem dL_law_498 : decode cL_law 498 = .ok (.iconst 1, 1) := by decide +kernel
theorem dL_law_499 : decode cL_law 499 = .ok (.iadd, 1) := by decide +kernel
theorem dL_law_500 : decode cL_law 500 = .ok (.iaload, 1) := by decide +kernel
theorem dL_law_501 : decode cL_law 501 = .ok (.aload_n 0, 1) := by decide +kernel
theorem dL_law_502 : decode cL_law 502 = .ok (.iload 4, 2) := by decide +kernel
theorem dL_law_504 : decode cL_law 504 = .ok (.iconst 2, 1) := by decide +kernel
theorem dL_law_505 : decode cL_law 505 = .ok (.iadd, 1) := by decide +kernel
theorem dL_law_506 : decode cL_law 506 = .ok (.iaload, 1) := by decide +kernel
theorem dL_law_507 : decode cL_law 507 = .ok (.aload_n 3, 1) := by decide +kernel
theorem dL_law_508 : decode cL_law 508 = .ok (.invokestatic 62, 3) := by decide +kernel
theorem dL_law_511 : decode cL_law 511 = .ok (.istore 5, 2) := by decide +kernel
theorem dL_law_513 : decode cL_law 513 = .ok (.aload_n 2, 1) := by decide +kernel
theorem dL_law_514 : decode cL_law 514 = .ok (.aload_n 0, 1) := by decide +kernel
theorem dL_law_515 : decode cL_law 515 = .ok (.iload 4, 2) := by decide +kernel
theorem dL_law_517 : decode cL_law 517 = .ok (.iconst 1, 1) := by decide +kernel
theorem dL_law_518 : decode cL_law 518 = .ok (.iadd, 1) := by decide +kernel
theorem dL_law_519 : decode cL_law 519 = .ok (.iaload, 1) := by decide +kernel
theorem dL_law_520 : decode cL_law 520 = .ok (.aload_n 0, 1) := by decide +kernel
theorem dL_law_521 : decode cL_law 521 = .ok (.iload 4, 2) := by decide +kernel
theorem dL_law_523 : decode cL_law 523 = .ok (.iconst 2, 1) := by decide +kernel
theorem dL_law_524 : decode cL_law 524 = .ok (.iadd, 1) := by decide +kernel
theorem dL_law_525 : decode cL_law 525 = .ok (.iaload, 1) := by decide +kernel
theorem dL_law_526 : decode cL_law 526 = .ok (.invokevirtual 67, 3) := by decide +kernel
theorem dL_law_529 : decode cL_law 529 = .ok (.istore 6, 2) := by decide +kernel
theorem dL_law_531 : decode cL_law 531 = .ok (.aload_n 2, 1) := by decide +kernel
theorem dL_law_532 : decode cL_law 532 = .ok (.invokevirtual 68, 3) := by decide +kernel
theorem dL_law_535 : decode cL_law 535 = .ok (.iload 5, 2) := by decide +kernel
theorem dL_law_537 : decode cL_law 537 = .ok (.if_icmp .eq 5, 3) := by decide +kernel
theorem dL_law_540 : decode cL_law 540 = .ok (.iconst 0, 1) := by decide +kernel
theorem dL_law_541 : decode cL_law 541 = .ok (.ireturn, 1) := by decide +kernel
theorem dL_law_542 : decode cL_law 542 = .ok (.iload 5, 2) := by decide +kernel
theorem dL_law_544 : decode cL_law 544 = .ok (.ifCond .ne 15, 3) := by decide +kernel
theorem dL_law_547 : decode cL_law 547 = .ok (.aload_n 3, 1) := by decide +kernel
theorem dL_law_548 : decode cL_law 548 = .ok (.iconst 0, 1) := by decide +kernel
theorem dL_law_549 : decode cL_law 549 = .ok (.laload, 1) := by decide +kernel
theorem dL_law_550 : decode cL_law 550 = .ok (.iload 6, 2) := by decide +kernel
theorem dL_law_552 : decode cL_law 552 = .ok (.i2l, 1) := by decide +kernel
theorem dL_law_553 : decode cL_law 553 = .ok (.lcmp, 1) := by decide +kernel
theorem dL_law_554 : decode cL_law 554 = .ok (.ifCond .eq 5, 3) := by decide +kernel
theorem dL_law_557 : decode cL_law 557 = .ok (.iconst 0, 1) := by decide +kernel
theorem dL_law_558 : decode cL_law 558 = .ok (.ireturn, 1) := by decide +kernel
theorem dL_law_559 : decode cL_law 559 = .ok (.goto 399, 3) := by decide +kernel
theorem dL_law_562 : decode cL_law 562 = .ok (.aload_n 1, 1) := by decide +kernel
theorem dL_law_563 : decode cL_law 563 = .ok (.aload_n 0, 1) := by decide +kernel
theorem dL_law_564 : decode cL_law 564 = .ok (.iload 4, 2) := by decide +kernel
theorem dL_law_566 : decode cL_law 566 = .ok (.iconst 1, 1) := by decide +kernel
theorem dL_law_567 : decode cL_law 567 = .ok (.iadd, 1) := by decide +kernel
theorem dL_law_568 : decode cL_law 568 = .ok (.iaload, 1) := by decide +kernel
theorem dL_law_569 : decode cL_law 569 = .ok (.aload_n 0, 1) := by decide +kernel
theorem dL_law_570 : decode cL_law 570 = .ok (.iload 4, 2) := by decide +kernel
theorem dL_law_572 : decode cL_law 572 = .ok (.iconst 2, 1) := by decide +kernel
theorem dL_law_573 : decode cL_law 573 = .ok (.iadd, 1) := by decide +kernel
theorem dL_law_574 : decode cL_law 574 = .ok (.iaload, 1) := by decide +kernel
theorem dL_law_575 : decode cL_law 575 = .ok (.invokevirtual 72, 3) := by decide +kernel
theorem dL_law_578 : decode cL_law 578 = .ok (.aload_n 2, 1) := by decide +kernel
theorem dL_law_579 : decode cL_law 579 = .ok (.aload_n 0, 1) := by decide +kernel
theorem dL_law_580 : decode cL_law 580 = .ok (.iload 4, 2) := by decide +kernel
theorem dL_law_582 : decode cL_law 582 = .ok (.iconst 1, 1) := by decide +kernel
theorem dL_law_583 : decode cL_law 583 = .ok (.iadd, 1) := by decide +kernel
theorem dL_law_584 : decode cL_law 584 = .ok (.iaload, 1) := by decide +kernel
theorem dL_law_585 : decode cL_law 585 = .ok (.aload_n 0, 1) := by decide +kernel
theorem dL_law_586 : decode cL_law 586 = .ok (.iload 4, 2) := by decide +kernel
theorem dL_law_588 : decode cL_law 588 = .ok (.iconst 2, 1) := by decide +kernel
theorem dL_law_589 : decode cL_law 589 = .ok (.iadd, 1) := by decide +kernel
theorem dL_law_590 : decode cL_law 590 = .ok (.iaload, 1) := by decide +kernel
theorem dL_law_591 : decode cL_law 591 = .ok (.invokevirtual 76, 3) := by decide +kernel
theorem dL_law_594 : decode cL_law 594 = .ok (.if_icmp .eq 364, 3) := by decide +kernel
theorem dL_law_597 : decode cL_law 597 = .ok (.iconst 0, 1) := by decide +kernel
theorem dL_law_598 : decode cL_law 598 = .ok (.ireturn, 1) := by decide +kernel
theorem dL_law_599 : decode cL_law 599 = .ok (.aload_n 1, 1) := by decide +kernel
theorem dL_law_600 : decode cL_law 600 = .ok (.aload_n 0, 1) := by decide +kernel
theorem dL_law_601 : decode cL_law 601 = .ok (.iload 4, 2) := by decide +kernel
theorem dL_law_603 : decode cL_law 603 = .ok (.iconst 1, 1) := by decide +kernel
theorem dL_law_604 : decode cL_law 604 = .ok (.iadd, 1) := by decide +kernel
theorem dL_law_605 : decode cL_law 605 = .ok (.iaload, 1) := by decide +kernel
theorem dL_law_606 : decode cL_law 606 = .ok (.aload_n 0, 1) := by decide +kernel
theorem dL_law_607 : decode cL_law 607 = .ok (.iload 4, 2) := by decide +kernel
theorem dL_law_609 : decode cL_law 609 = .ok (.iconst 2, 1) := by decide +kernel
theorem dL_law_610 : decode cL_law 610 = .ok (.iadd, 1) := by decide +kernel
theorem dL_law_611 : decode cL_law 611 = .ok (.iaload, 1) := by decide +kernel
theorem dL_law_612 : decode cL_law 612 = .ok (.invokevirtual 77, 3) := by decide +kernel
theorem dL_law_615 : decode cL_law 615 = .ok (.aload_n 2, 1) := by decide +kernel
theorem dL_law_616 : decode cL_law 616 = .ok (.aload_n 0, 1) := by decide +kernel
theorem dL_law_617 : decode cL_law 617 = .ok (.iload 4, 2) := by decide +kernel
theorem dL_law_619 : decode cL_law 619 = .ok (.iconst 1, 1) := by decide +kernel
theorem dL_law_620 : decode cL_law 620 = .ok (.iadd, 1) := by decide +kernel
theorem dL_law_621 : decode cL_law 621 = .ok (.iaload, 1) := by decide +kernel
theorem dL_law_622 : decode cL_law 622 = .ok (.aload_n 0, 1) := by decide +kernel
theorem dL_law_623 : decode cL_law 623 = .ok (.iload 4, 2) := by decide +kernel
theorem dL_law_625 : decode cL_law 625 = .ok (.iconst 2, 1) := by decide +kernel
theorem dL_law_626 : decode cL_law 626 = .ok (.iadd, 1) := by decide +kernel
theorem dL_law_627 : decode cL_law 627 = .ok (.iaload, 1) := by decide +kernel
theorem dL_law_628 : decode cL_law 628 = .ok (.invokevirtual 80, 3) := by decide +kernel
theorem dL_law_631 : decode cL_law 631 = .ok (.if_icmp .eq 327, 3) := by decide +kernel
theorem dL_law_634 : decode cL_law 634 = .ok (.iconst 0, 1) := by decide +kernel
theorem dL_law_635 : decode cL_law 635 = .ok (.ireturn, 1) := by decide +kernel
theorem dL_law_636 : decode cL_law 636 = .ok (.aload_n 1, 1) := by decide +kernel
theorem dL_law_637 : decode cL_law 637 = .ok (.aload_n 0, 1) := by decide +kernel
theorem dL_law_638 : decode cL_law 638 = .ok (.iload 4, 2) := by decide +kernel
theorem dL_law_640 : decode cL_law 640 = .ok (.iconst 1, 1) := by decide +kernel
theorem dL_law_641 : decode cL_law 641 = .ok (.iadd, 1) := by decide +kernel
theorem dL_law_642 : decode cL_law 642 = .ok (.iaload, 1) := by decide +kernel
theorem dL_law_643 : decode cL_law 643 = .ok (.aload_n 0, 1) := by decide +kernel
theorem dL_law_644 : decode cL_law 644 = .ok (.iload 4, 2) := by decide +kernel
theorem dL_law_646 : decode cL_law 646 = .ok (.iconst 2, 1) := by decide +kernel
theorem dL_law_647 : decode cL_law 647 = .ok (.iadd, 1) := by decide +kernel
theorem dL_law_648 : decode cL_law 648 = .ok (.iaload, 1) := by decide +kernel
theorem dL_law_649 : decode cL_law 649 = .ok (.aload_n 0, 1) := by decide +kernel
theorem dL_law_650 : decode cL_law 650 = .ok (.iload 4, 2) := by decide +kernel
theorem dL_law_652 : decode cL_law 652 = .ok (.iconst 3, 1) := by decide +kernel
theorem dL_law_653 : decode cL_law 653 = .ok (.iadd, 1) := by decide +kernel
theorem dL_law_654 : decode cL_law 654 = .ok (.iaload, 1) := by decide +kernel
theorem dL_law_655 : decode cL_law 655 = .ok (.invokevirtual 81, 3) := by decide +kernel
theorem dL_law_658 : decode cL_law 658 = .ok (.aload_n 2, 1) := by decide +kernel
theorem dL_law_659 : decode cL_law 659 = .ok (.aload_n 0, 1) := by decide +kernel
theorem dL_law_660 : decode cL_law 660 = .ok (.iload 4, 2) := by decide +kernel
theorem dL_law_662 : decode cL_law 662 = .ok (.iconst 1, 1) := by decide +kernel
theorem dL_law_663 : decode cL_law 663 = .ok (.iadd, 1) := by decide +kernel
theorem dL_law_664 : decode cL_law 664 = .ok (.iaload, 1) := by decide +kernel
theorem dL_law_665 : decode cL_law 665 = .ok (.aload_n 0, 1) := by decide +kernel
theorem dL_law_666 : decode cL_law 666 = .ok (.iload 4, 2) := by decide +kernel
theorem dL_law_668 : decode cL_law 668 = .ok (.iconst 2, 1) := by decide +kernel
theorem dL_law_669 : decode cL_law 669 = .ok (.iadd, 1) := by decide +kernel
theorem dL_law_670 : decode cL_law 670 = .ok (.iaload, 1) := by decide +kernel
theorem dL_law_671 : decode cL_law 671 = .ok (.aload_n 0, 1) := by decide +kernel
theorem dL_law_672 : decode cL_law 672 = .ok (.iload 4, 2) := by decide +kernel
theorem dL_law_674 : decode cL_law 674 = .ok (.iconst 3, 1) := by decide +kernel
theorem dL_law_675 : decode cL_law 675 = .ok (.iadd, 1) := by decide +kernel
theorem dL_law_676 : decode cL_law 676 = .ok (.iaload, 1) := by decide +kernel
theorem dL_law_677 : decode cL_law 677 = .ok (.invokevirtual 85, 3) := by decide +kernel
theorem dL_law_680 : decode cL_law 680 = .ok (.if_icmp .eq 278, 3) := by decide +kernel
theorem dL_law_683 : decode cL_law 683 = .ok (.iconst 0, 1) := by decide +kernel
theorem dL_law_684 : decode cL_law 684 = .ok (.ireturn, 1) := by decide +kernel
theorem dL_law_685 : decode cL_law 685 = .ok (.aload_n 1, 1) := by decide +kernel
theorem dL_law_686 : decode cL_law 686 = .ok (.aload_n 0, 1) := by decide +kernel
theorem dL_law_687 : decode cL_law 687 = .ok (.iload 4, 2) := by decide +kernel
theorem dL_law_689 : decode cL_law 689 = .ok (.iconst 1, 1) := by decide +kernel
theorem dL_law_690 : decode cL_law 690 = .ok (.iadd, 1) := by decide +kernel
theorem dL_law_691 : decode cL_law 691 = .ok (.iaload, 1) := by decide +kernel
theorem dL_law_692 : decode cL_law 692 = .ok (.aload_n 0, 1) := by decide +kernel
theorem dL_law_693 : decode cL_law 693 = .ok (.iload 4, 2) := by decide +kernel
theorem dL_law_695 : decode cL_law 695 = .ok (.iconst 2, 1) := by decide +kernel
theorem dL_law_696 : decode cL_law 696 = .ok (.iadd, 1) := by decide +kernel
theorem dL_law_697 : decode cL_law 697 = .ok (.iaload, 1) := by decide +kernel
theorem dL_law_698 : decode cL_law 698 = .ok (.invokevirtual 86, 3) := by decide +kernel
theorem dL_law_701 : decode cL_law 701 = .ok (.aload_n 2, 1) := by decide +kernel
theorem dL_law_702 : decode cL_law 702 = .ok (.aload_n 0, 1) := by decide +kernel
theorem dL_law_703 : decode cL_law 703 = .ok (.iload 4, 2) := by decide +kernel
theorem dL_law_705 : decode cL_law 705 = .ok (.iconst 1, 1) := by decide +kernel
theorem dL_law_706 : decode cL_law 706 = .ok (.iadd, 1) := by decide +kernel
theorem dL_law_707 : decode cL_law 707 = .ok (.iaload, 1) := by decide +kernel
theorem dL_law_708 : decode cL_law 708 = .ok (.aload_n 0, 1) := by decide +kernel
theorem dL_law_709 : decode cL_law 709 = .ok (.iload 4, 2) := by decide +kernel
theorem dL_law_711 : decode cL_law 711 = .ok (.iconst 2, 1) := by decide +kernel
theorem dL_law_712 : decode cL_law 712 = .ok (.iadd, 1) := by decide +kernel
theorem dL_law_713 : decode cL_law 713 = .ok (.iaload, 1) := by decide +kernel
theorem dL_law_714 : decode cL_law 714 = .ok (.invokevirtual 89, 3) := by decide +kernel
theorem dL_law_717 : decode cL_law 717 = .ok (.if_icmp .eq 241, 3) := by decide +kernel
theorem dL_law_720 : decode cL_law 720 = .ok (.iconst 0, 1) := by decide +kernel
theorem dL_law_721 : decode cL_law 721 = .ok (.ireturn, 1) := by decide +kernel
theorem dL_law_722 : decode cL_law 722 = .ok (.aload_n 1, 1) := by decide +kernel
theorem dL_law_723 : decode cL_law 723 = .ok (.aload_n 0, 1) := by decide +kernel
theorem dL_law_724 : decode cL_law 724 = .ok (.iload 4, 2) := by decide +kernel
theorem dL_law_726 : decode cL_law 726 = .ok (.iconst 1, 1) := by decide +kernel
theorem dL_law_727 : decode cL_law 727 = .ok (.iadd, 1) := by decide +kernel
theorem dL_law_728 : decode cL_law 728 = .ok (.iaload, 1) := by decide +kernel
theorem dL_law_729 : decode cL_law 729 = .ok (.invokevirtual 90, 3) := by decide +kernel
theorem dL_law_732 : decode cL_law 732 = .ok (.aload_n 2, 1) := by decide +kernel
theorem dL_law_733 : decode cL_law 733 = .ok (.aload_n 0, 1) := by decide +kernel
theorem dL_law_734 : decode cL_law 734 = .ok (.iload 4, 2) := by decide +kernel
theorem dL_law_736 : decode cL_law 736 = .ok (.iconst 1, 1) := by decide +kernel
theorem dL_law_737 : decode cL_law 737 = .ok (.iadd, 1) := by decide +kernel
theorem dL_law_738 : decode cL_law 738 = .ok (.iaload, 1) := by decide +kernel
theorem dL_law_739 : decode cL_law 739 = .ok (.invokevirtual 93, 3) := by decide +kernel
theorem dL_law_742 : decode cL_law 742 = .ok (.if_icmp .eq 216, 3) := by decide +kernel
theorem dL_law_745 : decode cL_law 745 = .ok (.iconst 0, 1) := by decide +kernel
theorem dL_law_746 : decode cL_law 746 = .ok (.ireturn, 1) := by decide +kernel
theorem dL_law_747 : decode cL_law 747 = .ok (.aload_n 1, 1) := by decide +kernel
theorem dL_law_748 : decode cL_law 748 = .ok (.invokevirtual 94, 3) := by decide +kernel
theorem dL_law_751 : decode cL_law 751 = .ok (.aload_n 2, 1) := by decide +kernel
theorem dL_law_752 : decode cL_law 752 = .ok (.invokevirtual 97, 3) := by decide +kernel
theorem dL_law_755 : decode cL_law 755 = .ok (.goto 203, 3) := by decide +kernel
theorem dL_law_758 : decode cL_law 758 = .ok (.aload_n 1, 1) := by decide +kernel
theorem dL_law_759 : decode cL_law 759 = .ok (.invokevirtual 98, 3) := by decide +kernel
theorem dL_law_762 : decode cL_law 762 = .ok (.aload_n 2, 1) := by decide +kernel
theorem dL_law_763 : decode cL_law 763 = .ok (.invokevirtual 101, 3) := by decide +kernel
theorem dL_law_766 : decode cL_law 766 = .ok (.if_icmp .eq 192, 3) := by decide +kernel
theorem dL_law_769 : decode cL_law 769 = .ok (.iconst 0, 1) := by decide +kernel
theorem dL_law_770 : decode cL_law 770 = .ok (.ireturn, 1) := by decide +kernel
theorem dL_law_771 : decode cL_law 771 = .ok (.aload_n 1, 1) := by decide +kernel
theorem dL_law_772 : decode cL_law 772 = .ok (.aload_n 0, 1) := by decide +kernel
theorem dL_law_773 : decode cL_law 773 = .ok (.iload 4, 2) := by decide +kernel
theorem dL_law_775 : decode cL_law 775 = .ok (.iconst 1, 1) := by decide +kernel
theorem dL_law_776 : decode cL_law 776 = .ok (.iadd, 1) := by decide +kernel
theorem dL_law_777 : decode cL_law 777 = .ok (.iaload, 1) := by decide +kernel
theorem dL_law_778 : decode cL_law 778 = .ok (.invokevirtual 102, 3) := by decide +kernel
theorem dL_law_781 : decode cL_law 781 = .ok (.aload_n 2, 1) := by decide +kernel
theorem dL_law_782 : decode cL_law 782 = .ok (.aload_n 0, 1) := by decide +kernel
theorem dL_law_783 : decode cL_law 783 = .ok (.iload 4, 2) := by decide +kernel
theorem dL_law_785 : decode cL_law 785 = .ok (.iconst 1, 1) := by decide +kernel
theorem dL_law_786 : decode cL_law 786 = .ok (.iadd, 1) := by decide +kernel
theorem dL_law_787 : decode cL_law 787 = .ok (.iaload, 1) := by decide +kernel
theorem dL_law_788 : decode cL_law 788 = .ok (.invokevirtual 105, 3) := by decide +kernel
theorem dL_law_791 : decode cL_law 791 = .ok (.if_icmp .eq 167, 3) := by decide +kernel
theorem dL_law_794 : decode cL_law 794 = .ok (.iconst 0, 1) := by decide +kernel
theorem dL_law_795 : decode cL_law 795 = .ok (.ireturn, 1) := by decide +kernel
theorem dL_law_796 : decode cL_law 796 = .ok (.aload_n 1, 1) := by decide +kernel
theorem dL_law_797 : decode cL_law 797 = .ok (.invokevirtual 106, 3) := by decide +kernel
theorem dL_law_800 : decode cL_law 800 = .ok (.aload_n 2, 1) := by decide +kernel
theorem dL_law_801 : decode cL_law 801 = .ok (.invokevirtual 109, 3) := by decide +kernel
theorem dL_law_804 : decode cL_law 804 = .ok (.if_icmp .eq 154, 3) := by decide +kernel
theorem dL_law_807 : decode cL_law 807 = .ok (.iconst 0, 1) := by decide +kernel
theorem dL_law_808 : decode cL_law 808 = .ok (.ireturn, 1) := by decide +kernel
theorem dL_law_809 : decode cL_law 809 = .ok (.aload_n 1, 1) := by decide +kernel
theorem dL_law_810 : decode cL_law 810 = .ok (.invokevirtual 110, 3) := by decide +kernel
theorem dL_law_813 : decode cL_law 813 = .ok (.aload_n 2, 1) := by decide +kernel
theorem dL_law_814 : decode cL_law 814 = .ok (.invokevirtual 113, 3) := by decide +kernel
theorem dL_law_817 : decode cL_law 817 = .ok (.if_icmp .eq 141, 3) := by decide +kernel
theorem dL_law_820 : decode cL_law 820 = .ok (.iconst 0, 1) := by decide +kernel
theorem dL_law_821 : decode cL_law 821 = .ok (.ireturn, 1) := by decide +kernel
theorem dL_law_822 : decode cL_law 822 = .ok (.aload_n 1, 1) := by decide +kernel
theorem dL_law_823 : decode cL_law 823 = .ok (.invokevirtual 114, 3) := by decide +kernel
theorem dL_law_826 : decode cL_law 826 = .ok (.aload_n 2, 1) := by decide +kernel
theorem dL_law_827 : decode cL_law 827 = .ok (.invokevirtual 117, 3) := by decide +kernel
theorem dL_law_830 : decode cL_law 830 = .ok (.goto 128, 3) := by decide +kernel
theorem dL_law_833 : decode cL_law 833 = .ok (.aload_n 1, 1) := by decide +kernel
theorem dL_law_834 : decode cL_law 834 = .ok (.aload_n 0, 1) := by decide +kernel
theorem dL_law_835 : decode cL_law 835 = .ok (.iload 4, 2) := by decide +kernel
theorem dL_law_837 : decode cL_law 837 = .ok (.iconst 1, 1) := by decide +kernel
theorem dL_law_838 : decode cL_law 838 = .ok (.iadd, 1) := by decide +kernel
theorem dL_law_839 : decode cL_law 839 = .ok (.iaload, 1) := by decide +kernel
theorem dL_law_840 : decode cL_law 840 = .ok (.aload_n 0, 1) := by decide +kernel
theorem dL_law_841 : decode cL_law 841 = .ok (.iload 4, 2) := by decide +kernel
theorem dL_law_843 : decode cL_law 843 = .ok (.iconst 2, 1) := by decide +kernel
theorem dL_law_844 : decode cL_law 844 = .ok (.iadd, 1) := by decide +kernel
theorem dL_law_845 : decode cL_law 845 = .ok (.iaload, 1) := by decide +kernel
theorem dL_law_846 : decode cL_law 846 = .ok (.invokevirtual 118, 3) := by decide +kernel
theorem dL_law_849 : decode cL_law 849 = .ok (.aload_n 2, 1) := by decide +kernel
theorem dL_law_850 : decode cL_law 850 = .ok (.aload_n 0, 1) := by decide +kernel
theorem dL_law_851 : decode cL_law 851 = .ok (.iload 4, 2) := by decide +kernel
theorem dL_law_853 : decode cL_law 853 = .ok (.iconst 1, 1) := by decide +kernel
theorem dL_law_854 : decode cL_law 854 = .ok (.iadd, 1) := by decide +kernel
theorem dL_law_855 : decode cL_law 855 = .ok (.iaload, 1) := by decide +kernel
theorem dL_law_856 : decode cL_law 856 = .ok (.aload_n 0, 1) := by decide +kernel
theorem dL_law_857 : decode cL_law 857 = .ok (.iload 4, 2) := by decide +kernel
theorem dL_law_859 : decode cL_law 859 = .ok (.iconst 2, 1) := by decide +kernel
theorem dL_law_860 : decode cL_law 860 = .ok (.iadd, 1) := by decide +kernel
theorem dL_law_861 : decode cL_law 861 = .ok (.iaload, 1) := by decide +kernel
theorem dL_law_862 : decode cL_law 862 = .ok (.invokevirtual 121, 3) := by decide +kernel
theorem dL_law_865 : decode cL_law 865 = .ok (.if_icmp .eq 93, 3) := by decide +kernel
theorem dL_law_868 : decode cL_law 868 = .ok (.iconst 0, 1) := by decide +kernel
theorem dL_law_869 : decode cL_law 869 = .ok (.ireturn, 1) := by decide +kernel
theorem dL_law_870 : decode cL_law 870 = .ok (.aload_n 1, 1) := by decide +kernel
theorem dL_law_871 : decode cL_law 871 = .ok (.invokevirtual 122, 3) := by decide +kernel
theorem dL_law_874 : decode cL_law 874 = .ok (.aload_n 2, 1) := by decide +kernel
theorem dL_law_875 : decode cL_law 875 = .ok (.invokevirtual 125, 3) := by decide +kernel
theorem dL_law_878 : decode cL_law 878 = .ok (.if_icmp .eq 80, 3) := by decide +kernel
theorem dL_law_881 : decode cL_law 881 = .ok (.iconst 0, 1) := by decide +kernel
theorem dL_law_882 : decode cL_law 882 = .ok (.ireturn, 1) := by decide +kernel
theorem dL_law_883 : decode cL_law 883 = .ok (.aload_n 1, 1) := by decide +kernel
theorem dL_law_884 : decode cL_law 884 = .ok (.aload_n 0, 1) := by decide +kernel
theorem dL_law_885 : decode cL_law 885 = .ok (.iload 4, 2) := by decide +kernel
theorem dL_law_887 : decode cL_law 887 = .ok (.iconst 1, 1) := by decide +kernel
theorem dL_law_888 : decode cL_law 888 = .ok (.iadd, 1) := by decide +kernel
theorem dL_law_889 : decode cL_law 889 = .ok (.iaload, 1) := by decide +kernel
theorem dL_law_890 : decode cL_law 890 = .ok (.invokevirtual 126, 3) := by decide +kernel
theorem dL_law_893 : decode cL_law 893 = .ok (.aload_n 2, 1) := by decide +kernel
theorem dL_law_894 : decode cL_law 894 = .ok (.aload_n 0, 1) := by decide +kernel
theorem dL_law_895 : decode cL_law 895 = .ok (.iload 4, 2) := by decide +kernel
theorem dL_law_897 : decode cL_law 897 = .ok (.iconst 1, 1) := by decide +kernel
theorem dL_law_898 : decode cL_law 898 = .ok (.iadd, 1) := by decide +kernel
theorem dL_law_899 : decode cL_law 899 = .ok (.iaload, 1) := by decide +kernel
theorem dL_law_900 : decode cL_law 900 = .ok (.invokevirtual 129, 3) := by decide +kernel
theorem dL_law_903 : decode cL_law 903 = .ok (.if_icmp .eq 55, 3) := by decide +kernel
theorem dL_law_906 : decode cL_law 906 = .ok (.iconst 0, 1) := by decide +kernel
theorem dL_law_907 : decode cL_law 907 = .ok (.ireturn, 1) := by decide +kernel
theorem dL_law_908 : decode cL_law 908 = .ok (.aload_n 1, 1) := by decide +kernel
theorem dL_law_909 : decode cL_law 909 = .ok (.aload_n 0, 1) := by decide +kernel
theorem dL_law_910 : decode cL_law 910 = .ok (.iload 4, 2) := by decide +kernel
theorem dL_law_912 : decode cL_law 912 = .ok (.iconst 1, 1) := by decide +kernel
theorem dL_law_913 : decode cL_law 913 = .ok (.iadd, 1) := by decide +kernel
theorem dL_law_914 : decode cL_law 914 = .ok (.iaload, 1) := by decide +kernel
theorem dL_law_915 : decode cL_law 915 = .ok (.invokevirtual 130, 3) := by decide +kernel
theorem dL_law_918 : decode cL_law 918 = .ok (.aload_n 2, 1) := by decide +kernel
theorem dL_law_919 : decode cL_law 919 = .ok (.aload_n 0, 1) := by decide +kernel
theorem dL_law_920 : decode cL_law 920 = .ok (.iload 4, 2) := by decide +kernel
theorem dL_law_922 : decode cL_law 922 = .ok (.iconst 1, 1) := by decide +kernel
theorem dL_law_923 : decode cL_law 923 = .ok (.iadd, 1) := by decide +kernel
theorem dL_law_924 : decode cL_law 924 = .ok (.iaload, 1) := by decide +kernel
theorem dL_law_925 : decode cL_law 925 = .ok (.invokevirtual 133, 3) := by decide +kernel
theorem dL_law_928 : decode cL_law 928 = .ok (.if_icmp .eq 30, 3) := by decide +kernel
theorem dL_law_931 : decode cL_law 931 = .ok (.iconst 0, 1) := by decide +kernel
theorem dL_law_932 : decode cL_law 932 = .ok (.ireturn, 1) := by decide +kernel
theorem dL_law_933 : decode cL_law 933 = .ok (.aload_n 1, 1) := by decide +kernel
theorem dL_law_934 : decode cL_law 934 = .ok (.aload_n 0, 1) := by decide +kernel
theorem dL_law_935 : decode cL_law 935 = .ok (.iload 4, 2) := by decide +kernel
theorem dL_law_937 : decode cL_law 937 = .ok (.iconst 1, 1) := by decide +kernel
theorem dL_law_938 : decode cL_law 938 = .ok (.iadd, 1) := by decide +kernel
theorem dL_law_939 : decode cL_law 939 = .ok (.iaload, 1) := by decide +kernel
theorem dL_law_940 : decode cL_law 940 = .ok (.invokevirtual 134, 3) := by decide +kernel
theorem dL_law_943 : decode cL_law 943 = .ok (.aload_n 2, 1) := by decide +kernel
theorem dL_law_944 : decode cL_law 944 = .ok (.aload_n 0, 1) := by decide +kernel
theorem dL_law_945 : decode cL_law 945 = .ok (.iload 4, 2) := by decide +kernel
theorem dL_law_947 : decode cL_law 947 = .ok (.iconst 1, 1) := by decide +kernel
theorem dL_law_948 : decode cL_law 948 = .ok (.iadd, 1) := by decide +kernel
theorem dL_law_949 : decode cL_law 949 = .ok (.iaload, 1) := by decide +kernel
theorem dL_law_950 : decode cL_law 950 = .ok (.invokevirtual 137, 3) := by decide +kernel
theorem dL_law_953 : decode cL_law 953 = .ok (.if_icmp .eq 5, 3) := by decide +kernel
theorem dL_law_956 : decode cL_law 956 = .ok (.iconst 0, 1) := by decide +kernel
theorem dL_law_957 : decode cL_law 957 = .ok (.ireturn, 1) := by decide +kernel
theorem dL_law_958 : decode cL_law 958 = .ok (.iinc 4 4, 3) := by decide +kernel
theorem dL_law_961 : decode cL_law 961 = .ok (.goto (-938), 3) := by decide +kernel
theorem dL_law_964 : decode cL_law 964 = .ok (.iconst 1, 1) := by decide +kernel
theorem dL_law_965 : decode cL_law 965 = .ok (.ireturn, 1) := by decide +kernel
abbrev vwCl : List vw_C := [(RX0, TX0, 12), (RX1, TX1, 3), (RX2, TX2, 2), (RX3, TX3, 4), (RX4, TX4, 4), (RX5, TX5, 2), (RX6, TX6, 1), (RX8, TX8, 8), (RX9, TX9, 8), (RX10, TX10, 36)]
end
section
/-! THE PURE MACHINE: one method's bytecode over a fixed world of cells (ints alone move), as a predicate transformer -/
abbrev Sg : Type := Nat → Nat → Int32
/-- a cell: an object (its class by number, its fields: none an int, some r the cell r), or an array (0 ints, 1 booleans, 2 cells; its length; the cells) -/
abbrev Ds : Type := (Nat × List (Option Nat)) ⊕ (Nat × Nat × List Nat)
/-- a row of code: place, instruction, length, is it a cut, the constant that it pushes -/
abbrev Ent : Type := Nat × Instr × Nat × Bool × Int32
abbrev Lcl : Type := List (Option Value)
abbrev SPre : Type := List Value → Sg → Prop
abbrev SPost : Type := List Value → Sg → Int32 → Sg → Prop
/-- a field by its pool index: class number, slot, is it a boolean -/
abbrev Fe : Type := Nat × Nat × Nat × Bool
/-- a method by its pool index: kind (0 virtual, 1 static, 2 static of a nest mate), class number, parameters, an answer?, pre, post -/
abbrev Me : Type := Nat × Nat × Nat × Nat × Bool × SPre × SPost
def kp_fnd {α : Type} : List (Nat × α) → Nat → Option α
  | [], _ => none
  | q :: r, k => if q.1 = k then some q.2 else kp_fnd r k
def kp_jmp : List Ent → Nat → List Ent
  | [], _ => []
  | q :: r, k => if q.1 = k then q :: r else kp_jmp r k
def kp_tgt (pc : Nat) (off : Int) : Nat := ((pc : Int) + off).toNat
def kp_tk : Nat → List Value → List Value → Option (List Value × List Value)
  | 0, st, acc => some (acc, st)
  | _ + 1, [], _ => none
  | n + 1, v :: r, acc => kp_tk n r (v :: acc)
def kp_up (σ : Sg) (c k : Nat) (x : Int32) : Sg := fun a => if a = c then upd (σ c) k x else σ a
def kp_R (o : Option (Option Value)) (f : Nat → Prop) : Prop := match o with
  | some (some (.ref a)) => f a
  | _ => False
def kp_I (o : Option (Option Value)) (f : Int32 → Prop) : Prop := match o with
  | some (some (.int a)) => f a
  | _ => False
def kp_pI (st : List Value) (f : Int32 → List Value → Prop) : Prop := match st with
  | .int x :: r => f x r
  | _ => False
def kp_pR (st : List Value) (f : Nat → List Value → Prop) : Prop := match st with
  | .ref a :: r => f a r
  | _ => False
def kp_arr (lay : List Ds) (a kind : Nat) (f : Nat → List Nat → Prop) : Prop := match lay[a]? with
  | some (.inr (kd, n, rs)) => if kd = kind then f n rs else False
  | _ => False
def kp_len (lay : List Ds) (a : Nat) (f : Nat → Prop) : Prop := match lay[a]? with
  | some (.inr (_, n, _)) => f n
  | _ => False
def kp_obj (lay : List Ds) (a ci : Nat) (f : List (Option Nat) → Prop) : Prop := match lay[a]? with
  | some (.inl (cj, fs)) => if cj = ci then f fs else False
  | _ => False
def kp_if (c : ClassFile.Cond) (x y : Int32) (t f : Prop) : Prop := match c with
  | .eq => (x = y → t) ∧ (¬ x = y → f)
  | .ne => (¬ x = y → t) ∧ (x = y → f)
  | .lt => (x < y → t) ∧ (¬ x < y → f)
  | .ge => (¬ x < y → t) ∧ (x < y → f)
  | .gt => (y < x → t) ∧ (¬ y < x → f)
  | .le => (¬ y < x → t) ∧ (y < x → f)
def kp_sw (x : Int32) (g : Int → Prop) (d : Prop) : List (Int × Int) → Prop
  | [] => d
  | q :: r => (x = nI q.1.toNat → g q.2) ∧ (¬ x = nI q.1.toNat → kp_sw x g d r)
def kp_tl : Int → List Int → List (Int × Int)
  | _, [] => []
  | j, o :: r => (j, o) :: kp_tl (j + 1) r
def kp_ret (ri : Bool) (f : Option Int32 → Prop) (g : (Int32 → Prop) → Prop) : Prop := match ri with
  | true => g (fun x => f (some x))
  | false => f none
def kp_call (lay : List Ds) (ms : List Me) (idx : Nat) (virt : Bool) (st : List Value) (σ : Sg) (k : List Value → Sg → Prop) : Prop := match kp_fnd ms idx with
  | none => False
  | some (kind, ci, n, ri, pre, post) => match kp_tk n st [] with
    | none => False
    | some (As, r) => match virt with
      | true => if kind = 0 then kp_pR r (fun a r' => kp_obj lay a ci (fun _ => if r'.length ≤ 4 then pre (.ref a :: As) σ ∧ (match ri with
          | true => ∀ (x : Int32) (τ : Sg), post (.ref a :: As) σ x τ → k (.int x :: r') τ
          | false => ∀ τ : Sg, post (.ref a :: As) σ (nI 0) τ → k r' τ) else False)) else False
      | false => if kind = 0 then False else if r.length ≤ 4 then pre As σ ∧ (match ri with
          | true => ∀ (x : Int32) (τ : Sg), post As σ x τ → k (.int x :: r) τ
          | false => ∀ τ : Sg, post As σ (nI 0) τ → k r τ) else False
/-- one instruction -/
def kp_S (lay : List Ds) (gl pl : List Fe) (ms : List Me) (tab : List Ent) (rk : Nat) (Q : Int32 → Sg → Prop) (k : List Ent → Lcl → List Value → Sg → Prop) (pc : Nat) (i : Instr) (v : Int32) (is : List Ent) (ls : Lcl) (st : List Value) (σ : Sg) : Prop := match i with
  | .aload_n n => kp_R ls[n.val]? fun a => k is ls (.ref a :: st) σ
  | .aload n => kp_R ls[n]? fun a => k is ls (.ref a :: st) σ
  | .iload_n n => kp_I ls[n.val]? fun a => k is ls (.int a :: st) σ
  | .iload n => kp_I ls[n]? fun a => k is ls (.int a :: st) σ
  | .istore_n n => kp_pI st fun x r => if n.val < ls.length then k is (ls.set n.val (some (.int x))) r σ else False
  | .istore n => kp_pI st fun x r => if n < ls.length then k is (ls.set n (some (.int x))) r σ else False
  | .iinc n d => kp_I ls[n]? fun x => k is (ls.set n (some (.int (x + v)))) st σ
  | .iconst _ => k is ls (.int v :: st) σ
  | .bipush _ => k is ls (.int v :: st) σ
  | .sipush _ => k is ls (.int v :: st) σ
  | .ldc _ => k is ls (.int v :: st) σ
  | .iadd => kp_pI st fun y r => kp_pI r fun x r' => k is ls (.int (x + y) :: r') σ
  | .isub => kp_pI st fun y r => kp_pI r fun x r' => k is ls (.int (x - y) :: r') σ
  | .imul => kp_pI st fun y r => kp_pI r fun x r' => k is ls (.int (x * y) :: r') σ
  | .iand => kp_pI st fun y r => kp_pI r fun x r' => k is ls (.int (x &&& y) :: r') σ
  | .ior => kp_pI st fun y r => kp_pI r fun x r' => k is ls (.int (x ||| y) :: r') σ
  | .ishl => kp_pI st fun y r => kp_pI r fun x r' => k is ls (.int (x <<< (y &&& 31)) :: r') σ
  | .ishr => kp_pI st fun y r => kp_pI r fun x r' => k is ls (.int (x >>> (y &&& 31)) :: r') σ
  | .iushr => kp_pI st fun y r => kp_pI r fun x r' => k is ls (.int (x.toUInt32 >>> (y.toUInt32 &&& Int32.toUInt32 31)).toInt32 :: r') σ
  | .dup => match st with
    | .int x :: r => k is ls (.int x :: .int x :: r) σ
    | .ref a :: r => k is ls (.ref a :: .ref a :: r) σ
    | _ => False
  | .getfield idx => kp_pR st fun a r => match kp_fnd gl idx with
    | none => False
    | some (ci, kk, _) => kp_obj lay a ci fun fs => match fs[kk]? with
      | some none => k is ls (.int (σ a kk) :: r) σ
      | some (some q) => k is ls (.ref q :: r) σ
      | none => False
  | .putfield idx => kp_pI st fun x r => kp_pR r fun a r' => match kp_fnd pl idx with
    | none => False
    | some (ci, kk, b) => kp_obj lay a ci fun fs => match fs[kk]? with
      | some none => match b with
        | false => k is ls r' (kp_up σ a kk x)
        | true => (x = nI 0 ∨ x = nI 1) ∧ k is ls r' (kp_up σ a kk x)
      | _ => False
  | .iaload => kp_pI st fun j r => kp_pR r fun a r' => kp_arr lay a 0 fun n _ => vp_in j n ∧ k is ls (.int (σ a j.toNatClampNeg) :: r') σ
  | .baload => kp_pI st fun j r => kp_pR r fun a r' => kp_arr lay a 1 fun n _ => vp_in j n ∧ k is ls (.int (σ a j.toNatClampNeg) :: r') σ
  | .aaload => kp_pI st fun j r => kp_pR r fun a r' => kp_arr lay a 2 fun n rs => (vp_in j n ∧ n = rs.length) ∧ ∀ q, rs[j.toNatClampNeg]? = some q → k is ls (.ref q :: r') σ
  | .iastore => kp_pI st fun x r => kp_pI r fun j r' => kp_pR r' fun a r2 => kp_arr lay a 0 fun n _ => vp_in j n ∧ k is ls r2 (kp_up σ a j.toNatClampNeg x)
  | .bastore => kp_pI st fun x r => kp_pI r fun j r' => kp_pR r' fun a r2 => kp_arr lay a 1 fun n _ => vp_in j n ∧ (x = nI 0 ∨ x = nI 1) ∧ k is ls r2 (kp_up σ a j.toNatClampNeg x)
  | .arraylength => kp_pR st fun a r => kp_len lay a fun n => k is ls (.int (nI n) :: r) σ
  | .ifCond c off => kp_pI st fun x r => kp_if c x (nI 0) (k (kp_jmp tab (kp_tgt pc off)) ls r σ) (k is ls r σ)
  | .if_icmp c off => kp_pI st fun y r => kp_pI r fun x r' => kp_if c x y (k (kp_jmp tab (kp_tgt pc off)) ls r' σ) (k is ls r' σ)
  | .goto off => k (kp_jmp tab (kp_tgt pc off)) ls st σ
  | .tableswitch d lo _ offs => kp_pI st fun x r => kp_sw x (fun o => k (kp_jmp tab (kp_tgt pc o)) ls r σ) (k (kp_jmp tab (kp_tgt pc d)) ls r σ) (kp_tl lo offs.toList)
  | .lookupswitch d ps => kp_pI st fun x r => kp_sw x (fun o => k (kp_jmp tab (kp_tgt pc o)) ls r σ) (k (kp_jmp tab (kp_tgt pc d)) ls r σ) ps.toList
  | .invokevirtual idx => kp_call lay ms idx true st σ fun st' τ => k is ls st' τ
  | .invokestatic idx => kp_call lay ms idx false st σ fun st' τ => k is ls st' τ
  | .ireturn => match rk with
    | 1 => kp_pI st fun x r => if r.length = 0 then Q x σ else False
    | 2 => kp_pI st fun x r => if r.length = 0 then (x = nI 0 ∨ x = nI 1) ∧ Q x σ else False
    | _ => False
  | .return_ => match rk with
    | 0 => if st.length = 0 then Q (nI 0) σ else False
    | _ => False
  | _ => False
/-- a stretch of code up to a cut or the end, with fuel -/
def kp_T (lay : List Ds) (gl pl : List Fe) (ms : List Me) (tab : List Ent) (rk : Nat) (J : Nat → Lcl → List Value → Sg → Prop) (Q : Int32 → Sg → Prop) : Nat → List Ent → Lcl → List Value → Sg → Prop
  | 0, _, _, _, _ => False
  | _ + 1, [], _, _, _ => False
  | n + 1, e :: is, ls, st, σ => match e.2.2.2.1 with
    | true => J e.1 ls st σ
    | false => kp_S lay gl pl ms tab rk Q (fun is ls st σ => kp_T lay gl pl ms tab rk J Q n is ls st σ) e.1 e.2.1 e.2.2.2.2 is ls st σ
/-- the same from a cut on -/
def kp_T1 (lay : List Ds) (gl pl : List Fe) (ms : List Me) (tab : List Ent) (rk : Nat) (J : Nat → Lcl → List Value → Sg → Prop) (Q : Int32 → Sg → Prop) (n : Nat) (pc : Nat) (ls : Lcl) (st : List Value) (σ : Sg) : Prop := match kp_jmp tab pc with
  | [] => False
  | e :: is => kp_S lay gl pl ms tab rk Q (fun is ls st σ => kp_T lay gl pl ms tab rk J Q n is ls st σ) e.1 e.2.1 e.2.2.2.2 is ls st σ
-- the world's cells
def kp_re (ad : Nat → Nat) : Value → Value
  | .ref a => .ref (ad a)
  | v => v
def kp_fv (ad : Nat → Nat) (σ : Sg) (c : Nat) (k : Nat) (o : Option Nat) : Value := match o with
  | none => .int (σ c k)
  | some q => .ref (ad q)
def kp_e (ad : Nat → Nat) (cI cZ cR : ClassId) (σ : Sg) (i : Nat) (d : Ds) : va_E := match d with
  | .inl q => .inr (q.1, q.2.mapIdx (kp_fv ad σ i))
  | .inr q => if q.1 = 0 then .inl (cI, q.2.1, .inl (σ i)) else if q.1 = 1 then .inl (cZ, q.2.1, .inl (σ i)) else .inl (cR, q.2.1, .inr (.inr (.inr (.inr fun j => (q.2.2[j]?).map ad))))
def kp_w (ad : Nat → Nat) (cI cZ cR : ClassId) (lay : List Ds) (σ : Sg) : va_W := lay.mapIdx fun i d => (ad i, kp_e ad cI cZ cR σ i d)
theorem kp_w_at {ad : Nat → Nat} {cI cZ cR : ClassId} {lay : List Ds} {σ : Sg} {a : Nat} {d : Ds} (h : lay[a]? = some d) : (kp_w ad cI cZ cR lay σ)[a]? = some (ad a, kp_e ad cI cZ cR σ a d) := by
  simp [kp_w, List.getElem?_mapIdx, h]
theorem kp_w_some {ad : Nat → Nat} {cI cZ cR : ClassId} {lay : List Ds} {σ : Sg} {a : Nat} {q : Nat × va_E} (h : (kp_w ad cI cZ cR lay σ)[a]? = some q) : ∃ d, lay[a]? = some d ∧ q = (ad a, kp_e ad cI cZ cR σ a d) := by
  rw [kp_w, List.getElem?_mapIdx] at h
  cases hd : lay[a]? with
  | none => rw [hd] at h; cases h
  | some d => rw [hd] at h; exact ⟨d, rfl, (Option.some.inj h).symm⟩
theorem kp_up_ne {σ : Sg} {c k : Nat} {x : Int32} {a : Nat} (h : a ≠ c) : kp_up σ c k x a = σ a := if_neg h
theorem kp_up_eq {σ : Sg} {c k : Nat} {x : Int32} : kp_up σ c k x c = upd (σ c) k x := if_pos rfl
theorem kp_e_ne {ad : Nat → Nat} {cI cZ cR : ClassId} {σ τ : Sg} {i : Nat} {d : Ds} (h : σ i = τ i) : kp_e ad cI cZ cR σ i d = kp_e ad cI cZ cR τ i d := by
  have hf : kp_fv ad σ i = kp_fv ad τ i := by
    funext k o
    cases o with
    | none => simp [kp_fv, h]
    | some q => rfl
  cases d with
  | inl q => simp [kp_e, hf]
  | inr q => simp [kp_e, h]
theorem kp_w_set {ad : Nat → Nat} {cI cZ cR : ClassId} {lay : List Ds} {σ τ : Sg} {a : Nat} {d : Ds} {e : va_E} (h : lay[a]? = some d) (he : e = kp_e ad cI cZ cR τ a d) (hn : ∀ i, i ≠ a → τ i = σ i) : (kp_w ad cI cZ cR lay σ).set a (ad a, e) = kp_w ad cI cZ cR lay τ := by
  apply List.ext_getElem?
  intro i
  by_cases hi : i = a
  · subst hi
    rw [List.getElem?_set_self (by have := (List.getElem?_eq_some_iff.mp h).1; simpa [kp_w] using this), kp_w_at h, he]
  · rw [List.getElem?_set_ne (Ne.symm hi)]
    simp only [kp_w, List.getElem?_mapIdx]
    cases hd : lay[i]? with
    | none => rfl
    | some d' => simp only [Option.map_some]; rw [kp_e_ne (hn i hi).symm]
theorem kp_w_D {A : Nat → Prop} {ad : Nat → Nat} {cI cZ cR : ClassId} {lay : List Ds} {σ : Sg} (τ : Sg) (h : va_D A (kp_w ad cI cZ cR lay σ)) : va_D A (kp_w ad cI cZ cR lay τ) := by
  refine ⟨fun i j p q hi hj hpq => ?_, fun k q hk => ?_⟩
  · obtain ⟨d, h1, rfl⟩ := kp_w_some hi
    obtain ⟨d', h2, rfl⟩ := kp_w_some hj
    exact h.1 i j _ _ (kp_w_at h1) (kp_w_at h2) hpq
  · obtain ⟨d, h1, rfl⟩ := kp_w_some hk
    exact h.2 k (ad k, kp_e ad cI cZ cR σ k d) (kp_w_at h1)
theorem kp_w_A {ad : Nat → Nat} {cI cZ cR : ClassId} {lay : List Ds} {σ : Sg} (τ : Sg) {sz q : Nat} (h : va_A (kp_w ad cI cZ cR lay σ) sz q) : va_A (kp_w ad cI cZ cR lay τ) sz q := by
  rcases h with ⟨k, e, hk⟩ | h
  · obtain ⟨d, h1, h2⟩ := kp_w_some hk
    refine Or.inl ⟨k, kp_e ad cI cZ cR τ k d, ?_⟩
    rw [kp_w_at h1]
    exact congrArg some (Prod.ext (congrArg Prod.fst h2).symm rfl)
  · exact Or.inr h
-- the locals
def kp_ll (ad : Nat → Nat) : Nat → Lcl → List (Nat × Value)
  | _, [] => []
  | i, none :: r => kp_ll ad (i + 1) r
  | i, some v :: r => (i, kp_re ad v) :: kp_ll ad (i + 1) r
theorem kp_ll_mem {ad : Nat → Nat} : ∀ (ls : Lcl) (i j : Nat) (w : Value), (j, w) ∈ kp_ll ad i ls ↔ ∃ (t : Nat) (v : Value), ls[t]? = some (some v) ∧ j = i + t ∧ w = kp_re ad v
  | [], i, j, w => by simp [kp_ll]
  | none :: r, i, j, w => by
    rw [kp_ll, kp_ll_mem r]
    constructor
    · rintro ⟨t, v, h1, h2, h3⟩
      exact ⟨t + 1, v, by simpa using h1, by omega, h3⟩
    · rintro ⟨t, v, h1, h2, h3⟩
      cases t with
      | zero => simp at h1
      | succ t => exact ⟨t, v, by simpa using h1, by omega, h3⟩
  | some u :: r, i, j, w => by
    rw [kp_ll, List.mem_cons, kp_ll_mem r]
    constructor
    · rintro (h | ⟨t, v, h1, h2, h3⟩)
      · cases h
        exact ⟨0, u, rfl, rfl, rfl⟩
      · exact ⟨t + 1, v, by simpa using h1, by omega, h3⟩
    · rintro ⟨t, v, h1, h2, h3⟩
      cases t with
      | zero =>
        simp at h1
        subst h1
        exact Or.inl (by rw [h2, h3]; rfl)
      | succ t => exact Or.inr ⟨t, v, by simpa using h1, by omega, h3⟩
theorem kp_re_cat (ad : Nat → Nat) (v : Value) : (kp_re ad v).category = v.category := by cases v <;> rfl
def kp_lh (ad : Nat → Nat) (la : Array Slot) (ls : Lcl) : Prop := la.size = ls.length ∧ lv_wf la ∧ ∀ (i : Nat) (v : Value), ls[i]? = some (some v) → la[i]? = some (.val (kp_re ad v)) ∧ v.category = 1
theorem kp_lh_has {ad : Nat → Nat} {la : Array Slot} {ls : Lcl} (h : kp_lh ad la ls) : lv_has la ls.length (kp_ll ad 0 ls) := by
  refine ⟨h.1, h.2.1, fun q hq => ?_⟩
  obtain ⟨t, v, h1, h2, h3⟩ := (kp_ll_mem ls 0 q.1 q.2).mp hq
  rw [h2, h3, Nat.zero_add]
  exact (h.2.2 t v h1).1
theorem kp_lh_set {ad : Nat → Nat} {la la' : Array Slot} {ls : Lcl} {i : Nat} {v : Value} (h : kp_lh ad la ls) (hi : i < ls.length) (hc : v.category = 1) (h' : lv_has la' ls.length ((i, kp_re ad v) :: (kp_ll ad 0 ls).filter (fun q => !(q.1 == i) && !(q.1 + 1 == i && q.2.category == 2)))) : kp_lh ad la' (ls.set i (some v)) := by
  refine ⟨by rw [List.length_set]; exact h'.1, h'.2.1, fun j w hj => ?_⟩
  by_cases hji : j = i
  · subst hji
    rw [List.getElem?_set_self hi] at hj
    cases hj
    exact ⟨h'.2.2 (j, kp_re ad v) List.mem_cons_self, hc⟩
  · rw [List.getElem?_set_ne (Ne.symm hji)] at hj
    have hcw := (h.2.2 j w hj).2
    refine ⟨h'.2.2 (j, kp_re ad w) (List.mem_cons_of_mem _ (List.mem_filter.mpr ⟨(kp_ll_mem ls 0 j _).mpr ⟨j, w, hj, by omega, rfl⟩, ?_⟩)), hcw⟩
    simp [hji, kp_re_cat, hcw]
-- suffixes of the code
theorem kp_jmp_suf : ∀ (tab : List Ent) (t : Nat), kp_jmp tab t <:+ tab
  | [], _ => by simp [kp_jmp]
  | q :: r, t => by
    rw [kp_jmp]
    by_cases h : q.1 = t
    · rw [if_pos h]; exact List.suffix_refl _
    · rw [if_neg h]; exact (kp_jmp_suf r t).trans (List.suffix_cons q r)
theorem kp_jmp_head : ∀ (tab : List Ent) (t : Nat) (e : Ent) (r : List Ent), kp_jmp tab t = e :: r → e.1 = t
  | [], _, _, _, h => by simp [kp_jmp] at h
  | q :: r, t, e, r', h => by
    rw [kp_jmp] at h
    by_cases hq : q.1 = t
    · rw [if_pos hq] at h; cases h; exact hq
    · rw [if_neg hq] at h; exact kp_jmp_head r t e r' h
theorem kp_fnd_mem {α : Type} : ∀ (l : List (Nat × α)) (k : Nat) (x : α), kp_fnd l k = some x → (k, x) ∈ l
  | [], _, _, h => by simp [kp_fnd] at h
  | q :: r, k, x, h => by
    rw [kp_fnd] at h
    by_cases hq : q.1 = k
    · rw [if_pos hq] at h
      cases h
      subst hq
      exact List.mem_cons_self
    · rw [if_neg hq] at h; exact List.mem_cons_of_mem _ (kp_fnd_mem r k x h)
theorem kp_tk_spec : ∀ (n : Nat) (st acc As r : List Value), kp_tk n st acc = some (As, r) → ∃ B : List Value, B.length = n ∧ As = B.reverse ++ acc ∧ st = B ++ r
  | 0, st, acc, As, r, h => by
    simp only [kp_tk, Option.some.injEq, Prod.mk.injEq] at h
    exact ⟨[], rfl, by simp [h.1], by simp [h.2]⟩
  | n + 1, [], acc, As, r, h => by simp [kp_tk] at h
  | n + 1, v :: t, acc, As, r, h => by
    rw [kp_tk] at h
    obtain ⟨B, h1, h2, h3⟩ := kp_tk_spec n t (v :: acc) As r h
    exact ⟨v :: B, by simp [h1], by simp [h2], by simp [h3]⟩
-- switches
theorem kp_sw_look {x : Int32} {g : Int → Prop} {d : Int} : ∀ (L : List (Int × Int)), (∀ q ∈ L, 0 ≤ q.1 ∧ q.1 < 2147483648) → kp_sw x g (g d) L → g (Op.lookupswitch.offset L d x.toInt)
  | [], _, h => by rw [Op.lookupswitch.offset_nil]; exact h
  | (a, o) :: r, hL, h => by
    have ha := hL (a, o) List.mem_cons_self
    dsimp only at ha
    have hk : (nI a.toNat).toInt = a := by rw [nI_toInt (by omega)]; omega
    rw [kp_sw] at h
    rw [Op.lookupswitch.offset_cons]
    by_cases hx : x = nI a.toNat
    · rw [if_pos (by rw [hx, hk])]
      exact h.1 hx
    · rw [if_neg (fun q => hx (Int32.toInt_inj.mp (by rw [hk]; exact q.symm)))]
      exact kp_sw_look r (fun q hq => hL q (List.mem_cons_of_mem _ hq)) (h.2 hx)
theorem kp_sw_out {x : Int32} {g : Int → Prop} {d : Prop} : ∀ (L : List (Int × Int)), (∀ q ∈ L, 0 ≤ q.1 ∧ q.1 < 2147483648 ∧ ¬ x.toInt = q.1) → kp_sw x g d L → d
  | [], _, h => h
  | (a, o) :: r, hL, h => by
    have ha := hL (a, o) List.mem_cons_self
    dsimp only at ha
    rw [kp_sw] at h
    refine kp_sw_out r (fun q hq => hL q (List.mem_cons_of_mem _ hq)) (h.2 fun q => ha.2.2 ?_)
    rw [q]
    show (nI a.toNat).toInt = a
    rw [nI_toInt (by omega)]
    omega
theorem kp_sw_in {x : Int32} {g : Int → Prop} {d : Prop} : ∀ (offs : List Int) (lo : Int) (j : Nat) (o : Int), 0 ≤ lo → lo + offs.length < 2147483648 → offs[j]? = some o → x.toInt = lo + j → kp_sw x g d (kp_tl lo offs) → g o
  | [], _, _, _, _, _, h, _, _ => by simp at h
  | a :: r, lo, 0, o, h0, h1, h, hx, hs => by
    simp at h
    subst h
    rw [kp_tl, kp_sw] at hs
    refine hs.1 (Int32.toInt_inj.mp ?_)
    simp only [List.length_cons] at h1
    rw [hx, nI_toInt (by omega)]
    omega
  | a :: r, lo, j + 1, o, h0, h1, h, hx, hs => by
    simp only [List.length_cons] at h1
    rw [kp_tl, kp_sw] at hs
    have hne : ¬ x = nI lo.toNat := by
      intro q
      rw [q, nI_toInt (by omega)] at hx
      omega
    exact kp_sw_in r (lo + 1) j o (by omega) (by omega) (by simpa using h) (by rw [hx]; omega) (hs.2 hne)
theorem kp_tl_mem : ∀ (offs : List Int) (lo : Int) (q : Int × Int), q ∈ kp_tl lo offs → lo ≤ q.1 ∧ q.1 < lo + offs.length ∧ q.2 ∈ offs
  | [], _, _, h => by simp [kp_tl] at h
  | a :: r, lo, q, h => by
    rw [kp_tl, List.mem_cons] at h
    simp only [List.length_cons]
    rcases h with rfl | h
    · dsimp only
      exact ⟨by omega, by omega, List.mem_cons_self⟩
    · obtain ⟨h1, h2, h3⟩ := kp_tl_mem r (lo + 1) q h
      exact ⟨by omega, by omega, List.mem_cons_of_mem _ h3⟩
end
section
/-! THE PURE MACHINE IS SOUND: what it says holds of the machine itself -/
def kp_nest : Cond → Bool
  | .fieldLinkNest _ _ _ _ _ _ => true
  | .methodLinkNest _ _ _ _ => true
  | _ => false
def kp_tb : List Cond := lw_tbl.filter goodWord
def kp_nw : List Cond := lw_tbl.filter kp_nest
def kp_ws (y : MethodName) (cc : ByteArray) (mL : Nat) (ret : Option FieldType) : List Cond := .code y cc mL ret :: kp_tb
abbrev kp_ty (cI cZ cR : ClassId) : List (ClassId × FieldType) := [(cI, .int), (cZ, .boolean), (cR, .array .int)]
abbrev kp_rm (h : Nat) : Room := { frames := h, cells := 0, slots := 0, locals := 40 * h }
def kp_rv (ret : Option FieldType) (r : Int32) : Option Value := match ret with
  | none => none
  | some _ => some (.int r)
def kp_rk : Option FieldType → Nat
  | none => 0
  | some .int => 1
  | some .boolean => 2
  | _ => 3
def kp_B (D : va_G) (cI cZ cR : ClassId) (ad : Nat → Nat) (lay : List Ds) (σ : Sg) (U : State) : Prop :=
  (∀ w ∈ kp_nw, va_Nw w U) ∧ va_P D vwCl (kp_w ad cI cZ cR lay σ) U.heap ∧ va_K D vwCl (kp_ty cI cZ cR) U ∧ va_D (fun _ => True) (kp_w ad cI cZ cR lay σ)
def kp_Q (lay : List Ds) (ret : Option FieldType) (post : SPost) (D : va_G) (cI cZ cR : ClassId) (ad : Nat → Nat) (sz : Nat) (As : List Value) (σ : Sg) : Array Value → State → Outcome → State → Prop :=
  fun _ st oc t => (∃ (r : Int32) (τ : Sg), oc = .returned (kp_rv ret r) ∧ ((ret = none → r = nI 0) ∧ post As σ r τ) ∧ va_P D vwCl (kp_w ad cI cZ cR lay τ) t.heap) ∧ va_F (va_A (kp_w ad cI cZ cR lay σ) sz) st t
/-- a method's contract over the pure world -/
def kp_Met (lay : List Ds) (h : Nat) (y : MethodName) (cc : ByteArray) (mL : Nat) (ret : Option FieldType) (pre : SPre) (post : SPost) : Prop :=
  ∀ (l : Launch) (D : va_G) (cI cZ cR : ClassId) (ad : Nat → Nat) (sz : Nat) (As : List Value) (σ : Sg), pre As σ →
    Met l y (kp_ws y cc mL ret) (kp_rm h) (va_Pc (As.map (kp_re ad)) (fun U => U.heap.size = sz ∧ kp_B D cI cZ cR ad lay σ U)) (kp_Q lay ret post D cI cZ cR ad sz As σ) 0 0 (va_A (kp_w ad cI cZ cR lay σ) sz)
/-- the words of a call -/
def kp_lnk (own : String) (idx kind ci n : Nat) (y : MethodName) (cc : ByteArray) (mL : Nat) (ret : Option FieldType) : Prop :=
  (y.cls ≠ "java/lang/invoke/MethodHandle" ∧ y.cls ≠ "java/lang/invoke/VarHandle" ∧ (parseMethodDescriptor y.desc).map (fun d => d.parameters.length) = some n) ∧ Cond.code y cc mL ret ∈ kp_tb ∧ Cond.initialized y.cls ∈ kp_tb ∧
  ((kind = 0 ∧ Cond.methodLink own idx y ∈ kp_tb ∧ Cond.instanceMethod y ∈ kp_tb ∧ Cond.selects y.cls y y ∈ kp_tb ∧ (vwCl[ci]?).map (fun q => q.1) = some y.cls) ∨
   (kind = 1 ∧ Cond.methodLink own idx y ∈ kp_tb ∧ Cond.static y ∈ kp_tb) ∨
   (kind = 2 ∧ (∃ host, Cond.methodLinkNest own idx y host ∈ kp_nw) ∧ Cond.static y ∈ kp_tb))
/-- max and min of the library, by its own rows -/
def kp_okX (own : String) (h : Nat) (q : Me) : Prop := 1 ≤ h ∧ q.2.1 = 1 ∧ q.2.2.2.1 = 2 ∧ q.2.2.2.2.1 = true ∧ Cond.initialized "java/lang/Math" ∈ kp_tb ∧
  ((Cond.methodLink own q.1 Lib.Math.max.name ∈ kp_tb ∧ Cond.static Lib.Math.max.name ∈ kp_tb ∧ Cond.code Lib.Math.max.name Lib.Math.max.code 2 (some .int) ∈ kp_tb ∧ ∀ As σ, q.2.2.2.2.2.1 As σ → ∃ x y : Int32, As = [.int x, .int y] ∧ q.2.2.2.2.2.2 As σ (if x < y then y else x) σ) ∨
   (Cond.methodLink own q.1 Lib.Math.min.name ∈ kp_tb ∧ Cond.static Lib.Math.min.name ∈ kp_tb ∧ Cond.code Lib.Math.min.name Lib.Math.min.code 2 (some .int) ∈ kp_tb ∧ ∀ As σ, q.2.2.2.2.2.1 As σ → ∃ x y : Int32, As = [.int x, .int y] ∧ q.2.2.2.2.2.2 As σ (if y < x then y else x) σ))
def kp_okM (lay : List Ds) (own : String) (h : Nat) (q : Me) : Prop :=
  (∃ (h' : Nat) (y : MethodName) (cc : ByteArray) (mL : Nat) (ret : Option FieldType), kp_Met lay h' y cc mL ret q.2.2.2.2.2.1 q.2.2.2.2.2.2 ∧ h' + 1 ≤ h ∧ mL ≤ 20 ∧ ret.isSome = q.2.2.2.2.1 ∧ kp_lnk own q.1 q.2.1 q.2.2.1 q.2.2.2.1 y cc mL ret) ∨ kp_okX own h q
def kp_okG (own : String) (q : Fe) : Prop := ∃ (C : String) (T : u_T) (N : Nat), vwCl[q.2.1]? = some (C, T, N) ∧ q.2.2.1 < N ∧
  (Cond.fieldLink own q.1 (T q.2.2.1).1 (T q.2.2.1).2.1 (T q.2.2.1).2.2.1 ∈ kp_tb ∨ ∃ host, Cond.fieldLinkNest own q.1 (T q.2.2.1).1 (T q.2.2.1).2.1 (T q.2.2.1).2.2.1 host ∈ kp_nw)
def kp_okP (own : String) (q : Fe) : Prop := ∃ (C : String) (T : u_T) (N : Nat), vwCl[q.2.1]? = some (C, T, N) ∧ q.2.2.1 < N ∧
  (Cond.fieldLink own q.1 (T q.2.2.1).1 (T q.2.2.1).2.1 (T q.2.2.1).2.2.1 ∈ kp_tb ∨ ∃ host, Cond.fieldLinkNest own q.1 (T q.2.2.1).1 (T q.2.2.1).2.1 (T q.2.2.1).2.2.1 host ∈ kp_nw) ∧
  (T q.2.2.1).2.2.2 = false ∧ parseFieldDescriptor (T q.2.2.1).2.2.1 = some (if q.2.2.2 = true then .boolean else .int)
def kp_ln : Instr → Nat
  | .iload _ | .aload _ | .istore _ | .bipush _ | .ldc _ => 2
  | .iinc _ _ | .sipush _ | .getfield _ | .putfield _ | .ifCond _ _ | .if_icmp _ _ | .goto _ | .invokevirtual _ | .invokestatic _ => 3
  | _ => 1
def kp_okb (own : String) (e : Ent) : Bool := match e.2.1 with
  | .iconst n => decide (Int32.ofInt n = e.2.2.2.2) && decide (e.2.2.1 = 1)
  | .bipush n => decide ((Int8.ofInt n).toInt32 = e.2.2.2.2) && decide (e.2.2.1 = 2)
  | .sipush n => decide ((Int16.ofInt n).toInt32 = e.2.2.2.2) && decide (e.2.2.1 = 3)
  | .iinc _ d => decide (Int32.ofInt d = e.2.2.2.2) && decide (e.2.2.1 = 3)
  | .ldc idx => decide (Cond.constant own idx e.2.2.2.2 ∈ kp_tb) && decide (e.2.2.1 = 2)
  | .ifCond _ off => decide (0 ≤ (e.1 : Int) + off) && decide (e.2.2.1 = 3)
  | .if_icmp _ off => decide (0 ≤ (e.1 : Int) + off) && decide (e.2.2.1 = 3)
  | .goto off => decide (0 ≤ (e.1 : Int) + off) && decide (e.2.2.1 = 3)
  | .tableswitch d lo hi offs => decide (0 ≤ (e.1 : Int) + d ∧ 0 ≤ lo ∧ hi + 1 = lo + offs.toList.length ∧ hi < 2147483647) && offs.toList.all (fun o => decide (0 ≤ (e.1 : Int) + o))
  | .lookupswitch d ps => decide (0 ≤ (e.1 : Int) + d) && (ps.toList.zip (ps.toList.drop 1)).all (fun (a, next) => a.1 < next.1) && ps.toList.all (fun q => decide (0 ≤ q.1 ∧ q.1 < 2147483648 ∧ 0 ≤ (e.1 : Int) + q.2))
  | i => decide (e.2.2.1 = kp_ln i)
def kp_chb : List Ent → Bool
  | e :: e' :: r => decide (e'.1 = e.1 + e.2.2.1) && kp_chb (e' :: r)
  | _ => true
def kp_ok (cc : ByteArray) (own : String) (tab : List Ent) : Bool := tab.all (fun e => decide (decode cc e.1 = .ok (e.2.1, e.2.2.1)) && kp_okb own e) && kp_chb tab
theorem kp_chb_suf : ∀ (tab is : List Ent), kp_chb tab = true → is <:+ tab → kp_chb is = true
  | [], is, _, h => by rw [List.suffix_nil.mp h]; rfl
  | e :: r, is, hc, h => by
    rcases List.suffix_cons_iff.mp h with rfl | h
    · exact hc
    · refine kp_chb_suf r is ?_ h
      cases r with
      | nil => rfl
      | cons e' r => rw [kp_chb, Bool.and_eq_true] at hc; exact hc.2
theorem kp_tb_good (w : Cond) (h : w ∈ kp_tb) : w ∈ lw_tbl ∧ goodWord w = true := List.mem_filter.mp h
theorem kp_GI {Ts : List Cond} (hT : ∀ w ∈ kp_tb, w ∈ Ts) {ws : List Cond} (h : ∀ w ∈ ws, w ∈ kp_tb) : GoodIn Ts ws := fun w hw => ⟨hT w (h w hw), good_of_word (kp_tb_good w (h w hw)).2⟩
theorem kp_ws_in {y : MethodName} {cc : ByteArray} {mL : Nat} {ret : Option FieldType} (h : Cond.code y cc mL ret ∈ kp_tb) : ∀ w ∈ kp_ws y cc mL ret, w ∈ kp_tb := fun w hw => (List.mem_cons.mp hw).elim (fun e => e ▸ h) id
theorem kp_nw_warm {w : Cond} (hw : w ∈ kp_nw) {s U : State} (hW : s.WarmedH U.vm) (h : va_Nw w s) : va_Nw w U := by
  have hn := (List.mem_filter.mp hw).2
  cases w <;> first | exact va_Nw.warmF hW h | exact va_Nw.warmM hW h | exact absurd hn Bool.false_ne_true
theorem kp_nw_same {w : Cond} (hw : w ∈ kp_nw) {s U : State} (hW : s.vm = U.vm) (h : va_Nw w s) : va_Nw w U := by
  have hn := (List.mem_filter.mp hw).2
  cases w <;> first | exact va_Nw.same rfl hW h | exact absurd hn Bool.false_ne_true
theorem kp_nw_use {w : Cond} (hw : w ∈ kp_nw) {s : State} {A : Array Value} (h : va_Nw w s) : w.before A s = true := by
  have hn := (List.mem_filter.mp hw).2
  cases w <;> first | exact va_Nw.use rfl h | exact absurd hn Bool.false_ne_true
set_option maxRecDepth 100000 in
theorem kp_u0 : ∀ w ∈ u_ws RX0 TX0 12, w ∈ kp_tb := by decide +kernel
set_option maxRecDepth 100000 in
theorem kp_u1 : ∀ w ∈ u_ws RX1 TX1 3, w ∈ kp_tb := by decide +kernel
set_option maxRecDepth 100000 in
theorem kp_u2 : ∀ w ∈ u_ws RX2 TX2 2, w ∈ kp_tb := by decide +kernel
set_option maxRecDepth 100000 in
theorem kp_u3 : ∀ w ∈ u_ws RX3 TX3 4, w ∈ kp_tb := by decide +kernel
set_option maxRecDepth 100000 in
theorem kp_u4 : ∀ w ∈ u_ws RX4 TX4 4, w ∈ kp_tb := by decide +kernel
set_option maxRecDepth 100000 in
theorem kp_u5 : ∀ w ∈ u_ws RX5 TX5 2, w ∈ kp_tb := by decide +kernel
set_option maxRecDepth 100000 in
theorem kp_u6 : ∀ w ∈ u_ws RX6 TX6 1, w ∈ kp_tb := by decide +kernel
set_option maxRecDepth 100000 in
theorem kp_u7 : ∀ w ∈ u_ws RX8 TX8 8, w ∈ kp_tb := by decide +kernel
set_option maxRecDepth 100000 in
theorem kp_u8 : ∀ w ∈ u_ws RX9 TX9 8, w ∈ kp_tb := by decide +kernel
set_option maxRecDepth 100000 in
theorem kp_u9 : ∀ w ∈ u_ws RX10 TX10 36, w ∈ kp_tb := by decide +kernel
theorem kp_cl {ci : Nat} {C : String} {T : u_T} {N : Nat} (h : vwCl[ci]? = some (C, T, N)) : (∀ w ∈ u_ws C T N, w ∈ kp_tb) ∧ ∃ ty0 : Nat → FieldType, (∀ k, k < N → parseFieldDescriptor (T k).2.2.1 = some (ty0 k)) ∧ ∀ a, a < N → ∀ b, b < N → a ≠ b → (T a).2.1 ≠ (T b).2.1 := by
  match ci, h with
  | 0, h => cases h; exact ⟨kp_u0, tyX0, tyX0_ok, nmX0⟩
  | 1, h => cases h; exact ⟨kp_u1, tyX1, tyX1_ok, nmX1⟩
  | 2, h => cases h; exact ⟨kp_u2, tyX2, tyX2_ok, nmX2⟩
  | 3, h => cases h; exact ⟨kp_u3, tyX3, tyX3_ok, nmX3⟩
  | 4, h => cases h; exact ⟨kp_u4, tyX4, tyX4_ok, nmX4⟩
  | 5, h => cases h; exact ⟨kp_u5, tyX5, tyX5_ok, nmX5⟩
  | 6, h => cases h; exact ⟨kp_u6, tyX6, tyX6_ok, nmX6⟩
  | 7, h => cases h; exact ⟨kp_u7, tyX8, tyX8_ok, nmX8⟩
  | 8, h => cases h; exact ⟨kp_u8, tyX9, tyX9_ok, nmX9⟩
  | 9, h => cases h; exact ⟨kp_u9, tyX10, tyX10_ok, nmX10⟩
  | k + 10, h => simp [vwCl] at h
-- what the words of the pure machine say
theorem kp_R_spec {o : Option (Option Value)} {f : Nat → Prop} (h : kp_R o f) : ∃ a, o = some (some (.ref a)) ∧ f a := by
  unfold kp_R at h
  split at h
  · exact ⟨_, rfl, h⟩
  · exact h.elim
theorem kp_I_spec {o : Option (Option Value)} {f : Int32 → Prop} (h : kp_I o f) : ∃ a, o = some (some (.int a)) ∧ f a := by
  unfold kp_I at h
  split at h
  · exact ⟨_, rfl, h⟩
  · exact h.elim
theorem kp_pI_spec {st : List Value} {f : Int32 → List Value → Prop} (h : kp_pI st f) : ∃ x r, st = .int x :: r ∧ f x r := by
  unfold kp_pI at h
  split at h
  · exact ⟨_, _, rfl, h⟩
  · exact h.elim
theorem kp_pR_spec {st : List Value} {f : Nat → List Value → Prop} (h : kp_pR st f) : ∃ x r, st = .ref x :: r ∧ f x r := by
  unfold kp_pR at h
  split at h
  · exact ⟨_, _, rfl, h⟩
  · exact h.elim
theorem kp_arr_spec {lay : List Ds} {a kind : Nat} {f : Nat → List Nat → Prop} (h : kp_arr lay a kind f) : ∃ n rs, lay[a]? = some (.inr (kind, n, rs)) ∧ f n rs := by
  unfold kp_arr at h
  split at h
  · rename_i kd n rs hl
    by_cases hk : kd = kind
    · rw [if_pos hk] at h
      subst hk
      exact ⟨n, rs, hl, h⟩
    · rw [if_neg hk] at h
      exact h.elim
  · exact h.elim
theorem kp_len_spec {lay : List Ds} {a : Nat} {f : Nat → Prop} (h : kp_len lay a f) : ∃ kd n rs, lay[a]? = some (.inr (kd, n, rs)) ∧ f n := by
  unfold kp_len at h
  split at h
  · rename_i kd n rs hl
    exact ⟨kd, n, rs, hl, h⟩
  · exact h.elim
theorem kp_obj_spec {lay : List Ds} {a ci : Nat} {f : List (Option Nat) → Prop} (h : kp_obj lay a ci f) : ∃ fs, lay[a]? = some (.inl (ci, fs)) ∧ f fs := by
  unfold kp_obj at h
  split at h
  · rename_i cj fs hl
    by_cases hk : cj = ci
    · rw [if_pos hk] at h
      subst hk
      exact ⟨fs, hl, h⟩
    · rw [if_neg hk] at h
      exact h.elim
  · exact h.elim
theorem kp_ite_spec {c A : Prop} [Decidable c] (h : if c then A else False) : c ∧ A := by
  by_cases hc : c
  · rw [if_pos hc] at h; exact ⟨hc, h⟩
  · rw [if_neg hc] at h; exact h.elim
theorem kp_tgt_eq {pc : Nat} {off : Int} (h : 0 ≤ (pc : Int) + off) : (pc : Int) + off = (kp_tgt pc off : Int) := by
  unfold kp_tgt
  omega
theorem kp_bool_nar {x : Int32} (h : x = nI 0 ∨ x = nI 1) : narrow .boolean (.int x) = .int x ∧ fits .boolean (.int x) = true ∧ vp_nar .boolean x = x := by
  rcases h with rfl | rfl <;> exact ⟨rfl, rfl, rfl⟩
theorem kp_catsum : ∀ (st : List Value), (st.map fun v => v.category).sum ≤ 2 * st.length
  | [] => by simp
  | v :: r => by
    have := kp_catsum r
    have hv : v.category ≤ 2 := by rcases lv_cat v with h | h <;> omega
    simp only [List.map_cons, List.sum_cons, List.length_cons]
    omega
end
section
/-! each instruction of the pure machine, over the machine itself -/
def kp_Cx (p : Program) (s : State) (m : MethodId) (args : Array Value) (meth : Method) (c : Code) (cc : ByteArray) (own : String) (nL : Nat) (ret : Option FieldType) (D : va_G) (cI cZ cR : ClassId) : Prop :=
  p.tables.exec = Jvm.exec ∧ c.code = cc ∧ c.maxLocals = nL ∧ s.vm.findClass own = some m.cls ∧ (∀ w ∈ kp_tb, w.before args s = true) ∧ (∀ w ∈ kp_nw, va_Nw w s) ∧ meth.sig.returnType = ret ∧ meth.locks = false ∧ va_K D vwCl (kp_ty cI cZ cR) s
def kp_V (p : Program) (l : Launch) (e : Env) (R : Room) (s : State) (m : MethodId) (args : Array Value) (below : List Frame) (meth : Method) (c : Code) (D : va_G) (cI cZ cR : ClassId) (lay : List Ds) (ad : Nat → Nat) (A : Nat → Prop) (Qs : State → Prop) (nL : Nat) (pc : Nat) (ls : Lcl) (st : List Value) (σ : Sg) : Prop :=
  ls.length = nL → ∀ (H : Heap) (locs : List Loc) (la : Array Slot), va_P D vwCl (kp_w ad cI cZ cR lay σ) H → va_S A s.heap H locs → kp_lh ad la ls → W p l e R s m args below meth c H locs 0 0 Qs (F0 m pc la (st.map (kp_re ad)))
section KPS
variable {p : Program} {l : Launch} {e : Env} {R : Room} {s : State} {m : MethodId} {args : Array Value} {below : List Frame} {meth : Method} {c : Code} {cc : ByteArray} {own : String} {nL : Nat} {ret : Option FieldType} {D : va_G} {cI cZ cR : ClassId} {lay : List Ds} {ad : Nat → Nat} {A : Nat → Prop} {Qs : State → Prop}
variable {pc : Nat} {is : List Ent} {ls : Lcl} {st : List Value} {σ : Sg}
theorem kp_v_get {idx : Nat} (C : kp_Cx p s m args meth c cc own nL ret D cI cZ cR) {ci kk : Nat} {b : Bool} (hg : kp_okG own (idx, ci, kk, b)) {a : Nat} {fs : List (Option Nat)} (ha : lay[a]? = some (.inl (ci, fs))) {o : Option Nat} (ho : fs[kk]? = some o) (hd : decode cc pc = .ok (.getfield idx, 3)) {rest : List Value} {H : Heap} {locs : List Loc} {la : Array Slot} (hP : va_P D vwCl (kp_w ad cI cZ cR lay σ) H)
    (kk' : W p l e R s m args below meth c H locs 0 0 Qs (F0 m (pc + 3) la (kp_fv ad σ a kk o :: rest))) : W p l e R s m args below meth c H locs 0 0 Qs (F0 m pc la (.ref (ad a) :: rest)) := by
  obtain ⟨hx, hb, hml, hown, hts, hnw, hr, hlk, hK⟩ := C
  obtain ⟨Cn, T, N, h1, h2, h3⟩ := hg
  dsimp only at h1 h2 h3
  have hv : (fs.mapIdx (kp_fv ad σ a))[kk]? = some (kp_fv ad σ a kk o) := by simp [List.getElem?_mapIdx, ho]
  rcases h3 with h3 | ⟨host, h3⟩
  · exact va_get hx hb hts (kp_cl h1).1 hown hK hP a (kp_w_at ha) h1 kk h2 (hts _ h3) (fun _ q => q) hv hd kk'
  · exact va_getN hx hb hts (kp_cl h1).1 hown hK hP a (kp_w_at ha) h1 kk h2 (kp_nw_use h3 (hnw _ h3)) (fun _ q => q) hv hd kk'
theorem kp_fv_set {fs : List (Option Nat)} {kk : Nat} {a : Nat} {x : Int32} (h : fs[kk]? = some none) : (fs.mapIdx (kp_fv ad σ a)).set kk (.int x) = fs.mapIdx (kp_fv ad (kp_up σ a kk x) a) := by
  apply List.ext_getElem?
  intro i
  by_cases hi : i = kk
  · subst hi
    rw [List.getElem?_set_self (by have := (List.getElem?_eq_some_iff.mp h).1; simpa using this)]
    simp [List.getElem?_mapIdx, h, kp_fv, kp_up_eq, upd]
  · rw [List.getElem?_set_ne (Ne.symm hi)]
    simp only [List.getElem?_mapIdx]
    cases ho : fs[i]? with
    | none => rfl
    | some o => cases o <;> simp [kp_fv, kp_up_eq, upd, hi]
theorem kp_v_put {idx : Nat} (C : kp_Cx p s m args meth c cc own nL ret D cI cZ cR) {ci kk : Nat} {b : Bool} (hg : kp_okP own (idx, ci, kk, b)) {a : Nat} {fs : List (Option Nat)} (ha : lay[a]? = some (.inl (ci, fs))) (ho : fs[kk]? = some none) {x : Int32} (hxb : b = true → x = nI 0 ∨ x = nI 1) (hd : decode cc pc = .ok (.putfield idx, 3)) {rest : List Value} {H : Heap} {locs : List Loc} {la : Array Slot} (hP : va_P D vwCl (kp_w ad cI cZ cR lay σ) H) (hD : va_D A (kp_w ad cI cZ cR lay σ)) (hS : va_S A s.heap H locs)
    (kk' : ∀ (H1 : Heap) (locs1 : List Loc), va_P D vwCl (kp_w ad cI cZ cR lay (kp_up σ a kk x)) H1 → va_S A s.heap H1 locs1 → W p l e R s m args below meth c H1 locs1 0 0 Qs (F0 m (pc + 3) la rest)) : W p l e R s m args below meth c H locs 0 0 Qs (F0 m pc la (.int x :: .ref (ad a) :: rest)) := by
  obtain ⟨hx, hb, hml, hown, hts, hnw, hr, hlk, hK⟩ := C
  obtain ⟨Cn, T, N, h1, h2, h3, h4, h5⟩ := hg
  dsimp only at h1 h2 h3 h4 h5
  obtain ⟨hin, ty0, hty, hnm⟩ := kp_cl h1
  have hset : (kp_w ad cI cZ cR lay σ).set a (ad a, .inr (ci, (fs.mapIdx (kp_fv ad σ a)).set kk (.int x))) = kp_w ad cI cZ cR lay (kp_up σ a kk x) :=
    kp_w_set ha (by rw [kp_fv_set ho]; rfl) (fun i hi => kp_up_ne hi)
  have hfit : narrow (if b = true then FieldType.boolean else .int) (.int x) = .int x ∧ fits (if b = true then FieldType.boolean else .int) (.int x) = true := by
    cases b with
    | false => exact ⟨rfl, rfl⟩
    | true => exact ⟨(kp_bool_nar (hxb rfl)).1, (kp_bool_nar (hxb rfl)).2.1⟩
  have hl : kk < (fs.mapIdx (kp_fv ad σ a)).length := by have := (List.getElem?_eq_some_iff.mp ho).1; simpa using this
  rcases h3 with h3 | ⟨host, h3⟩
  · refine va_put hx hb hts hin ty0 hty hnm hown hK hP hD hS a (kp_w_at ha) h1 kk h2 (hts _ h3) (fun _ q => q) h4 h5 hfit.1 hfit.2 hl hd (fun H1 locs1 hP1 hD1 hS1 => ?_)
    rw [hset] at hP1
    exact kk' H1 locs1 hP1 hS1
  · refine va_putN hx hb hts hin ty0 hty hnm hown hK hP hD hS a (kp_w_at ha) h1 kk h2 (kp_nw_use h3 (hnw _ h3)) (fun _ q => q) h4 h5 hfit.1 hfit.2 hl hd (fun H1 locs1 hP1 hD1 hS1 => ?_)
    rw [hset] at hP1
    exact kk' H1 locs1 hP1 hS1
theorem kp_v_aald (C : kp_Cx p s m args meth c cc own nL ret D cI cZ cR) {a n : Nat} {rs : List Nat} (ha : lay[a]? = some (.inr (2, n, rs))) {j : Int32} (hin : vp_in j n) {q : Nat} (hq : rs[j.toNatClampNeg]? = some q) (hd : decode cc pc = .ok (.aaload, 1)) {rest : List Value} {H : Heap} {locs : List Loc} {la : Array Slot} (hP : va_P D vwCl (kp_w ad cI cZ cR lay σ) H)
    (kk' : W p l e R s m args below meth c H locs 0 0 Qs (F0 m (pc + 1) la (.ref (ad q) :: rest))) : W p l e R s m args below meth c H locs 0 0 Qs (F0 m pc la (.int j :: .ref (ad a) :: rest)) := by
  obtain ⟨hx, hb, hml, hown, hts, hnw, hr, hlk, hK⟩ := C
  have hlt : j.toNatClampNeg < n := Nat.not_le.mp fun z => hin (Or.inr z)
  have hat : va_at D vwCl (ad a, .inl (cR, n, .inr (.inr (.inr (.inr fun j => (rs[j]?).map ad))))) H := hP a _ (kp_w_at ha)
  exact W.aald (v := .ref (ad q)) (ty := .array .int) hx hb hat ((hK.2 2 _ rfl).1 n (fun j => va_rf ((rs[j]?).map ad))) rfl (fun z => by cases z) (by show ¬ (j < 0 ∨ (arrV _ _ _).slots.size ≤ _); rw [arrV_size]; exact hin) (by show (arrV _ _ _).slots[_]? = _; rw [arrV_read _ _ hlt]; dsimp only; rw [hq]; rfl) rfl rfl hd kk'
theorem kp_callW {ret' : Option FieldType} {H : Heap} {locs : List Loc} {la : Array Slot} {st0 rest : List Value} {P : Int32 → Sg → Prop} {A1 free : Nat → Prop} (hr : va_Run p l e R s m args below meth c H locs 0 0 0 0 (F0 m pc la st0) rest (fun st oc t => (∃ (r : Int32) (τ : Sg), oc = .returned (kp_rv ret' r) ∧ P r τ ∧ va_P D vwCl (kp_w ad cI cZ cR lay τ) t.heap) ∧ va_F A1 st t) free) (hS : va_S A s.heap H locs) (hA : ∀ q, q < H.size → A1 q → A q) (hf : ∀ q, free q → A q)
    (kk : ∀ (r : Int32) (τ : Sg) (H1 : Heap) (locs1 : List Loc), P r τ → va_P D vwCl (kp_w ad cI cZ cR lay τ) H1 → va_S A s.heap H1 locs1 → W p l e R s m args below meth c H1 locs1 0 0 Qs (F0 m (pc + 3) la ((kp_rv ret' r).toList ++ rest))) : W p l e R s m args below meth c H locs 0 0 Qs (F0 m pc la st0) := by
  intro T hT X
  obtain ⟨v, st₀, t, T', L, h0, X', hL, e1, e2, ⟨⟨r, τ, hv, hp, hb⟩, hz, hk⟩, st⟩ := hr T hT X
  cases hv
  rw [h0] at hz hk
  obtain ⟨t2, a1, b1⟩ := kk r τ T'.heap (locs ++ L) hp (by rw [e1]; exact hb)
    ⟨Nat.le_trans hS.1 (by rw [e1]; exact hz), fun q h1 h2 => by rw [e1, hk q (Nat.lt_of_lt_of_le h1 hS.1) (fun z => h2 (hA q (Nat.lt_of_lt_of_le h1 hS.1) z))]; exact hS.2.1 q h1 h2, fun q hq => by
      rcases List.mem_append.mp hq with h | h
      · exact hS.2.2 q h
      · exact hf _ (hL q h)⟩ T' rfl X'
  exact ⟨t2, st t2 a1, b1⟩
theorem kp_blind {sz : Nat} {Bs : List Value} : FrameBlind (va_Pc Bs (fun U => U.heap.size = sz ∧ kp_B D cI cZ cR ad lay σ U)) := by
  intro a U g mk h
  obtain ⟨h1, h2, h3, h4, h5, h6⟩ := h
  exact ⟨h1, h2, fun w hw => kp_nw_same (s := U) (U := U.calling g mk a) hw rfl (h3 w hw), h4, va_K.moved (u := U) (U := U.calling g mk a) (Vm.Alike.refl U.vm) h5, h6⟩
/-- a call, by the callee's contract -/
theorem kp_v_call {ms : List Me} {h : Nat} (C : kp_Cx p s m args meth c cc own nL ret D cI cZ cR) (hR : R = kp_rm h) (hms : ∀ q ∈ ms, kp_okM lay own h q) {idx : Nat} {virt : Bool} {k : List Value → Sg → Prop} (hc : kp_call lay ms idx virt st σ k) (hd : decode cc pc = .ok (if virt = true then .invokevirtual idx else .invokestatic idx, 3)) {H : Heap} {locs : List Loc} {la : Array Slot} (hla : la.size = nL) (hP : va_P D vwCl (kp_w ad cI cZ cR lay σ) H) (hD : va_D A (kp_w ad cI cZ cR lay σ)) (hA : ∀ q, s.heap.size ≤ q → A q) (hS : va_S A s.heap H locs)
    (kk : ∀ (st' : List Value) (τ : Sg) (H1 : Heap) (locs1 : List Loc), k st' τ → va_P D vwCl (kp_w ad cI cZ cR lay τ) H1 → va_S A s.heap H1 locs1 → W p l e R s m args below meth c H1 locs1 0 0 Qs (F0 m (pc + 3) la (st'.map (kp_re ad)))) : W p l e R s m args below meth c H locs 0 0 Qs (F0 m pc la (st.map (kp_re ad))) := by
  obtain ⟨hx, hb, hml, hown, hts, hnw, hr, hlk, hK⟩ := C
  subst hR
  unfold kp_call at hc
  split at hc
  · exact hc.elim
  · rename_i kind ci n ri pre post hf
    rcases hms _ (kp_fnd_mem ms idx _ hf) with ⟨h', y, cc', mL, ret', hM, hh, hmL, hri, ⟨hy1, hy2, hy3⟩, hcode, hini, hl⟩ | hX
    case inr =>
      obtain ⟨h1, hk1, hn2, hri, hini, hX⟩ := hX
      dsimp only at hk1 hn2 hri hX
      subst hk1; subst hn2; subst hri
      split at hc
      · exact hc.elim
      · rename_i As r htk
        obtain ⟨B, hBl, hAs, hst⟩ := kp_tk_spec 2 st [] As r htk
        rw [List.append_nil] at hAs
        cases virt with
        | true =>
          dsimp only at hc
          exact absurd (kp_ite_spec hc).1 (by decide)
        | false =>
          dsimp only at hc
          rw [if_neg (by decide)] at hc
          obtain ⟨hlen, hpre, hc4⟩ := kp_ite_spec hc
          have hcat := kp_catsum (r.map (kp_re ad))
          rw [List.length_map] at hcat
          rcases hX with ⟨w1, w2, w3, w4⟩ | ⟨w1, w2, w3, w4⟩
          · obtain ⟨x, y, e, hpo⟩ := w4 As σ hpre
            have hB : B = [.int y, .int x] := by rw [← List.reverse_inj, ← hAs, e]; rfl
            rw [hst, hB]
            exact va_mmax (rest := r.map (kp_re ad)) hx hb (hml.trans hla.symm) hown (hts _ w1) (hts _ w2) (hts _ hini) (hts _ w3) h1 (by show _ + 13 ≤ 40 * h; omega) (Nat.le_refl _) (Nat.le_refl _) hd (kk (.int (if x < y then y else x) :: r) σ H locs (hc4 _ σ hpo) hP hS)
          · obtain ⟨x, y, e, hpo⟩ := w4 As σ hpre
            have hB : B = [.int y, .int x] := by rw [← List.reverse_inj, ← hAs, e]; rfl
            rw [hst, hB]
            exact va_mmin (rest := r.map (kp_re ad)) hx hb (hml.trans hla.symm) hown (hts _ w1) (hts _ w2) (hts _ hini) (hts _ w3) h1 (by show _ + 13 ≤ 40 * h; omega) (Nat.le_refl _) (Nat.le_refl _) hd (kk (.int (if y < x then y else x) :: r) σ H locs (hc4 _ σ hpo) hP hS)
    dsimp only at hM hri hl hy3
    split at hc
    · exact hc.elim
    · rename_i As r htk
      obtain ⟨B, hBl, hAs, hst⟩ := kp_tk_spec n st [] As r htk
      rw [List.append_nil] at hAs
      have hAl : (As.map (kp_re ad)).length = n := by rw [List.length_map, hAs, List.length_reverse]; exact hBl
      have hfree : ∀ q, va_A (kp_w ad cI cZ cR lay σ) H.size q → A q := by
        intro q hq
        rcases hq with ⟨k1, e1, h1⟩ | h1
        · exact hD.2 k1 (q, e1) h1
        · exact hA q (Nat.le_trans hS.1 h1)
      have hroom : (kp_rm h').frames + 1 ≤ (kp_rm h).frames ∧ 8 + (mL + 11) + (kp_rm h').locals ≤ (kp_rm h).locals := ⟨hh, by show 8 + (mL + 11) + 40 * h' ≤ 40 * h; omega⟩
      have hGI : GoodIn kp_tb (kp_ws y cc' mL ret') := kp_GI (fun _ q => q) (kp_ws_in hcode)
      have hbody : ∀ U : State, U.heap = H → s.WarmedH U.vm → U.heap.size = H.size ∧ kp_B D cI cZ cR ad lay σ U := fun U hU hW => ⟨by rw [hU], fun w hw => kp_nw_warm hw hW (hnw w hw), by rw [hU]; exact hP, va_K.moved hW.alike hK, hD.weaken (fun _ _ _ _ => trivial)⟩
      cases virt with
      | true =>
        dsimp only at hc
        obtain ⟨hk0, hc1⟩ := kp_ite_spec hc
        obtain ⟨a, r', hr', hc2⟩ := kp_pR_spec hc1
        obtain ⟨fs, hobj, hc3⟩ := kp_obj_spec hc2
        obtain ⟨hlen, hpre, hc4⟩ := kp_ite_spec hc3
        clear hc hc1 hc2 hc3
        subst hk0
        obtain ⟨-, hl1, hl2, hl3, hl4⟩ | ⟨q, -⟩ | ⟨q, -⟩ := hl
        · cases hci : vwCl[ci]? with
          | none => rw [hci] at hl4; cases hl4
          | some cq =>
            rw [hci] at hl4
            have hcy : cq.1 = y.cls := Option.some.inj hl4
            have hrecv := va_recv hK hP hci (kp_w_at hobj)
            rw [hcy] at hrecv
            have cw : CallW (kp_rm h) s args own y.cls idx y cc' mL ret' (kp_ws y cc' mL ret') (kp_rm h') 0 0 n :=
              ⟨callB_of n hts hGI rfl rfl rfl (hts _ hini) (hts _ hl1) ⟨hy1, hy2, hy3⟩ hroom, hts _ hl2, hts _ hl3⟩
            refine kp_callW (va_runV (As := As.map (kp_re ad)) (b := ad a) (rest := r'.map (kp_re ad)) ⟨hx, hb, hml, hown, hts⟩ (hM l D cI cZ cR ad H.size (.ref a :: As) σ hpre) cw ⟨kp_blind, hrecv, fun U hU hW => ⟨rfl, hbody U hU hW⟩⟩ rfl hAl hla ?_ (lv_room ?_) hd ⟨Nat.le_refl _, Nat.le_refl _⟩) hS (fun q _ h => hfree q h) hfree (fun x τ H1 locs1 hp hP1 hS1 => ?_)
            · show st.map (kp_re ad) = (As.map (kp_re ad)).reverse ++ _
              rw [hst, hr', hAs]
              simp [kp_re]
            · have := kp_catsum (r'.map (kp_re ad))
              rw [List.length_map] at this
              omega
            · cases ret' with
              | none =>
                cases ri with
                | true => cases hri
                | false =>
                  obtain ⟨hz, hp⟩ := hp
                  rw [hz rfl] at hp
                  exact kk r' τ H1 locs1 (hc4 τ hp) hP1 hS1
              | some ty =>
                cases ri with
                | false => cases hri
                | true => exact kk (.int x :: r') τ H1 locs1 (hc4 x τ hp.2) hP1 hS1
        · cases q
        · cases q
      | false =>
        dsimp only at hc
        have hc1 : ¬ kind = 0 := fun z => by rw [if_pos z] at hc; exact hc
        rw [if_neg hc1] at hc
        obtain ⟨hlen, hpre, hc4⟩ := kp_ite_spec hc
        clear hc
        have hrun : va_Run p l e (kp_rm h) s m args below meth c H locs 0 0 0 0 (F0 m pc la (st.map (kp_re ad))) (r.map (kp_re ad)) (kp_Q lay ret' post D cI cZ cR ad H.size As σ (As.map (kp_re ad)).toArray) (va_A (kp_w ad cI cZ cR lay σ) H.size) := by
          have hstk : (F0 m pc la (st.map (kp_re ad))).stack = (As.map (kp_re ad)).reverse ++ r.map (kp_re ad) := by
            show st.map (kp_re ad) = (As.map (kp_re ad)).reverse ++ _
            rw [hst, hAs]
            simp
          have hcat : ((r.map (kp_re ad)).map fun v => v.category).sum ≤ 8 := by
            have := kp_catsum (r.map (kp_re ad))
            rw [List.length_map] at this
            omega
          obtain ⟨q, -⟩ | ⟨-, hl1, hl2⟩ | ⟨-, ⟨host, hl1⟩, hl2⟩ := hl
          · exact absurd q hc1
          · exact va_runS (As := As.map (kp_re ad)) (rest := r.map (kp_re ad)) (maxL := mL) (ret := ret') (rm := kp_rm h') ⟨hx, hb, hml, hown, hts⟩ (hM l D cI cZ cR ad H.size As σ hpre) ⟨callB_of n hts hGI rfl rfl rfl (hts _ hini) (hts _ hl1) ⟨hy1, hy2, hy3⟩ hroom, hts _ hl2⟩ ⟨kp_blind, fun U hU hW => ⟨rfl, hbody U hU hW⟩⟩ rfl hAl hla hstk (lv_room hcat) hd ⟨Nat.le_refl _, Nat.le_refl _⟩
          · exact va_runSN (As := As.map (kp_re ad)) (rest := r.map (kp_re ad)) (maxL := mL) (ret := ret') (rm := kp_rm h') ⟨hx, hb, hml, hown, hts⟩ (hM l D cI cZ cR ad H.size As σ hpre) ⟨va_cnB n hts hGI rfl rfl rfl (hnw _ hl1) (hts _ hini) ⟨hy1, hy2, hy3⟩ hroom, hts _ hl2, trivial⟩ ⟨kp_blind, fun U hU hW => ⟨rfl, hbody U hU hW⟩⟩ rfl hAl hla hstk (lv_room hcat) hd ⟨Nat.le_refl _, Nat.le_refl _⟩
        refine kp_callW hrun hS (fun q _ h => hfree q h) hfree (fun x τ H1 locs1 hp hP1 hS1 => ?_)
        cases ret' with
        | none =>
          cases ri with
          | true => cases hri
          | false =>
            obtain ⟨hz, hp⟩ := hp
            rw [hz rfl] at hp
            exact kk r τ H1 locs1 (hc4 τ hp) hP1 hS1
        | some ty =>
          cases ri with
          | false => cases hri
          | true => exact kk (.int x :: r) τ H1 locs1 (hc4 x τ hp.2) hP1 hS1
end KPS
end
section
/-! one instruction, a stretch, a loop, a method: out of the pure machine -/
section KPR
variable {p : Program} {l : Launch} {e : Env} {R : Room} {s : State} {m : MethodId} {args : Array Value} {below : List Frame} {meth : Method} {c : Code} {cc : ByteArray} {own : String} {nL : Nat} {ret : Option FieldType} {D : va_G} {cI cZ cR : ClassId} {lay : List Ds} {ad : Nat → Nat} {A : Nat → Prop}
variable {is : List Ent} {ls : Lcl} {st : List Value} {σ : Sg} {gl pl : List Fe} {ms : List Me} {tab : List Ent} {h : Nat} {Q : Int32 → Sg → Prop} {Qc : Array Value → State → Outcome → State → Prop} {k : List Ent → Lcl → List Value → Sg → Prop}
theorem kp_i0 : (nI 0 : Int32) = 0 := rfl
theorem kp_and2 {a b : Bool} (h : (a && b) = true) : a = true ∧ b = true := by rw [Bool.and_eq_true] at h; exact h
set_option maxHeartbeats 4000000 in
theorem kp_S_sound (C : kp_Cx p s m args meth c cc own nL ret D cI cZ cR) (hR : R = kp_rm h) (hms : ∀ q ∈ ms, kp_okM lay own h q) (hgl : ∀ q ∈ gl, kp_okG own q) (hpl : ∀ q ∈ pl, kp_okP own q)
    (hD : ∀ τ, va_D A (kp_w ad cI cZ cR lay τ)) (hA : ∀ q, s.heap.size ≤ q → A q)
    (hQ : ∀ (r : Int32) (τ : Sg) (H : Heap) (locs : List Loc) (t : State), Q r τ → (ret = none → r = nI 0) → va_P D vwCl (kp_w ad cI cZ cR lay τ) H → va_S A s.heap H locs → t.heap = H → Qc args s (.returned (kp_rv ret r)) t)
    {pc : Nat} {i : Instr} {len : Nat} {cut : Bool} {v : Int32} (he : decode cc pc = .ok (i, len)) (hok : kp_okb own (pc, i, len, cut, v) = true)
    (hnext : ∀ ls st σ, k is ls st σ → kp_V p l e R s m args below meth c D cI cZ cR lay ad A (MQ below Qc args s 0 0 A) nL (pc + len) ls st σ)
    (hjmp : ∀ t ls st σ, k (kp_jmp tab t) ls st σ → kp_V p l e R s m args below meth c D cI cZ cR lay ad A (MQ below Qc args s 0 0 A) nL t ls st σ)
    (hs : kp_S lay gl pl ms tab (kp_rk ret) Q k pc i v is ls st σ) : kp_V p l e R s m args below meth c D cI cZ cR lay ad A (MQ below Qc args s 0 0 A) nL pc ls st σ := by
  intro hln H locs la hP hS hlh
  obtain ⟨hx, hb, hml, hown, hts, hnw, hr, hlk, hK⟩ := id C
  cases i with
  | aload_n n =>
    have hlen : len = 1 := of_decide_eq_true hok
    subst hlen
    obtain ⟨x, h1, h2⟩ := kp_R_spec hs
    exact lv_aload_n hx hb he rfl (hlh.2.2 n.val _ h1).1 (hnext _ _ _ h2 hln H locs la hP hS hlh)
  | aload n =>
    have hlen : len = 2 := of_decide_eq_true hok
    subst hlen
    obtain ⟨x, h1, h2⟩ := kp_R_spec hs
    exact lv_aload hx hb he (hlh.2.2 n _ h1).1 (hnext _ _ _ h2 hln H locs la hP hS hlh)
  | iload_n n =>
    have hlen : len = 1 := of_decide_eq_true hok
    subst hlen
    obtain ⟨x, h1, h2⟩ := kp_I_spec hs
    exact lv_iload_n hx hb he rfl (hlh.2.2 n.val _ h1).1 (hnext _ _ _ h2 hln H locs la hP hS hlh)
  | iload n =>
    have hlen : len = 2 := of_decide_eq_true hok
    subst hlen
    obtain ⟨x, h1, h2⟩ := kp_I_spec hs
    exact lv_iload hx hb he (hlh.2.2 n _ h1).1 (hnext _ _ _ h2 hln H locs la hP hS hlh)
  | istore_n n =>
    have hlen : len = 1 := of_decide_eq_true hok
    subst hlen
    obtain ⟨x, r, h1, h2⟩ := kp_pI_spec hs
    obtain ⟨hn, h3⟩ := kp_ite_spec h2
    subst h1
    exact lv_istore_n hx hb he rfl (kp_lh_has hlh) hn rfl (fun la' hl' => hnext _ _ _ h3 (by rw [List.length_set]; exact hln) H locs la' hP hS (kp_lh_set hlh hn rfl hl'))
  | istore n =>
    have hlen : len = 2 := of_decide_eq_true hok
    subst hlen
    obtain ⟨x, r, h1, h2⟩ := kp_pI_spec hs
    obtain ⟨hn, h3⟩ := kp_ite_spec h2
    subst h1
    exact lv_istore hx hb he (kp_lh_has hlh) hn rfl (fun la' hl' => hnext _ _ _ h3 (by rw [List.length_set]; exact hln) H locs la' hP hS (kp_lh_set hlh hn rfl hl'))
  | iinc n d =>
    obtain ⟨hv0, hlen⟩ := kp_and2 hok
    have hlen : len = 3 := of_decide_eq_true hlen
    have hv1 : Int32.ofInt d = v := of_decide_eq_true hv0
    subst hlen
    obtain ⟨x, h1, h2⟩ := kp_I_spec hs
    have hn : n < ls.length := (List.getElem?_eq_some_iff.mp h1).1
    obtain ⟨q, hq⟩ := List.getElem?_of_mem ((kp_ll_mem (ad := ad) ls 0 n (.int x)).mpr ⟨n, .int x, h1, by omega, rfl⟩)
    exact lv_iinc (v := x + v) hx hb he (kp_lh_has hlh) hq (by rw [hv1]) hn rfl (fun la' hl' => hnext _ _ _ h2 (by rw [List.length_set]; exact hln) H locs la' hP hS (kp_lh_set hlh hn rfl hl'))
  | iconst n =>
    obtain ⟨hv, hlen⟩ := kp_and2 hok
    have hlen : len = 1 := of_decide_eq_true hlen
    subst hlen
    exact lv_iconst hx hb he (of_decide_eq_true hv) (hnext _ _ _ hs hln H locs la hP hS hlh)
  | bipush n =>
    obtain ⟨hv, hlen⟩ := kp_and2 hok
    have hlen : len = 2 := of_decide_eq_true hlen
    subst hlen
    exact lv_bipush hx hb he (of_decide_eq_true hv) (hnext _ _ _ hs hln H locs la hP hS hlh)
  | sipush n =>
    obtain ⟨hv, hlen⟩ := kp_and2 hok
    have hlen : len = 3 := of_decide_eq_true hlen
    subst hlen
    exact lv_sipush hx hb he (of_decide_eq_true hv) (hnext _ _ _ hs hln H locs la hP hS hlh)
  | ldc idx =>
    obtain ⟨hv, hlen⟩ := kp_and2 hok
    have hlen : len = 2 := of_decide_eq_true hlen
    subst hlen
    exact lv_ldc hx hb hown (hts _ (of_decide_eq_true hv)) he (hnext _ _ _ hs hln H locs la hP hS hlh)
  | iadd =>
    have hlen : len = 1 := of_decide_eq_true hok
    subst hlen
    obtain ⟨y, r, h1, h2⟩ := kp_pI_spec hs
    obtain ⟨x, r', h3, h4⟩ := kp_pI_spec h2
    subst h1; subst h3
    exact lv_iadd hx hb he (hnext _ _ _ h4 hln H locs la hP hS hlh)
  | isub =>
    have hlen : len = 1 := of_decide_eq_true hok
    subst hlen
    obtain ⟨y, r, h1, h2⟩ := kp_pI_spec hs
    obtain ⟨x, r', h3, h4⟩ := kp_pI_spec h2
    subst h1; subst h3
    exact lv_isub hx hb he (hnext _ _ _ h4 hln H locs la hP hS hlh)
  | imul =>
    have hlen : len = 1 := of_decide_eq_true hok
    subst hlen
    obtain ⟨y, r, h1, h2⟩ := kp_pI_spec hs
    obtain ⟨x, r', h3, h4⟩ := kp_pI_spec h2
    subst h1; subst h3
    exact lv_imul hx hb he (hnext _ _ _ h4 hln H locs la hP hS hlh)
  | iand =>
    have hlen : len = 1 := of_decide_eq_true hok
    subst hlen
    obtain ⟨y, r, h1, h2⟩ := kp_pI_spec hs
    obtain ⟨x, r', h3, h4⟩ := kp_pI_spec h2
    subst h1; subst h3
    exact lv_iand hx hb he (hnext _ _ _ h4 hln H locs la hP hS hlh)
  | ior =>
    have hlen : len = 1 := of_decide_eq_true hok
    subst hlen
    obtain ⟨y, r, h1, h2⟩ := kp_pI_spec hs
    obtain ⟨x, r', h3, h4⟩ := kp_pI_spec h2
    subst h1; subst h3
    exact lv_ior hx hb he (hnext _ _ _ h4 hln H locs la hP hS hlh)
  | ishl =>
    have hlen : len = 1 := of_decide_eq_true hok
    subst hlen
    obtain ⟨y, r, h1, h2⟩ := kp_pI_spec hs
    obtain ⟨x, r', h3, h4⟩ := kp_pI_spec h2
    subst h1; subst h3
    exact lv_ishl hx hb he (hnext _ _ _ h4 hln H locs la hP hS hlh)
  | ishr =>
    have hlen : len = 1 := of_decide_eq_true hok
    subst hlen
    obtain ⟨y, r, h1, h2⟩ := kp_pI_spec hs
    obtain ⟨x, r', h3, h4⟩ := kp_pI_spec h2
    subst h1; subst h3
    exact lv_ishr hx hb he (hnext _ _ _ h4 hln H locs la hP hS hlh)
  | iushr =>
    have hlen : len = 1 := of_decide_eq_true hok
    subst hlen
    obtain ⟨y, r, h1, h2⟩ := kp_pI_spec hs
    obtain ⟨x, r', h3, h4⟩ := kp_pI_spec h2
    subst h1; subst h3
    exact lv_iushr hx hb he rfl (hnext _ _ _ h4 hln H locs la hP hS hlh)
  | dup =>
    have hlen : len = 1 := of_decide_eq_true hok
    subst hlen
    match st, hs with
    | .int x :: r, hs => exact lv_dup hx hb he rfl (hnext _ _ _ hs hln H locs la hP hS hlh)
    | .ref x :: r, hs => exact lv_dup hx hb he rfl (hnext _ _ _ hs hln H locs la hP hS hlh)
  | getfield idx =>
    have hlen : len = 3 := of_decide_eq_true hok
    subst hlen
    obtain ⟨a, r, h1, h2⟩ := kp_pR_spec hs
    subst h1
    split at h2
    · exact h2.elim
    · rename_i ci kk b hf
      obtain ⟨fs, ho, h3⟩ := kp_obj_spec h2
      split at h3
      · rename_i hfs
        exact kp_v_get C (hgl _ (kp_fnd_mem gl idx _ hf)) ho hfs he hP (hnext _ _ _ h3 hln H locs la hP hS hlh)
      · rename_i q hfs
        exact kp_v_get C (hgl _ (kp_fnd_mem gl idx _ hf)) ho hfs he hP (hnext _ _ _ h3 hln H locs la hP hS hlh)
      · exact h3.elim
  | putfield idx =>
    have hlen : len = 3 := of_decide_eq_true hok
    subst hlen
    obtain ⟨x, r, h1, h2⟩ := kp_pI_spec hs
    obtain ⟨a, r', h3, h4⟩ := kp_pR_spec h2
    subst h1; subst h3
    split at h4
    · exact h4.elim
    · rename_i ci kk b hf
      obtain ⟨fs, ho, h5⟩ := kp_obj_spec h4
      split at h5
      · rename_i hfs
        cases b with
        | false => exact kp_v_put C (hpl _ (kp_fnd_mem pl idx _ hf)) ho hfs (fun q => by cases q) he hP (hD σ) hS (fun H1 locs1 hP1 hS1 => hnext _ _ _ h5 hln H1 locs1 la hP1 hS1 hlh)
        | true => exact kp_v_put C (hpl _ (kp_fnd_mem pl idx _ hf)) ho hfs (fun _ => h5.1) he hP (hD σ) hS (fun H1 locs1 hP1 hS1 => hnext _ _ _ h5.2 hln H1 locs1 la hP1 hS1 hlh)
      · exact h5.elim
  | iaload =>
    have hlen : len = 1 := of_decide_eq_true hok
    subst hlen
    obtain ⟨j, r, h1, h2⟩ := kp_pI_spec hs
    obtain ⟨a, r', h3, h4⟩ := kp_pR_spec h2
    subst h1; subst h3
    obtain ⟨n, rs, ha, hin, h5⟩ := kp_arr_spec h4
    exact va_iald hx hb hK hP a 0 (kp_w_at ha) rfl hin he (hnext _ _ _ h5 hln H locs la hP hS hlh)
  | baload =>
    have hlen : len = 1 := of_decide_eq_true hok
    subst hlen
    obtain ⟨j, r, h1, h2⟩ := kp_pI_spec hs
    obtain ⟨a, r', h3, h4⟩ := kp_pR_spec h2
    subst h1; subst h3
    obtain ⟨n, rs, ha, hin, h5⟩ := kp_arr_spec h4
    exact va_zald hx hb hK hP a 1 (kp_w_at ha) rfl hin he (hnext _ _ _ h5 hln H locs la hP hS hlh)
  | aaload =>
    have hlen : len = 1 := of_decide_eq_true hok
    subst hlen
    obtain ⟨j, r, h1, h2⟩ := kp_pI_spec hs
    obtain ⟨a, r', h3, h4⟩ := kp_pR_spec h2
    subst h1; subst h3
    obtain ⟨n, rs, ha, ⟨hin, hn⟩, h5⟩ := kp_arr_spec h4
    have hlt : j.toNatClampNeg < rs.length := by rw [← hn]; exact Nat.not_le.mp fun z => hin (Or.inr z)
    exact kp_v_aald C ha hin (List.getElem?_eq_getElem hlt) he hP (hnext _ _ _ (h5 _ (List.getElem?_eq_getElem hlt)) hln H locs la hP hS hlh)
  | iastore =>
    have hlen : len = 1 := of_decide_eq_true hok
    subst hlen
    obtain ⟨x, r, h1, h2⟩ := kp_pI_spec hs
    obtain ⟨j, r', h3, h4⟩ := kp_pI_spec h2
    obtain ⟨a, r2, h5, h6⟩ := kp_pR_spec h4
    subst h1; subst h3; subst h5
    obtain ⟨n, rs, ha, hin, h7⟩ := kp_arr_spec h6
    refine va_iast hx hb hK hP (hD σ) hS a 0 (kp_w_at ha) rfl hin he (fun H1 locs1 hP1 hD1 hS1 => ?_)
    rw [kp_w_set (τ := kp_up σ a j.toNatClampNeg x) ha (by simp [kp_e, kp_up_eq]) (fun i hi => kp_up_ne hi)] at hP1
    exact hnext _ _ _ h7 hln H1 locs1 la hP1 hS1 hlh
  | bastore =>
    have hlen : len = 1 := of_decide_eq_true hok
    subst hlen
    obtain ⟨x, r, h1, h2⟩ := kp_pI_spec hs
    obtain ⟨j, r', h3, h4⟩ := kp_pI_spec h2
    obtain ⟨a, r2, h5, h6⟩ := kp_pR_spec h4
    subst h1; subst h3; subst h5
    obtain ⟨n, rs, ha, hin, hbx, h7⟩ := kp_arr_spec h6
    refine va_zast hx hb hK hP (hD σ) hS a 1 (kp_w_at ha) rfl hin he (fun H1 locs1 hP1 hD1 hS1 => ?_)
    rw [(kp_bool_nar hbx).2.2, kp_w_set (τ := kp_up σ a j.toNatClampNeg x) ha (by simp [kp_e, kp_up_eq]) (fun i hi => kp_up_ne hi)] at hP1
    exact hnext _ _ _ h7 hln H1 locs1 la hP1 hS1 hlh
  | arraylength =>
    have hlen : len = 1 := of_decide_eq_true hok
    subst hlen
    obtain ⟨a, r, h1, h2⟩ := kp_pR_spec hs
    subst h1
    obtain ⟨kd, n, rs, ha, h3⟩ := kp_len_spec h2
    by_cases k0 : kd = 0
    · subst k0
      exact va_alen hx hb hK hP a 0 (kp_w_at ha) rfl rfl he (hnext _ _ _ h3 hln H locs la hP hS hlh)
    · by_cases k1 : kd = 1
      · subst k1
        exact va_alen hx hb hK hP a 1 (kp_w_at ha) rfl rfl he (hnext _ _ _ h3 hln H locs la hP hS hlh)
      · have hq : kp_e ad cI cZ cR σ a (.inr (kd, n, rs)) = .inl (cR, n, .inr (.inr (.inr (.inr fun j => (rs[j]?).map ad)))) := by simp [kp_e, k0, k1]
        have hw : (kp_w ad cI cZ cR lay σ)[a]? = some (ad a, .inl (cR, n, .inr (.inr (.inr (.inr fun j => (rs[j]?).map ad))))) := by rw [kp_w_at ha, hq]
        exact va_alen hx hb hK hP a 2 hw rfl rfl he (hnext _ _ _ h3 hln H locs la hP hS hlh)
  | ifCond cd off =>
    obtain ⟨hv, hlen⟩ := kp_and2 hok
    have hlen : len = 3 := of_decide_eq_true hlen
    subst hlen
    have ht := kp_tgt_eq (of_decide_eq_true hv)
    obtain ⟨x, r, h1, h4⟩ := kp_pI_spec hs
    subst h1
    cases cd with
    | eq => exact lv_if_eq hx hb he ht (fun q => hjmp _ _ _ _ (h4.1 q) hln H locs la hP hS hlh) (fun q => hnext _ _ _ (h4.2 q) hln H locs la hP hS hlh)
    | ne => exact lv_if_ne hx hb he ht (fun q => hjmp _ _ _ _ (h4.1 q) hln H locs la hP hS hlh) (fun q => hnext _ _ _ (h4.2 q) hln H locs la hP hS hlh)
    | lt => exact lv_if_lt hx hb he ht (fun q => hjmp _ _ _ _ (h4.1 q) hln H locs la hP hS hlh) (fun q => hnext _ _ _ (h4.2 q) hln H locs la hP hS hlh)
    | ge => exact lv_if_ge hx hb he ht (fun q => hjmp _ _ _ _ (h4.1 (Int32.not_lt.mpr q)) hln H locs la hP hS hlh) (fun q => hnext _ _ _ (h4.2 (Int32.not_le.mp q)) hln H locs la hP hS hlh)
    | gt => exact lv_if_gt hx hb he ht (fun q => hjmp _ _ _ _ (h4.1 q) hln H locs la hP hS hlh) (fun q => hnext _ _ _ (h4.2 q) hln H locs la hP hS hlh)
    | le => exact lv_if_le hx hb he ht (fun q => hjmp _ _ _ _ (h4.1 (Int32.not_lt.mpr q)) hln H locs la hP hS hlh) (fun q => hnext _ _ _ (h4.2 (Int32.not_le.mp q)) hln H locs la hP hS hlh)
  | if_icmp cd off =>
    obtain ⟨hv, hlen⟩ := kp_and2 hok
    have hlen : len = 3 := of_decide_eq_true hlen
    subst hlen
    have ht := kp_tgt_eq (of_decide_eq_true hv)
    obtain ⟨y, r, h1, h2⟩ := kp_pI_spec hs
    obtain ⟨x, r', h3, h4⟩ := kp_pI_spec h2
    subst h1; subst h3
    cases cd with
    | eq => exact lv_icmp_eq hx hb he ht (fun q => hjmp _ _ _ _ (h4.1 q) hln H locs la hP hS hlh) (fun q => hnext _ _ _ (h4.2 q) hln H locs la hP hS hlh)
    | ne => exact lv_icmp_ne hx hb he ht (fun q => hjmp _ _ _ _ (h4.1 q) hln H locs la hP hS hlh) (fun q => hnext _ _ _ (h4.2 q) hln H locs la hP hS hlh)
    | lt => exact lv_icmp_lt hx hb he ht (fun q => hjmp _ _ _ _ (h4.1 q) hln H locs la hP hS hlh) (fun q => hnext _ _ _ (h4.2 q) hln H locs la hP hS hlh)
    | ge => exact lv_icmp_ge hx hb he ht (fun q => hjmp _ _ _ _ (h4.1 (Int32.not_lt.mpr q)) hln H locs la hP hS hlh) (fun q => hnext _ _ _ (h4.2 (Int32.not_le.mp q)) hln H locs la hP hS hlh)
    | gt => exact lv_icmp_gt hx hb he ht (fun q => hjmp _ _ _ _ (h4.1 q) hln H locs la hP hS hlh) (fun q => hnext _ _ _ (h4.2 q) hln H locs la hP hS hlh)
    | le => exact lv_icmp_le hx hb he ht (fun q => hjmp _ _ _ _ (h4.1 (Int32.not_lt.mpr q)) hln H locs la hP hS hlh) (fun q => hnext _ _ _ (h4.2 (Int32.not_le.mp q)) hln H locs la hP hS hlh)
  | goto off =>
    obtain ⟨hv, hlen⟩ := kp_and2 hok
    have hlen : len = 3 := of_decide_eq_true hlen
    subst hlen
    exact lv_goto hx hb he (kp_tgt_eq (of_decide_eq_true hv)) (hjmp _ _ _ _ hs hln H locs la hP hS hlh)
  | tableswitch d lo hi offs =>
    obtain ⟨hv, hall⟩ := kp_and2 hok
    obtain ⟨hv1, hv2, hv3, hv4⟩ := of_decide_eq_true hv
    have hall : ∀ o ∈ offs.toList, 0 ≤ (pc : Int) + o := fun o ho => of_decide_eq_true (List.all_eq_true.mp hall o ho)
    obtain ⟨x, r, h1, h2⟩ := kp_pI_spec hs
    subst h1
    by_cases hout : x.toInt < lo ∨ hi < x.toInt
    · refine lv_tableOut hx hb he hout (kp_tgt_eq hv1) (hjmp _ _ _ _ (kp_sw_out _ (fun q hq => ?_) h2) hln H locs la hP hS hlh)
      obtain ⟨q1, q2, -⟩ := kp_tl_mem _ _ q hq
      exact ⟨by omega, by omega, by omega⟩
    · have hj : (x.toInt - lo).toNat < offs.toList.length := by omega
      have hget : offs.toList[(x.toInt - lo).toNat]? = some (offs.toList[(x.toInt - lo).toNat]) := List.getElem?_eq_getElem hj
      exact lv_tableIn hx hb he (fun q => hout (Or.inl q)) (fun q => hout (Or.inr q)) (by rw [← Array.getElem?_toList]; exact hget) (kp_tgt_eq (hall _ (List.mem_of_getElem? hget))) (hjmp _ _ _ _ (kp_sw_in _ lo _ _ hv2 (by omega) hget (by omega) h2) hln H locs la hP hS hlh)
  | lookupswitch d ps =>
    obtain ⟨hv0, hall⟩ := kp_and2 hok
    obtain ⟨hv1, hv2⟩ := kp_and2 hv0
    have hv1 := of_decide_eq_true hv1
    have hall : ∀ q ∈ ps.toList, 0 ≤ q.1 ∧ q.1 < 2147483648 ∧ 0 ≤ (pc : Int) + q.2 := fun o ho => of_decide_eq_true (List.all_eq_true.mp hall o ho)
    obtain ⟨x, r, h1, h2⟩ := kp_pI_spec hs
    subst h1
    have h3 := kp_sw_look (g := fun o => k (kp_jmp tab (kp_tgt pc o)) ls r σ) ps.toList (fun q hq => ⟨(hall q hq).1, (hall q hq).2.1⟩) h2
    have h4 : 0 ≤ (pc : Int) + Op.lookupswitch.offset ps.toList d x.toInt := by
      clear h3 h2 hs hok he hv0 hv2
      generalize ps.toList = L at hall
      induction L with
      | nil => rw [Op.lookupswitch.offset_nil]; exact hv1
      | cons q r ih =>
        rw [Op.lookupswitch.offset_cons]
        split
        · exact (hall q List.mem_cons_self).2.2
        · exact ih (fun q hq => hall q (List.mem_cons_of_mem _ hq))
    exact lv_lookup hx hb he hv2 rfl (kp_tgt_eq h4) (hjmp _ _ _ _ h3 hln H locs la hP hS hlh)
  | invokevirtual idx =>
    have hlen : len = 3 := of_decide_eq_true hok
    subst hlen
    exact kp_v_call (virt := true) C hR hms hs he (hlh.1.trans hln) hP (hD σ) hA hS (fun st' τ H1 locs1 hk hP1 hS1 => hnext _ _ _ hk hln H1 locs1 la hP1 hS1 hlh)
  | invokestatic idx =>
    have hlen : len = 3 := of_decide_eq_true hok
    subst hlen
    exact kp_v_call (virt := false) C hR hms hs he (hlh.1.trans hln) hP (hD σ) hA hS (fun st' τ H1 locs1 hk hP1 hS1 => hnext _ _ _ hk hln H1 locs1 la hP1 hS1 hlh)
  | ireturn =>
    have hlen : len = 1 := of_decide_eq_true hok
    subst hlen
    cases ret with
    | none => exact (show False from hs).elim
    | some ty =>
      cases ty with
      | int =>
        obtain ⟨x, r, h1, h2⟩ := kp_pI_spec (show kp_pI _ _ from hs)
        obtain ⟨h3, h4⟩ := kp_ite_spec h2
        rw [List.length_eq_zero_iff.mp h3] at h1
        subst h1
        exact W.iret hx hb hr (fun t ht hW => hQ x σ H locs t h4 (fun q => by cases q) hP hS ht) hS.2.2 he
      | boolean =>
        obtain ⟨x, r, h1, h2⟩ := kp_pI_spec (show kp_pI _ _ from hs)
        obtain ⟨h3, h5, h4⟩ := kp_ite_spec h2
        rw [List.length_eq_zero_iff.mp h3] at h1
        subst h1
        exact W.zret hx hb hr (kp_bool_nar h5).1 (fun t ht hW => hQ x σ H locs t h4 (fun q => by cases q) hP hS ht) hS.2.2 he
      | _ => exact (show False from hs).elim
  | return_ =>
    have hlen : len = 1 := of_decide_eq_true hok
    subst hlen
    cases ret with
    | none =>
      obtain ⟨h3, h4⟩ := kp_ite_spec (show ite _ _ _ from hs)
      rw [List.length_eq_zero_iff.mp h3]
      exact W.vret hx hb hr (fun t ht hW => hQ (nI 0) σ H locs t h4 (fun _ => rfl) hP hS ht) hS.2.2 he
    | some ty => cases ty <;> exact (show False from hs).elim
  | _ => exact (show False from hs).elim
theorem kp_ok_all {cc : ByteArray} {own : String} {tab : List Ent} (h : kp_ok cc own tab = true) : (∀ e ∈ tab, decode cc e.1 = .ok (e.2.1, e.2.2.1) ∧ kp_okb own e = true) ∧ kp_chb tab = true := by
  obtain ⟨h1, h2⟩ := kp_and2 h
  refine ⟨fun e he => ?_, h2⟩
  obtain ⟨h3, h4⟩ := kp_and2 (List.all_eq_true.mp h1 e he)
  exact ⟨of_decide_eq_true h3, h4⟩
theorem kp_chb_next {e : Ent} {is : List Ent} (h : kp_chb (e :: is) = true) {e' : Ent} {r : List Ent} (hr : is = e' :: r) : e'.1 = e.1 + e.2.2.1 := by
  subst hr
  exact of_decide_eq_true (kp_and2 h).1
set_option maxHeartbeats 4000000 in
/-- a stretch -/
theorem kp_T_sound (C : kp_Cx p s m args meth c cc own nL ret D cI cZ cR) (hR : R = kp_rm h) (hms : ∀ q ∈ ms, kp_okM lay own h q) (hgl : ∀ q ∈ gl, kp_okG own q) (hpl : ∀ q ∈ pl, kp_okP own q)
    (hD : ∀ τ, va_D A (kp_w ad cI cZ cR lay τ)) (hA : ∀ q, s.heap.size ≤ q → A q)
    (hQ : ∀ (r : Int32) (τ : Sg) (H : Heap) (locs : List Loc) (t : State), Q r τ → (ret = none → r = nI 0) → va_P D vwCl (kp_w ad cI cZ cR lay τ) H → va_S A s.heap H locs → t.heap = H → Qc args s (.returned (kp_rv ret r)) t)
    (hok : kp_ok cc own tab = true) {J : Nat → Lcl → List Value → Sg → Prop}
    (hJ : ∀ pc ls st σ, J pc ls st σ → kp_V p l e R s m args below meth c D cI cZ cR lay ad A (MQ below Qc args s 0 0 A) nL pc ls st σ) :
    ∀ (n : Nat) (is : List Ent) (ls : Lcl) (st : List Value) (σ : Sg), is <:+ tab → kp_T lay gl pl ms tab (kp_rk ret) J Q n is ls st σ → ∃ e0 r, is = e0 :: r ∧ kp_V p l e R s m args below meth c D cI cZ cR lay ad A (MQ below Qc args s 0 0 A) nL e0.1 ls st σ
  | 0, _, _, _, _, _, h => h.elim
  | _ + 1, [], _, _, _, _, h => h.elim
  | n + 1, e0 :: is, ls, st, σ, hsuf, h => by
    refine ⟨e0, is, rfl, ?_⟩
    obtain ⟨pc, i, len, cut, v⟩ := e0
    cases cut with
    | true => exact hJ pc ls st σ h
    | false =>
      have h1 := (kp_ok_all hok).1 _ (hsuf.mem List.mem_cons_self)
      have hch := kp_chb_suf tab _ (kp_ok_all hok).2 hsuf
      have ih := kp_T_sound C hR hms hgl hpl hD hA hQ hok hJ n
      refine kp_S_sound (is := is) (tab := tab) (k := fun is ls st σ => kp_T lay gl pl ms tab (kp_rk ret) J Q n is ls st σ) C hR hms hgl hpl hD hA hQ h1.1 h1.2 (fun ls st σ hk => ?_) (fun t ls st σ hk => ?_) h
      · obtain ⟨e1, r1, q1, q2⟩ := ih is ls st σ ((List.suffix_cons _ _).trans hsuf) hk
        rw [kp_chb_next hch q1] at q2
        exact q2
      · obtain ⟨e1, r1, q1, q2⟩ := ih _ ls st σ (kp_jmp_suf tab t) hk
        rw [kp_jmp_head tab t e1 r1 q1] at q2
        exact q2
set_option maxHeartbeats 4000000 in
/-- loops: an invariant with a measure at each cut -/
theorem kp_L_sound (C : kp_Cx p s m args meth c cc own nL ret D cI cZ cR) (hR : R = kp_rm h) (hms : ∀ q ∈ ms, kp_okM lay own h q) (hgl : ∀ q ∈ gl, kp_okG own q) (hpl : ∀ q ∈ pl, kp_okP own q)
    (hD : ∀ τ, va_D A (kp_w ad cI cZ cR lay τ)) (hA : ∀ q, s.heap.size ≤ q → A q)
    (hQ : ∀ (r : Int32) (τ : Sg) (H : Heap) (locs : List Loc) (t : State), Q r τ → (ret = none → r = nI 0) → va_P D vwCl (kp_w ad cI cZ cR lay τ) H → va_S A s.heap H locs → t.heap = H → Qc args s (.returned (kp_rv ret r)) t)
    (hok : kp_ok cc own tab = true) {N : Nat} {Inv : Nat → Nat → Lcl → List Value → Sg → Prop}
    (hI : ∀ n pc ls st σ, Inv n pc ls st σ → kp_T1 lay gl pl ms tab (kp_rk ret) (fun pc ls st σ => ∃ n', n' < n ∧ Inv n' pc ls st σ) Q N pc ls st σ) :
    ∀ (n pc : Nat) (ls : Lcl) (st : List Value) (σ : Sg), Inv n pc ls st σ → kp_V p l e R s m args below meth c D cI cZ cR lay ad A (MQ below Qc args s 0 0 A) nL pc ls st σ := by
  intro n
  induction n using Nat.strongRecOn with
  | _ n ihn =>
    intro pc ls st σ h
    have h0 := hI n pc ls st σ h
    unfold kp_T1 at h0
    have hJ : ∀ pc ls st σ, (∃ n', n' < n ∧ Inv n' pc ls st σ) → kp_V p l e R s m args below meth c D cI cZ cR lay ad A (MQ below Qc args s 0 0 A) nL pc ls st σ := fun pc ls st σ ⟨n', q1, q2⟩ => ihn n' q1 pc ls st σ q2
    have ih := kp_T_sound C hR hms hgl hpl hD hA hQ hok hJ N
    split at h0
    · exact h0.elim
    · rename_i e0 is hj
      have hsuf : e0 :: is <:+ tab := hj ▸ kp_jmp_suf tab pc
      have hpc := kp_jmp_head tab pc e0 is hj
      subst hpc
      have h1 := (kp_ok_all hok).1 _ (hsuf.mem List.mem_cons_self)
      have hch := kp_chb_suf tab _ (kp_ok_all hok).2 hsuf
      obtain ⟨pc, i, len, cut, v⟩ := e0
      refine kp_S_sound (is := is) (tab := tab) (k := fun is ls st σ => kp_T lay gl pl ms tab (kp_rk ret) (fun pc ls st σ => ∃ n', n' < n ∧ Inv n' pc ls st σ) Q N is ls st σ) C hR hms hgl hpl hD hA hQ h1.1 h1.2 (fun ls st σ hk => ?_) (fun t ls st σ hk => ?_) h0
      · obtain ⟨e1, r1, q1, q2⟩ := ih is ls st σ ((List.suffix_cons _ _).trans hsuf) hk
        rw [kp_chb_next hch q1] at q2
        exact q2
      · obtain ⟨e1, r1, q1, q2⟩ := ih _ ls st σ (kp_jmp_suf tab t) hk
        rw [kp_jmp_head tab t e1 r1 q1] at q2
        exact q2
end KPR
def kp_iv : Value → Bool
  | .int _ => true
  | .ref _ => true
  | _ => false
def kp_c1 (As : List Value) : Bool := As.all kp_iv
theorem kp_slots : ∀ (As : List Value), kp_c1 As = true → lg_sl As = As.map Slot.val
  | [], _ => rfl
  | v :: r, h => by
    obtain ⟨h1, h2⟩ := kp_and2 (show (kp_iv v && kp_c1 r) = true from h)
    have ih := kp_slots r h2
    have : lg_sl (v :: r) = (if v.category = 2 then [Slot.val v, .second] else [.val v]) ++ lg_sl r := rfl
    rw [this, ih]
    cases v <;> first | rfl | cases h1
theorem kp_c1_re {ad : Nat → Nat} : ∀ (As : List Value), kp_c1 As = true → kp_c1 (As.map (kp_re ad)) = true
  | [], _ => rfl
  | v :: r, h => by
    obtain ⟨h1, h2⟩ := kp_and2 (show (kp_iv v && kp_c1 r) = true from h)
    have ih := kp_c1_re (ad := ad) r h2
    show (kp_iv (kp_re ad v) && kp_c1 (r.map (kp_re ad))) = true
    rw [ih]
    cases v <;> first | rfl | cases h1
theorem kp_c1_cat {As : List Value} (h : kp_c1 As = true) {v : Value} (hv : v ∈ As) : v.category = 1 := by
  have := List.all_eq_true.mp h v hv
  cases v <;> first | rfl | cases this
/-- the locals at a method's entry -/
def kp_en (As : List Value) (mL : Nat) : Lcl := As.map some ++ List.replicate (mL - As.length) none
theorem kp_entry_lh {ad : Nat → Nat} {As : List Value} {mL : Nat} (hc : kp_c1 As = true) (hl : As.length ≤ mL) : kp_lh ad ((lg_sl (As.map (kp_re ad)) ++ List.replicate (mL - (lg_sl (As.map (kp_re ad))).length) Slot.unset).toArray) (kp_en As mL) := by
  have hs := kp_slots _ (kp_c1_re (ad := ad) As hc)
  have hle : (lg_sl (As.map (kp_re ad))).length ≤ mL := by rw [hs]; simpa using hl
  have hh := lv_entry (As.map (kp_re ad)) hle
  refine ⟨by rw [hh.1]; simp [kp_en]; omega, hh.2.1, fun i v hi => ?_⟩
  unfold kp_en at hi
  by_cases hlt : i < As.length
  · rw [List.getElem?_append_left (by simpa using hlt), List.getElem?_map] at hi
    cases hv : As[i]? with
    | none => rw [hv] at hi; cases hi
    | some w =>
      rw [hv] at hi
      have hw : w = v := by simpa using hi
      subst hw
      refine ⟨?_, kp_c1_cat hc (List.mem_of_getElem? hv)⟩
      rw [List.getElem?_toArray, hs, List.getElem?_append_left (by simpa using hlt), List.getElem?_map, List.getElem?_map, hv]
      rfl
  · rw [List.getElem?_append_right (by simpa using Nat.not_lt.mp hlt), List.getElem?_replicate] at hi
    split at hi <;> cases hi
set_option maxHeartbeats 4000000 in
/-- A METHOD'S CONTRACT out of the pure machine -/
theorem kp_met {lay : List Ds} {h : Nat} {y : MethodName} {cc : ByteArray} {mL : Nat} {ret : Option FieldType} {pre : SPre} {post : SPost} {gl pl : List Fe} {ms : List Me} {tab : List Ent} {N : Nat}
    (hy : plainName y.cls = true) (hok : kp_ok cc y.cls tab = true) (hgl : ∀ q ∈ gl, kp_okG y.cls q) (hpl : ∀ q ∈ pl, kp_okP y.cls q) (hms : ∀ q ∈ ms, kp_okM lay y.cls h q) (h0 : (tab.head?).map (fun e => e.1) = some 0)
    (Inv : List Value → Sg → Nat → Nat → Lcl → List Value → Sg → Prop)
    (hent : ∀ As σ, pre As σ → (kp_c1 As = true ∧ As.length ≤ mL) ∧ kp_T lay gl pl ms tab (kp_rk ret) (fun pc ls st τ => ∃ n, Inv As σ n pc ls st τ) (post As σ) N tab (kp_en As mL) [] σ)
    (hloop : ∀ As σ, pre As σ → ∀ n pc ls st τ, Inv As σ n pc ls st τ → kp_T1 lay gl pl ms tab (kp_rk ret) (fun pc ls st τ => ∃ n', n' < n ∧ Inv As σ n' pc ls st τ) (post As σ) N pc ls st τ) : kp_Met lay h y cc mL ret pre post := by
  intro l D cI cZ cR ad sz As σ hpre
  obtain ⟨⟨hc1, hlen⟩, hT⟩ := hent As σ hpre
  refine Met.ofW (cc := cc) (maxL := mL) (ret := ret) hy rfl ?_
  intro p e s m args below meth c s₁ B hml hv
  obtain ⟨rfl, hsz, hnw, hP, hK, hD0⟩ := hv
  have hx := B.exec
  have hb := B.bytes
  have hr := B.returns
  have hts := atoms_spec (ws := kp_ws y cc mL ret) B.pre
  have hown : s.vm.findClass y.cls = some m.cls := findClass_of_methodNamed B.named
  have hlocks := B.notSynchronized
  subst hsz
  have hD := hD0.self (sz := s.heap.size)
  have C : kp_Cx p s m (As.map (kp_re ad)).toArray meth c cc y.cls mL ret D cI cZ cR := ⟨hx, hb, hml, hown, fun w hw => hts w (List.mem_cons_of_mem _ hw), hnw, hr, hlocks, hK⟩
  have hDt : ∀ τ, va_D (va_A (kp_w ad cI cZ cR lay σ) s.heap.size) (kp_w ad cI cZ cR lay τ) := fun τ => kp_w_D τ hD
  have hA : ∀ q : Nat, s.heap.size ≤ q → va_A (kp_w ad cI cZ cR lay σ) s.heap.size q := fun q h => Or.inr h
  have hQ : ∀ (r : Int32) (τ : Sg) (H : Heap) (locs : List Loc) (t : State), post As σ r τ → (ret = none → r = nI 0) → va_P D vwCl (kp_w ad cI cZ cR lay τ) H → va_S (va_A (kp_w ad cI cZ cR lay σ) s.heap.size) s.heap H locs → t.heap = H → kp_Q lay ret post D cI cZ cR ad s.heap.size As σ (As.map (kp_re ad)).toArray s (.returned (kp_rv ret r)) t :=
    fun r τ H locs t h1 h2 h3 h4 h5 => ⟨⟨r, τ, rfl, ⟨h2, h1⟩, by rw [h5]; exact h3⟩, h4.F h5⟩
  have hJ := kp_L_sound (l := l) (e := e) (below := below) C rfl hms hgl hpl hDt hA hQ hok (hloop As σ hpre)
  obtain ⟨e0, r0, q1, q2⟩ := kp_T_sound (l := l) (e := e) (below := below) C rfl hms hgl hpl hDt hA hQ hok (fun pc ls st τ ⟨n, q⟩ => hJ n pc ls st τ q) N tab _ [] σ (List.suffix_refl _) hT
  have he0 : e0.1 = 0 := by rw [q1] at h0; simpa using h0
  rw [he0] at q2
  rw [lg_entry_eq]
  exact q2 (by simp [kp_en]; omega) s.heap [] _ hP va_S.rf (kp_entry_lh hc1 hlen)
end
section
/-! the code of each method as a table; fields and calls by their pool numbers; all checked by the kernel -/
def kp_okG1 (own : String) (q : Fe) (w : Cond) : Bool := match vwCl[q.2.1]? with
  | some (_, T, N) => decide (q.2.2.1 < N) && (decide (w = .fieldLink own q.1 (T q.2.2.1).1 (T q.2.2.1).2.1 (T q.2.2.1).2.2.1) || decide (w = .fieldLinkNest own q.1 (T q.2.2.1).1 (T q.2.2.1).2.1 (T q.2.2.1).2.2.1 "KeyPlan"))
  | none => false
def kp_okP1 (q : Fe) : Bool := match vwCl[q.2.1]? with
  | some (_, T, _) => decide ((T q.2.2.1).2.2.2 = false) && decide (parseFieldDescriptor (T q.2.2.1).2.2.1 = some (if q.2.2.2 = true then .boolean else .int))
  | none => false
def kp_okGs (own : String) : List Fe → List Nat → Bool
  | [], _ => true
  | _ :: _, [] => false
  | q :: r, i :: js => (match lw_tbl[i]? with
    | some w => kp_okG1 own q w
    | none => false) && kp_okGs own r js
theorem kp_okG1_spec {own : String} {q : Fe} {w : Cond} (hw : w ∈ lw_tbl) (h : kp_okG1 own q w = true) : kp_okG own q := by
  unfold kp_okG1 at h
  split at h
  · rename_i C T N hc
    obtain ⟨h1, h2⟩ := kp_and2 h
    refine ⟨C, T, N, hc, of_decide_eq_true h1, ?_⟩
    rw [Bool.or_eq_true] at h2
    rcases h2 with h2 | h2
    · have e := of_decide_eq_true h2
      rw [e] at hw
      exact Or.inl (List.mem_filter.mpr ⟨hw, rfl⟩)
    · have e := of_decide_eq_true h2
      rw [e] at hw
      exact Or.inr ⟨_, List.mem_filter.mpr ⟨hw, rfl⟩⟩
  · cases h
theorem kp_okGs_spec {own : String} : ∀ (gl : List Fe) (js : List Nat), kp_okGs own gl js = true → ∀ q ∈ gl, kp_okG own q
  | [], _, _, _, hq => absurd hq List.not_mem_nil
  | _ :: _, [], h, _, _ => by cases h
  | q0 :: r, i :: js, h, q, hq => by
    obtain ⟨h1, h2⟩ := kp_and2 h
    rcases List.mem_cons.mp hq with rfl | hq
    · split at h1
      · rename_i w hi
        exact kp_okG1_spec (List.mem_of_getElem? hi) h1
      · cases h1
    · exact kp_okGs_spec r js h2 q hq
theorem kp_okPs_spec {own : String} {pl : List Fe} (hg : ∀ q ∈ pl, kp_okG own q) (h : pl.all kp_okP1 = true) : ∀ q ∈ pl, kp_okP own q := by
  intro q hq
  obtain ⟨C, T, N, h1, h2, h3⟩ := hg q hq
  have h4 := List.all_eq_true.mp h q hq
  unfold kp_okP1 at h4
  rw [h1] at h4
  obtain ⟨h5, h6⟩ := kp_and2 h4
  exact ⟨C, T, N, h1, h2, h3, of_decide_eq_true h5, of_decide_eq_true h6⟩
def kp_lnkb (own : String) (idx kind ci n : Nat) (y : MethodName) (cc : ByteArray) (mL : Nat) (ret : Option FieldType) (ic ii il i1 i2 : Nat) : Bool :=
  decide (y.cls ≠ "java/lang/invoke/MethodHandle" ∧ y.cls ≠ "java/lang/invoke/VarHandle" ∧ (parseMethodDescriptor y.desc).map (fun d => d.parameters.length) = some n) && decide (lw_tbl[ic]? = some (.code y cc mL ret)) && decide (lw_tbl[ii]? = some (.initialized y.cls)) &&
  (match kind with
  | 0 => decide (lw_tbl[il]? = some (.methodLink own idx y)) && decide (lw_tbl[i1]? = some (.instanceMethod y)) && decide (lw_tbl[i2]? = some (.selects y.cls y y)) && decide ((vwCl[ci]?).map (fun q => q.1) = some y.cls)
  | 1 => decide (lw_tbl[il]? = some (.methodLink own idx y)) && decide (lw_tbl[i1]? = some (.static y))
  | _ => decide (kind = 2) && decide (lw_tbl[il]? = some (.methodLinkNest own idx y "KeyPlan")) && decide (lw_tbl[i1]? = some (.static y)))
theorem kp_gw {i : Nat} {w : Cond} (h : decide (lw_tbl[i]? = some w) = true) (hg : goodWord w = true) : w ∈ kp_tb := List.mem_filter.mpr ⟨List.mem_of_getElem? (of_decide_eq_true h), hg⟩
theorem kp_lnk_of {own : String} {idx kind ci n : Nat} {y : MethodName} {cc : ByteArray} {mL : Nat} {ret : Option FieldType} (ic ii il i1 i2 : Nat) (h : kp_lnkb own idx kind ci n y cc mL ret ic ii il i1 i2 = true) : kp_lnk own idx kind ci n y cc mL ret := by
  unfold kp_lnkb at h
  obtain ⟨h, h4⟩ := kp_and2 h
  obtain ⟨h, h3⟩ := kp_and2 h
  obtain ⟨h1, h2⟩ := kp_and2 h
  refine ⟨of_decide_eq_true h1, kp_gw h2 rfl, kp_gw h3 rfl, ?_⟩
  split at h4
  · obtain ⟨h4, h8⟩ := kp_and2 h4
    obtain ⟨h4, h7⟩ := kp_and2 h4
    obtain ⟨h5, h6⟩ := kp_and2 h4
    exact Or.inl ⟨rfl, kp_gw h5 rfl, kp_gw h6 rfl, kp_gw h7 rfl, of_decide_eq_true h8⟩
  · obtain ⟨h5, h6⟩ := kp_and2 h4
    exact Or.inr (Or.inl ⟨rfl, kp_gw h5 rfl, kp_gw h6 rfl⟩)
  · obtain ⟨h4, h6⟩ := kp_and2 h4
    obtain ⟨h5, h7⟩ := kp_and2 h4
    exact Or.inr (Or.inr ⟨of_decide_eq_true h5, ⟨_, List.mem_filter.mpr ⟨List.mem_of_getElem? (of_decide_eq_true h7), rfl⟩⟩, kp_gw h6 rfl⟩)
def tb_X0_forget : List Ent := [(0, .aload_n 0, 1, false, 0), (1, .iconst 0, 1, false, nI 0), (2, .putfield 28, 3, false, 0), (5, .return_, 1, false, 0)]
set_option maxRecDepth 100000 in
theorem tk_X0_forget : kp_ok cX0_forget RX0 tb_X0_forget = true := by decide +kernel
def tb_X0_empty : List Ent := [(0, .aload_n 0, 1, false, 0), (1, .iconst 0, 1, false, nI 0), (2, .putfield 18, 3, false, 0), (5, .aload_n 0, 1, false, 0), (6, .iconst 0, 1, false, nI 0), (7, .putfield 25, 3, false, 0), (10, .aload_n 0, 1, false, 0), (11, .invokevirtual 53, 3, false, 0), (14, .return_, 1, false, 0)]
set_option maxRecDepth 100000 in
theorem tk_X0_empty : kp_ok cX0_empty RX0 tb_X0_empty = true := by decide +kernel
def tb_X0_addWanted : List Ent := [(0, .aload_n 0, 1, false, 0), (1, .getfield 18, 3, false, 0), (4, .bipush 6, 2, false, nI 6), (6, .if_icmp .ge 18, 3, false, 0), (9, .aload_n 0, 1, false, 0), (10, .getfield 9, 3, false, 0), (13, .aload_n 0, 1, false, 0), (14, .getfield 18, 3, false, 0), (17, .iload_n 1, 1, false, 0), (18, .invokestatic 56, 3, false, 0), (21, .ifCond .eq 5, 3, false, 0), (24, .iconst (-1), 1, false, (-1)), (25, .ireturn, 1, false, 0), (26, .aload_n 0, 1, false, 0), (27, .getfield 9, 3, false, 0), (30, .aload_n 0, 1, false, 0), (31, .getfield 18, 3, false, 0), (34, .iload_n 1, 1, false, 0), (35, .iastore, 1, false, 0), (36, .aload_n 0, 1, false, 0), (37, .getfield 15, 3, false, 0), (40, .aload_n 0, 1, false, 0), (41, .getfield 18, 3, false, 0), (44, .iload_n 2, 1, false, 0), (45, .iastore, 1, false, 0), (46, .aload_n 0, 1, false, 0), (47, .dup, 1, false, 0), (48, .getfield 18, 3, false, 0), (51, .iconst 1, 1, false, nI 1), (52, .iadd, 1, false, 0), (53, .putfield 18, 3, false, 0), (56, .aload_n 0, 1, false, 0), (57, .invokevirtual 53, 3, false, 0), (60, .aload_n 0, 1, false, 0), (61, .getfield 18, 3, false, 0), (64, .ireturn, 1, false, 0)]
set_option maxRecDepth 100000 in
theorem tk_X0_addWanted : kp_ok cX0_addWanted RX0 tb_X0_addWanted = true := by decide +kernel
def tb_X0_addOffered : List Ent := [(0, .aload_n 0, 1, false, 0), (1, .getfield 25, 3, false, 0), (4, .bipush 8, 2, false, nI 8), (6, .if_icmp .ge 18, 3, false, 0), (9, .aload_n 0, 1, false, 0), (10, .getfield 22, 3, false, 0), (13, .aload_n 0, 1, false, 0), (14, .getfield 25, 3, false, 0), (17, .iload_n 1, 1, false, 0), (18, .invokestatic 56, 3, false, 0), (21, .ifCond .eq 5, 3, false, 0), (24, .iconst (-1), 1, false, (-1)), (25, .ireturn, 1, false, 0), (26, .aload_n 0, 1, false, 0), (27, .getfield 22, 3, false, 0), (30, .aload_n 0, 1, false, 0), (31, .getfield 25, 3, false, 0), (34, .iload_n 1, 1, false, 0), (35, .iastore, 1, false, 0), (36, .aload_n 0, 1, false, 0), (37, .dup, 1, false, 0), (38, .getfield 25, 3, false, 0), (41, .iconst 1, 1, false, nI 1), (42, .iadd, 1, false, 0), (43, .putfield 25, 3, false, 0), (46, .aload_n 0, 1, false, 0), (47, .invokevirtual 53, 3, false, 0), (50, .aload_n 0, 1, false, 0), (51, .getfield 25, 3, false, 0), (54, .ireturn, 1, false, 0)]
set_option maxRecDepth 100000 in
theorem tk_X0_addOffered : kp_ok cX0_addOffered RX0 tb_X0_addOffered = true := by decide +kernel
def tb_X0_isAmong : List Ent := [(0, .iconst 0, 1, false, nI 0), (1, .istore_n 3, 1, false, 0), (2, .iload_n 3, 1, true, 0), (3, .iload_n 1, 1, false, 0), (4, .if_icmp .ge 18, 3, false, 0), (7, .aload_n 0, 1, false, 0), (8, .iload_n 3, 1, false, 0), (9, .iaload, 1, false, 0), (10, .iload_n 2, 1, false, 0), (11, .if_icmp .ne 5, 3, false, 0), (14, .iconst 1, 1, false, nI 1), (15, .ireturn, 1, false, 0), (16, .iinc 3 1, 3, false, nI 1), (19, .goto (-17), 3, false, 0), (22, .iconst 0, 1, false, nI 0), (23, .ireturn, 1, false, 0)]
set_option maxRecDepth 100000 in
theorem tk_X0_isAmong : kp_ok cX0_isAmong RX0 tb_X0_isAmong = true := by decide +kernel
def tb_X0_solve : List Ent := [(0, .aload_n 0, 1, false, 0), (1, .getfield 28, 3, false, 0), (4, .ifCond .eq 4, 3, false, 0), (7, .return_, 1, false, 0), (8, .aload_n 0, 1, false, 0), (9, .aload_n 1, 1, false, 0), (10, .aload_n 2, 1, false, 0), (11, .invokevirtual 60, 3, false, 0), (14, .aload_n 0, 1, false, 0), (15, .iconst (-1), 1, false, (-1)), (16, .putfield 32, 3, false, 0), (19, .aload_n 0, 1, false, 0), (20, .iconst 0, 1, false, nI 0), (21, .iconst 0, 1, false, nI 0), (22, .invokevirtual 64, 3, false, 0), (25, .aload_n 0, 1, false, 0), (26, .iconst 1, 1, false, nI 1), (27, .putfield 28, 3, false, 0), (30, .return_, 1, false, 0)]
set_option maxRecDepth 100000 in
theorem tk_X0_solve : kp_ok cX0_solve RX0 tb_X0_solve = true := by decide +kernel
def tb_X0_prepare : List Ent := [(0, .aload_n 0, 1, false, 0), (1, .getfield 46, 3, false, 0), (4, .aload_n 0, 1, false, 0), (5, .getfield 18, 3, false, 0), (8, .iconst 0, 1, false, nI 0), (9, .iastore, 1, false, 0), (10, .aload_n 0, 1, false, 0), (11, .getfield 18, 3, false, 0), (14, .iconst 1, 1, false, nI 1), (15, .isub, 1, false, 0), (16, .istore_n 3, 1, false, 0), (17, .iload_n 3, 1, true, 0), (18, .ifCond .lt 150, 3, false, 0), (21, .iconst 0, 1, false, nI 0), (22, .istore 4, 2, false, 0), (24, .iconst 0, 1, false, nI 0), (25, .istore 5, 2, false, 0), (27, .iload 5, 2, true, 0), (29, .aload_n 0, 1, false, 0), (30, .getfield 25, 3, false, 0), (33, .if_icmp .ge 68, 3, false, 0), (36, .aload_n 0, 1, false, 0), (37, .getfield 43, 3, false, 0), (40, .iload_n 3, 1, false, 0), (41, .aaload, 1, false, 0), (42, .iload 5, 2, false, 0), (44, .aload_n 1, 1, false, 0), (45, .aload_n 0, 1, false, 0), (46, .getfield 9, 3, false, 0), (49, .iload_n 3, 1, false, 0), (50, .iaload, 1, false, 0), (51, .aload_n 0, 1, false, 0), (52, .getfield 22, 3, false, 0), (55, .iload 5, 2, false, 0), (57, .iaload, 1, false, 0), (58, .invokevirtual 68, 3, false, 0), (61, .iastore, 1, false, 0), (62, .iload 5, 2, false, 0), (64, .ifCond .ne 15, 3, false, 0), (67, .aload_n 0, 1, false, 0), (68, .getfield 43, 3, false, 0), (71, .iload_n 3, 1, false, 0), (72, .aaload, 1, false, 0), (73, .iload 5, 2, false, 0), (75, .iaload, 1, false, 0), (76, .goto 17, 3, false, 0), (79, .iload 4, 2, false, 0), (81, .aload_n 0, 1, false, 0), (82, .getfield 43, 3, false, 0), (85, .iload_n 3, 1, false, 0), (86, .aaload, 1, false, 0), (87, .iload 5, 2, false, 0), (89, .iaload, 1, false, 0), (90, .invokestatic 74, 3, false, 0), (93, .istore 4, 2, false, 0), (95, .iinc 5 1, 3, false, nI 1), (98, .goto (-71), 3, false, 0), (101, .aload_n 0, 1, false, 0), (102, .getfield 46, 3, false, 0), (105, .iload_n 3, 1, false, 0), (106, .aload_n 0, 1, false, 0), (107, .getfield 46, 3, false, 0), (110, .iload_n 3, 1, false, 0), (111, .iconst 1, 1, false, nI 1), (112, .iadd, 1, false, 0), (113, .iaload, 1, false, 0), (114, .iload 4, 2, false, 0), (116, .iadd, 1, false, 0), (117, .iastore, 1, false, 0), (118, .iconst 0, 1, false, nI 0), (119, .istore 5, 2, false, 0), (121, .iload 5, 2, true, 0), (123, .iload_n 3, 1, false, 0), (124, .if_icmp .ge 38, 3, false, 0), (127, .aload_n 0, 1, false, 0), (128, .getfield 49, 3, false, 0), (131, .iload_n 3, 1, false, 0), (132, .bipush 6, 2, false, nI 6), (134, .imul, 1, false, 0), (135, .iload 5, 2, false, 0), (137, .iadd, 1, false, 0), (138, .aload_n 2, 1, false, 0), (139, .aload_n 0, 1, false, 0), (140, .getfield 15, 3, false, 0), (143, .iload_n 3, 1, false, 0), (144, .iaload, 1, false, 0), (145, .aload_n 0, 1, false, 0), (146, .getfield 15, 3, false, 0), (149, .iload 5, 2, false, 0), (151, .iaload, 1, false, 0), (152, .invokevirtual 79, 3, false, 0), (155, .bastore, 1, false, 0), (156, .iinc 5 1, 3, false, nI 1), (159, .goto (-38), 3, false, 0), (162, .iinc 3 (-1), 3, false, (-1)), (165, .goto (-148), 3, false, 0), (168, .return_, 1, false, 0)]
set_option maxRecDepth 100000 in
theorem tk_X0_prepare : kp_ok cX0_prepare RX0 tb_X0_prepare = true := by decide +kernel
def tb_X0_giveFrom : List Ent := [(0, .iload_n 1, 1, false, 0), (1, .aload_n 0, 1, false, 0), (2, .getfield 18, 3, false, 0), (5, .if_icmp .lt 9, 3, false, 0), (8, .aload_n 0, 1, false, 0), (9, .iload_n 2, 1, false, 0), (10, .invokevirtual 85, 3, false, 0), (13, .return_, 1, false, 0), (14, .iconst 0, 1, false, nI 0), (15, .istore_n 3, 1, false, 0), (16, .iload_n 3, 1, true, 0), (17, .aload_n 0, 1, false, 0), (18, .getfield 25, 3, false, 0), (21, .if_icmp .ge 84, 3, false, 0), (24, .iload_n 2, 1, false, 0), (25, .aload_n 0, 1, false, 0), (26, .getfield 43, 3, false, 0), (29, .iload_n 1, 1, false, 0), (30, .aaload, 1, false, 0), (31, .iload_n 3, 1, false, 0), (32, .iaload, 1, false, 0), (33, .iadd, 1, false, 0), (34, .istore 4, 2, false, 0), (36, .aload_n 0, 1, false, 0), (37, .getfield 32, 3, false, 0), (40, .iconst (-1), 1, false, (-1)), (41, .if_icmp .eq 21, 3, false, 0), (44, .iload 4, 2, false, 0), (46, .aload_n 0, 1, false, 0), (47, .getfield 46, 3, false, 0), (50, .iload_n 1, 1, false, 0), (51, .iconst 1, 1, false, nI 1), (52, .iadd, 1, false, 0), (53, .iaload, 1, false, 0), (54, .iadd, 1, false, 0), (55, .aload_n 0, 1, false, 0), (56, .getfield 32, 3, false, 0), (59, .if_icmp .ge 7, 3, false, 0), (62, .iconst 1, 1, false, nI 1), (63, .goto 4, 3, false, 0), (66, .iconst 0, 1, false, nI 0), (67, .istore 5, 2, false, 0), (69, .iload 5, 2, false, 0), (71, .ifCond .eq 28, 3, false, 0), (74, .aload_n 0, 1, false, 0), (75, .iload_n 1, 1, false, 0), (76, .iload_n 3, 1, false, 0), (77, .invokevirtual 89, 3, false, 0), (80, .ifCond .eq 19, 3, false, 0), (83, .aload_n 0, 1, false, 0), (84, .getfield 38, 3, false, 0), (87, .iload_n 1, 1, false, 0), (88, .iload_n 3, 1, false, 0), (89, .iastore, 1, false, 0), (90, .aload_n 0, 1, false, 0), (91, .iload_n 1, 1, false, 0), (92, .iconst 1, 1, false, nI 1), (93, .iadd, 1, false, 0), (94, .iload 4, 2, false, 0), (96, .invokevirtual 64, 3, false, 0), (99, .iinc 3 1, 3, false, nI 1), (102, .goto (-86), 3, false, 0), (105, .return_, 1, false, 0)]
set_option maxRecDepth 100000 in
theorem tk_X0_giveFrom : kp_ok cX0_giveFrom RX0 tb_X0_giveFrom = true := by decide +kernel
def tb_X0_isUntaken : List Ent := [(0, .iconst 0, 1, false, nI 0), (1, .istore_n 3, 1, false, 0), (2, .iload_n 3, 1, true, 0), (3, .iload_n 1, 1, false, 0), (4, .if_icmp .ge 35, 3, false, 0), (7, .aload_n 0, 1, false, 0), (8, .getfield 38, 3, false, 0), (11, .iload_n 3, 1, false, 0), (12, .iaload, 1, false, 0), (13, .iload_n 2, 1, false, 0), (14, .if_icmp .ne 19, 3, false, 0), (17, .aload_n 0, 1, false, 0), (18, .getfield 49, 3, false, 0), (21, .iload_n 1, 1, false, 0), (22, .bipush 6, 2, false, nI 6), (24, .imul, 1, false, 0), (25, .iload_n 3, 1, false, 0), (26, .iadd, 1, false, 0), (27, .baload, 1, false, 0), (28, .ifCond .eq 5, 3, false, 0), (31, .iconst 0, 1, false, nI 0), (32, .ireturn, 1, false, 0), (33, .iinc 3 1, 3, false, nI 1), (36, .goto (-34), 3, false, 0), (39, .iconst 1, 1, false, nI 1), (40, .ireturn, 1, false, 0)]
set_option maxRecDepth 100000 in
theorem tk_X0_isUntaken : kp_ok cX0_isUntaken RX0 tb_X0_isUntaken = true := by decide +kernel
def tb_X0_remember : List Ent := [(0, .aload_n 0, 1, false, 0), (1, .iload_n 1, 1, false, 0), (2, .putfield 32, 3, false, 0), (5, .iconst 0, 1, false, nI 0), (6, .istore_n 2, 1, false, 0), (7, .iload_n 2, 1, true, 0), (8, .aload_n 0, 1, false, 0), (9, .getfield 18, 3, false, 0), (12, .if_icmp .ge 26, 3, false, 0), (15, .aload_n 0, 1, false, 0), (16, .getfield 35, 3, false, 0), (19, .iload_n 2, 1, false, 0), (20, .aload_n 0, 1, false, 0), (21, .getfield 22, 3, false, 0), (24, .aload_n 0, 1, false, 0), (25, .getfield 38, 3, false, 0), (28, .iload_n 2, 1, false, 0), (29, .iaload, 1, false, 0), (30, .iaload, 1, false, 0), (31, .iastore, 1, false, 0), (32, .iinc 2 1, 3, false, nI 1), (35, .goto (-28), 3, false, 0), (38, .return_, 1, false, 0)]
set_option maxRecDepth 100000 in
theorem tk_X0_remember : kp_ok cX0_remember RX0 tb_X0_remember = true := by decide +kernel
def tb_X0_brokenHabits : List Ent := [(0, .iconst 0, 1, false, nI 0), (1, .istore_n 2, 1, false, 0), (2, .iconst 0, 1, false, nI 0), (3, .istore_n 3, 1, false, 0), (4, .iload_n 3, 1, true, 0), (5, .aload_n 0, 1, false, 0), (6, .getfield 18, 3, false, 0), (9, .if_icmp .ge 36, 3, false, 0), (12, .iload_n 2, 1, false, 0), (13, .aload_n 1, 1, false, 0), (14, .aload_n 0, 1, false, 0), (15, .getfield 9, 3, false, 0), (18, .iload_n 3, 1, false, 0), (19, .iaload, 1, false, 0), (20, .aload_n 0, 1, false, 0), (21, .getfield 35, 3, false, 0), (24, .iload_n 3, 1, false, 0), (25, .iaload, 1, false, 0), (26, .invokevirtual 92, 3, false, 0), (29, .ifCond .eq 7, 3, false, 0), (32, .iconst 1, 1, false, nI 1), (33, .goto 4, 3, false, 0), (36, .iconst 0, 1, false, nI 0), (37, .iadd, 1, false, 0), (38, .istore_n 2, 1, false, 0), (39, .iinc 3 1, 3, false, nI 1), (42, .goto (-38), 3, false, 0), (45, .iload_n 2, 1, false, 0), (46, .ireturn, 1, false, 0)]
set_option maxRecDepth 100000 in
theorem tk_X0_brokenHabits : kp_ok cX0_brokenHabits RX0 tb_X0_brokenHabits = true := by decide +kernel
def tb_X0_bestKey : List Ent := [(0, .aload_n 0, 1, false, 0), (1, .getfield 15, 3, false, 0), (4, .iload_n 1, 1, false, 0), (5, .iaload, 1, false, 0), (6, .aload_n 0, 1, false, 0), (7, .getfield 35, 3, false, 0), (10, .iload_n 1, 1, false, 0), (11, .iaload, 1, false, 0), (12, .invokestatic 95, 3, false, 0), (15, .ireturn, 1, false, 0)]
set_option maxRecDepth 100000 in
theorem tk_X0_bestKey : kp_ok cX0_bestKey RX0 tb_X0_bestKey = true := by decide +kernel
def tb_X1_key : List Ent := [(0, .iload_n 0, 1, false, 0), (1, .bipush 24, 2, false, nI 24), (3, .ishl, 1, false, 0), (4, .iload_n 1, 1, false, 0), (5, .ior, 1, false, 0), (6, .ireturn, 1, false, 0)]
set_option maxRecDepth 100000 in
theorem tk_X1_key : kp_ok cX1_key RX1 tb_X1_key = true := by decide +kernel
def tb_X1_contextOf : List Ent := [(0, .iload_n 0, 1, false, 0), (1, .bipush 24, 2, false, nI 24), (3, .iushr, 1, false, 0), (4, .ireturn, 1, false, 0)]
set_option maxRecDepth 100000 in
theorem tk_X1_contextOf : kp_ok cX1_contextOf RX1 tb_X1_contextOf = true := by decide +kernel
def tb_X1_rowOf : List Ent := [(0, .iload_n 0, 1, false, 0), (1, .ldc 22, 2, false, nI 16777215), (3, .iand, 1, false, 0), (4, .ireturn, 1, false, 0)]
set_option maxRecDepth 100000 in
theorem tk_X1_rowOf : kp_ok cX1_rowOf RX1 tb_X1_rowOf = true := by decide +kernel
def tb_X1_place : List Ent := [(0, .iconst 0, 1, false, nI 0), (1, .istore_n 2, 1, false, 0), (2, .aload_n 0, 1, false, 0), (3, .getfield 18, 3, false, 0), (6, .istore_n 3, 1, false, 0), (7, .iconst 0, 1, false, nI 0), (8, .istore 4, 2, false, 0), (10, .iload 4, 2, true, 0), (12, .bipush 120, 2, false, nI 120), (14, .if_icmp .ge 43, 3, false, 0), (17, .iload_n 2, 1, false, 0), (18, .iload_n 3, 1, false, 0), (19, .if_icmp .ge 38, 3, false, 0), (22, .iload_n 2, 1, false, 0), (23, .iload_n 3, 1, false, 0), (24, .iadd, 1, false, 0), (25, .iconst 1, 1, false, nI 1), (26, .iushr, 1, false, 0), (27, .istore 5, 2, false, 0), (29, .aload_n 0, 1, false, 0), (30, .getfield 9, 3, false, 0), (33, .iload 5, 2, false, 0), (35, .iaload, 1, false, 0), (36, .iload_n 1, 1, false, 0), (37, .if_icmp .ge 11, 3, false, 0), (40, .iload 5, 2, false, 0), (42, .iconst 1, 1, false, nI 1), (43, .iadd, 1, false, 0), (44, .istore_n 2, 1, false, 0), (45, .goto 6, 3, false, 0), (48, .iload 5, 2, false, 0), (50, .istore_n 3, 1, false, 0), (51, .iinc 4 1, 3, false, nI 1), (54, .goto (-44), 3, false, 0), (57, .iload_n 2, 1, false, 0), (58, .ireturn, 1, false, 0)]
set_option maxRecDepth 100000 in
theorem tk_X1_place : kp_ok cX1_place RX1 tb_X1_place = true := by decide +kernel
def tb_X1_isAt : List Ent := [(0, .iload_n 1, 1, false, 0), (1, .aload_n 0, 1, false, 0), (2, .getfield 18, 3, false, 0), (5, .if_icmp .ge 17, 3, false, 0), (8, .aload_n 0, 1, false, 0), (9, .getfield 9, 3, false, 0), (12, .iload_n 1, 1, false, 0), (13, .iaload, 1, false, 0), (14, .iload_n 2, 1, false, 0), (15, .if_icmp .ne 7, 3, false, 0), (18, .iconst 1, 1, false, nI 1), (19, .goto 4, 3, false, 0), (22, .iconst 0, 1, false, nI 0), (23, .ireturn, 1, false, 0)]
set_option maxRecDepth 100000 in
theorem tk_X1_isAt : kp_ok cX1_isAt RX1 tb_X1_isAt = true := by decide +kernel
def tb_X1_at : List Ent := [(0, .aload_n 0, 1, false, 0), (1, .iload_n 1, 1, false, 0), (2, .invokevirtual 23, 3, false, 0), (5, .istore_n 2, 1, false, 0), (6, .aload_n 0, 1, false, 0), (7, .iload_n 2, 1, false, 0), (8, .iload_n 1, 1, false, 0), (9, .invokevirtual 27, 3, false, 0), (12, .ifCond .eq 12, 3, false, 0), (15, .aload_n 0, 1, false, 0), (16, .getfield 15, 3, false, 0), (19, .iload_n 2, 1, false, 0), (20, .iaload, 1, false, 0), (21, .goto 4, 3, false, 0), (24, .iconst (-1), 1, false, (-1)), (25, .ireturn, 1, false, 0)]
set_option maxRecDepth 100000 in
theorem tk_X1_at : kp_ok cX1_at RX1 tb_X1_at = true := by decide +kernel
def tb_X1_put : List Ent := [(0, .aload_n 0, 1, false, 0), (1, .iload_n 1, 1, false, 0), (2, .invokevirtual 23, 3, false, 0), (5, .istore_n 3, 1, false, 0), (6, .aload_n 0, 1, false, 0), (7, .iload_n 3, 1, false, 0), (8, .iload_n 1, 1, false, 0), (9, .invokevirtual 27, 3, false, 0), (12, .istore 4, 2, false, 0), (14, .iload_n 2, 1, false, 0), (15, .iconst (-1), 1, false, (-1)), (16, .if_icmp .ne 14, 3, false, 0), (19, .iload 4, 2, false, 0), (21, .ifCond .eq 8, 3, false, 0), (24, .aload_n 0, 1, false, 0), (25, .iload_n 3, 1, false, 0), (26, .invokevirtual 31, 3, false, 0), (29, .return_, 1, false, 0), (30, .iload 4, 2, false, 0), (32, .ifCond .ne 25, 3, false, 0), (35, .aload_n 0, 1, false, 0), (36, .getfield 18, 3, false, 0), (39, .bipush 120, 2, false, nI 120), (41, .if_icmp .lt 4, 3, false, 0), (44, .return_, 1, false, 0), (45, .aload_n 0, 1, false, 0), (46, .iload_n 3, 1, false, 0), (47, .invokevirtual 35, 3, false, 0), (50, .aload_n 0, 1, false, 0), (51, .getfield 9, 3, false, 0), (54, .iload_n 3, 1, false, 0), (55, .iload_n 1, 1, false, 0), (56, .iastore, 1, false, 0), (57, .aload_n 0, 1, false, 0), (58, .getfield 15, 3, false, 0), (61, .iload_n 3, 1, false, 0), (62, .iload_n 2, 1, false, 0), (63, .iastore, 1, false, 0), (64, .return_, 1, false, 0)]
set_option maxRecDepth 100000 in
theorem tk_X1_put : kp_ok cX1_put RX1 tb_X1_put = true := by decide +kernel
def tb_X1_openGap : List Ent := [(0, .aload_n 0, 1, false, 0), (1, .getfield 18, 3, false, 0), (4, .istore_n 2, 1, false, 0), (5, .iload_n 2, 1, true, 0), (6, .iload_n 1, 1, false, 0), (7, .if_icmp .le 37, 3, false, 0), (10, .aload_n 0, 1, false, 0), (11, .getfield 9, 3, false, 0), (14, .iload_n 2, 1, false, 0), (15, .aload_n 0, 1, false, 0), (16, .getfield 9, 3, false, 0), (19, .iload_n 2, 1, false, 0), (20, .iconst 1, 1, false, nI 1), (21, .isub, 1, false, 0), (22, .iaload, 1, false, 0), (23, .iastore, 1, false, 0), (24, .aload_n 0, 1, false, 0), (25, .getfield 15, 3, false, 0), (28, .iload_n 2, 1, false, 0), (29, .aload_n 0, 1, false, 0), (30, .getfield 15, 3, false, 0), (33, .iload_n 2, 1, false, 0), (34, .iconst 1, 1, false, nI 1), (35, .isub, 1, false, 0), (36, .iaload, 1, false, 0), (37, .iastore, 1, false, 0), (38, .iinc 2 (-1), 3, false, (-1)), (41, .goto (-36), 3, false, 0), (44, .aload_n 0, 1, false, 0), (45, .dup, 1, false, 0), (46, .getfield 18, 3, false, 0), (49, .iconst 1, 1, false, nI 1), (50, .iadd, 1, false, 0), (51, .putfield 18, 3, false, 0), (54, .return_, 1, false, 0)]
set_option maxRecDepth 100000 in
theorem tk_X1_openGap : kp_ok cX1_openGap RX1 tb_X1_openGap = true := by decide +kernel
def tb_X1_closeGap : List Ent := [(0, .aload_n 0, 1, false, 0), (1, .dup, 1, false, 0), (2, .getfield 18, 3, false, 0), (5, .iconst 1, 1, false, nI 1), (6, .isub, 1, false, 0), (7, .putfield 18, 3, false, 0), (10, .iload_n 1, 1, false, 0), (11, .istore_n 2, 1, false, 0), (12, .iload_n 2, 1, true, 0), (13, .aload_n 0, 1, false, 0), (14, .getfield 18, 3, false, 0), (17, .if_icmp .ge 37, 3, false, 0), (20, .aload_n 0, 1, false, 0), (21, .getfield 9, 3, false, 0), (24, .iload_n 2, 1, false, 0), (25, .aload_n 0, 1, false, 0), (26, .getfield 9, 3, false, 0), (29, .iload_n 2, 1, false, 0), (30, .iconst 1, 1, false, nI 1), (31, .iadd, 1, false, 0), (32, .iaload, 1, false, 0), (33, .iastore, 1, false, 0), (34, .aload_n 0, 1, false, 0), (35, .getfield 15, 3, false, 0), (38, .iload_n 2, 1, false, 0), (39, .aload_n 0, 1, false, 0), (40, .getfield 15, 3, false, 0), (43, .iload_n 2, 1, false, 0), (44, .iconst 1, 1, false, nI 1), (45, .iadd, 1, false, 0), (46, .iaload, 1, false, 0), (47, .iastore, 1, false, 0), (48, .iinc 2 1, 3, false, nI 1), (51, .goto (-39), 3, false, 0), (54, .return_, 1, false, 0)]
set_option maxRecDepth 100000 in
theorem tk_X1_closeGap : kp_ok cX1_closeGap RX1 tb_X1_closeGap = true := by decide +kernel
def tb_X1_copyFrom : List Ent := [(0, .iconst 0, 1, false, nI 0), (1, .istore_n 2, 1, false, 0), (2, .iload_n 2, 1, true, 0), (3, .aload_n 1, 1, false, 0), (4, .getfield 18, 3, false, 0), (7, .if_icmp .ge 33, 3, false, 0), (10, .aload_n 0, 1, false, 0), (11, .getfield 9, 3, false, 0), (14, .iload_n 2, 1, false, 0), (15, .aload_n 1, 1, false, 0), (16, .getfield 9, 3, false, 0), (19, .iload_n 2, 1, false, 0), (20, .iaload, 1, false, 0), (21, .iastore, 1, false, 0), (22, .aload_n 0, 1, false, 0), (23, .getfield 15, 3, false, 0), (26, .iload_n 2, 1, false, 0), (27, .aload_n 1, 1, false, 0), (28, .getfield 15, 3, false, 0), (31, .iload_n 2, 1, false, 0), (32, .iaload, 1, false, 0), (33, .iastore, 1, false, 0), (34, .iinc 2 1, 3, false, nI 1), (37, .goto (-35), 3, false, 0), (40, .aload_n 0, 1, false, 0), (41, .aload_n 1, 1, false, 0), (42, .getfield 18, 3, false, 0), (45, .putfield 18, 3, false, 0), (48, .return_, 1, false, 0)]
set_option maxRecDepth 100000 in
theorem tk_X1_copyFrom : kp_ok cX1_copyFrom RX1 tb_X1_copyFrom = true := by decide +kernel
def tb_X1_differences : List Ent := [(0, .iconst 0, 1, false, nI 0), (1, .istore_n 3, 1, false, 0), (2, .iconst 0, 1, false, nI 0), (3, .istore 4, 2, false, 0), (5, .iconst 0, 1, false, nI 0), (6, .istore 5, 2, false, 0), (8, .aload_n 0, 1, false, 0), (9, .getfield 18, 3, false, 0), (12, .aload_n 1, 1, false, 0), (13, .getfield 18, 3, false, 0), (16, .iadd, 1, false, 0), (17, .istore 6, 2, false, 0), (19, .iconst 0, 1, false, nI 0), (20, .istore 7, 2, false, 0), (22, .iload 7, 2, true, 0), (24, .iload 6, 2, false, 0), (26, .if_icmp .ge 214, 3, false, 0), (29, .iload 4, 2, false, 0), (31, .aload_n 0, 1, false, 0), (32, .getfield 18, 3, false, 0), (35, .if_icmp .lt 12, 3, false, 0), (38, .iload 5, 2, false, 0), (40, .aload_n 1, 1, false, 0), (41, .getfield 18, 3, false, 0), (44, .if_icmp .ge 196, 3, false, 0), (47, .iload 4, 2, false, 0), (49, .aload_n 0, 1, false, 0), (50, .getfield 18, 3, false, 0), (53, .if_icmp .ge 33, 3, false, 0), (56, .iload 5, 2, false, 0), (58, .aload_n 1, 1, false, 0), (59, .getfield 18, 3, false, 0), (62, .if_icmp .ge 20, 3, false, 0), (65, .aload_n 0, 1, false, 0), (66, .getfield 9, 3, false, 0), (69, .iload 4, 2, false, 0), (71, .iaload, 1, false, 0), (72, .aload_n 1, 1, false, 0), (73, .getfield 9, 3, false, 0), (76, .iload 5, 2, false, 0), (78, .iaload, 1, false, 0), (79, .if_icmp .gt 7, 3, false, 0), (82, .iconst 1, 1, false, nI 1), (83, .goto 4, 3, false, 0), (86, .iconst 0, 1, false, nI 0), (87, .istore 8, 2, false, 0), (89, .iload 5, 2, false, 0), (91, .aload_n 1, 1, false, 0), (92, .getfield 18, 3, false, 0), (95, .if_icmp .ge 33, 3, false, 0), (98, .iload 4, 2, false, 0), (100, .aload_n 0, 1, false, 0), (101, .getfield 18, 3, false, 0), (104, .if_icmp .ge 20, 3, false, 0), (107, .aload_n 1, 1, false, 0), (108, .getfield 9, 3, false, 0), (111, .iload 5, 2, false, 0), (113, .iaload, 1, false, 0), (114, .aload_n 0, 1, false, 0), (115, .getfield 9, 3, false, 0), (118, .iload 4, 2, false, 0), (120, .iaload, 1, false, 0), (121, .if_icmp .gt 7, 3, false, 0), (124, .iconst 1, 1, false, nI 1), (125, .goto 4, 3, false, 0), (128, .iconst 0, 1, false, nI 0), (129, .istore 9, 2, false, 0), (131, .iload 8, 2, false, 0), (133, .ifCond .eq 29, 3, false, 0), (136, .iload 9, 2, false, 0), (138, .ifCond .eq 24, 3, false, 0), (141, .aload_n 0, 1, false, 0), (142, .getfield 15, 3, false, 0), (145, .iload 4, 2, false, 0), (147, .iaload, 1, false, 0), (148, .aload_n 1, 1, false, 0), (149, .getfield 15, 3, false, 0), (152, .iload 5, 2, false, 0), (154, .iaload, 1, false, 0), (155, .if_icmp .ne 7, 3, false, 0), (158, .iconst 1, 1, false, nI 1), (159, .goto 4, 3, false, 0), (162, .iconst 0, 1, false, nI 0), (163, .istore 10, 2, false, 0), (165, .iload 10, 2, false, 0), (167, .ifCond .ne 37, 3, false, 0), (170, .iload_n 3, 1, false, 0), (171, .aload_n 2, 1, false, 0), (172, .arraylength, 1, false, 0), (173, .if_icmp .ge 31, 3, false, 0), (176, .aload_n 2, 1, false, 0), (177, .iload_n 3, 1, false, 0), (178, .iload 8, 2, false, 0), (180, .ifCond .eq 13, 3, false, 0), (183, .aload_n 0, 1, false, 0), (184, .getfield 9, 3, false, 0), (187, .iload 4, 2, false, 0), (189, .iaload, 1, false, 0), (190, .goto 10, 3, false, 0), (193, .aload_n 1, 1, false, 0), (194, .getfield 9, 3, false, 0), (197, .iload 5, 2, false, 0), (199, .iaload, 1, false, 0), (200, .iastore, 1, false, 0), (201, .iinc 3 1, 3, false, nI 1), (204, .iload 4, 2, false, 0), (206, .iload 8, 2, false, 0), (208, .ifCond .eq 7, 3, false, 0), (211, .iconst 1, 1, false, nI 1), (212, .goto 4, 3, false, 0), (215, .iconst 0, 1, false, nI 0), (216, .iadd, 1, false, 0), (217, .istore 4, 2, false, 0), (219, .iload 5, 2, false, 0), (221, .iload 9, 2, false, 0), (223, .ifCond .eq 7, 3, false, 0), (226, .iconst 1, 1, false, nI 1), (227, .goto 4, 3, false, 0), (230, .iconst 0, 1, false, nI 0), (231, .iadd, 1, false, 0), (232, .istore 5, 2, false, 0), (234, .iinc 7 1, 3, false, nI 1), (237, .goto (-215), 3, false, 0), (240, .iload_n 3, 1, false, 0), (241, .ireturn, 1, false, 0)]
set_option maxRecDepth 100000 in
theorem tk_X1_differences : kp_ok cX1_differences RX1 tb_X1_differences = true := by decide +kernel
def tb_X2_hold : List Ent := [(0, .iload_n 1, 1, false, 0), (1, .ifCond .lt 15, 3, false, 0), (4, .iload_n 1, 1, false, 0), (5, .aload_n 0, 1, false, 0), (6, .getfield 15, 3, false, 0), (9, .if_icmp .ge 7, 3, false, 0), (12, .iconst 1, 1, false, nI 1), (13, .goto 4, 3, false, 0), (16, .iconst 0, 1, false, nI 0), (17, .ireturn, 1, false, 0)]
set_option maxRecDepth 100000 in
theorem tk_X2_hold : kp_ok cX2_hold RX2 tb_X2_hold = true := by decide +kernel
def tb_X2_add : List Ent := [(0, .aload_n 0, 1, false, 0), (1, .iload_n 1, 1, false, 0), (2, .invokevirtual 19, 3, false, 0), (5, .ifCond .eq 12, 3, false, 0), (8, .aload_n 0, 1, false, 0), (9, .getfield 15, 3, false, 0), (12, .bipush 12, 2, false, nI 12), (14, .if_icmp .lt 5, 3, false, 0), (17, .iconst (-1), 1, false, (-1)), (18, .ireturn, 1, false, 0), (19, .aload_n 0, 1, false, 0), (20, .getfield 9, 3, false, 0), (23, .aload_n 0, 1, false, 0), (24, .getfield 15, 3, false, 0), (27, .iload_n 1, 1, false, 0), (28, .iastore, 1, false, 0), (29, .aload_n 0, 1, false, 0), (30, .dup, 1, false, 0), (31, .getfield 15, 3, false, 0), (34, .iconst 1, 1, false, nI 1), (35, .iadd, 1, false, 0), (36, .putfield 15, 3, false, 0), (39, .aload_n 0, 1, false, 0), (40, .getfield 15, 3, false, 0), (43, .iconst 1, 1, false, nI 1), (44, .isub, 1, false, 0), (45, .ireturn, 1, false, 0)]
set_option maxRecDepth 100000 in
theorem tk_X2_add : kp_ok cX2_add RX2 tb_X2_add = true := by decide +kernel
def tb_X2_outsideOf : List Ent := [(0, .aload_n 0, 1, false, 0), (1, .iload_n 1, 1, false, 0), (2, .invokevirtual 19, 3, false, 0), (5, .ifCond .eq 12, 3, false, 0), (8, .aload_n 0, 1, false, 0), (9, .getfield 9, 3, false, 0), (12, .iload_n 1, 1, false, 0), (13, .iaload, 1, false, 0), (14, .goto 4, 3, false, 0), (17, .iconst (-1), 1, false, (-1)), (18, .ireturn, 1, false, 0)]
set_option maxRecDepth 100000 in
theorem tk_X2_outsideOf : kp_ok cX2_outsideOf RX2 tb_X2_outsideOf = true := by decide +kernel
def tb_X2_meet : List Ent := [(0, .aload_n 0, 1, false, 0), (1, .iload_n 1, 1, false, 0), (2, .iload_n 2, 1, false, 0), (3, .invokevirtual 23, 3, false, 0), (6, .ifCond .ne 12, 3, false, 0), (9, .aload_n 0, 1, false, 0), (10, .iload_n 2, 1, false, 0), (11, .iload_n 1, 1, false, 0), (12, .invokevirtual 23, 3, false, 0), (15, .ifCond .eq 7, 3, false, 0), (18, .iconst 1, 1, false, nI 1), (19, .goto 4, 3, false, 0), (22, .iconst 0, 1, false, nI 0), (23, .ireturn, 1, false, 0)]
set_option maxRecDepth 100000 in
theorem tk_X2_meet : kp_ok cX2_meet RX2 tb_X2_meet = true := by decide +kernel
def tb_X2_isWithin : List Ent := [(0, .iload_n 1, 1, false, 0), (1, .istore_n 3, 1, false, 0), (2, .iconst 0, 1, false, nI 0), (3, .istore 4, 2, false, 0), (5, .iload 4, 2, true, 0), (7, .bipush 12, 2, false, nI 12), (9, .if_icmp .ge 27, 3, false, 0), (12, .iload_n 3, 1, false, 0), (13, .iconst (-1), 1, false, (-1)), (14, .if_icmp .eq 22, 3, false, 0), (17, .iload_n 3, 1, false, 0), (18, .iload_n 2, 1, false, 0), (19, .if_icmp .ne 5, 3, false, 0), (22, .iconst 1, 1, false, nI 1), (23, .ireturn, 1, false, 0), (24, .aload_n 0, 1, false, 0), (25, .iload_n 3, 1, false, 0), (26, .invokevirtual 27, 3, false, 0), (29, .istore_n 3, 1, false, 0), (30, .iinc 4 1, 3, false, nI 1), (33, .goto (-28), 3, false, 0), (36, .iconst 0, 1, false, nI 0), (37, .ireturn, 1, false, 0)]
set_option maxRecDepth 100000 in
theorem tk_X2_isWithin : kp_ok cX2_isWithin RX2 tb_X2_isWithin = true := by decide +kernel
def tb_X3_breaksHabit : List Ent := [(0, .aload_n 0, 1, false, 0), (1, .getfield 18, 3, false, 0), (4, .iload_n 1, 1, false, 0), (5, .iaload, 1, false, 0), (6, .ifCond .eq 17, 3, false, 0), (9, .aload_n 0, 1, false, 0), (10, .getfield 18, 3, false, 0), (13, .iload_n 1, 1, false, 0), (14, .iaload, 1, false, 0), (15, .iload_n 2, 1, false, 0), (16, .if_icmp .eq 7, 3, false, 0), (19, .iconst 1, 1, false, nI 1), (20, .goto 4, 3, false, 0), (23, .iconst 0, 1, false, nI 0), (24, .ireturn, 1, false, 0)]
set_option maxRecDepth 100000 in
theorem tk_X3_breaksHabit : kp_ok cX3_breaksHabit RX3 tb_X3_breaksHabit = true := by decide +kernel
def tb_X3_price : List Ent := [(0, .aload_n 0, 1, false, 0), (1, .iload_n 1, 1, false, 0), (2, .iload_n 2, 1, false, 0), (3, .invokevirtual 24, 3, false, 0), (6, .ifCond .eq 12, 3, false, 0), (9, .aload_n 0, 1, false, 0), (10, .getfield 21, 3, false, 0), (13, .iload_n 1, 1, false, 0), (14, .iaload, 1, false, 0), (15, .goto 4, 3, false, 0), (18, .iconst 0, 1, false, nI 0), (19, .istore_n 3, 1, false, 0), (20, .aload_n 0, 1, false, 0), (21, .getfield 15, 3, false, 0), (24, .iload_n 1, 1, false, 0), (25, .iaload, 1, false, 0), (26, .aload_n 0, 1, false, 0), (27, .getfield 9, 3, false, 0), (30, .iload_n 2, 1, false, 0), (31, .iaload, 1, false, 0), (32, .imul, 1, false, 0), (33, .iload_n 3, 1, false, 0), (34, .iadd, 1, false, 0), (35, .ireturn, 1, false, 0)]
set_option maxRecDepth 100000 in
theorem tk_X3_price : kp_ok cX3_price RX3 tb_X3_price = true := by decide +kernel
def tb_X3_rowStretch : List Ent := [(0, .iconst 0, 1, false, nI 0), (1, .istore_n 2, 1, false, 0), (2, .iconst 0, 1, false, nI 0), (3, .istore_n 3, 1, false, 0), (4, .iload_n 3, 1, true, 0), (5, .iload_n 1, 1, false, 0), (6, .invokestatic 28, 3, false, 0), (9, .if_icmp .ge 38, 3, false, 0), (12, .iload_n 1, 1, false, 0), (13, .iload_n 3, 1, false, 0), (14, .invokestatic 34, 3, false, 0), (17, .istore 4, 2, false, 0), (19, .iload_n 2, 1, false, 0), (20, .iload 4, 2, false, 0), (22, .invokestatic 38, 3, false, 0), (25, .ifCond .eq 13, 3, false, 0), (28, .aload_n 0, 1, false, 0), (29, .getfield 9, 3, false, 0), (32, .iload 4, 2, false, 0), (34, .iaload, 1, false, 0), (35, .goto 4, 3, false, 0), (38, .iconst 0, 1, false, nI 0), (39, .iadd, 1, false, 0), (40, .istore_n 2, 1, false, 0), (41, .iinc 3 1, 3, false, nI 1), (44, .goto (-40), 3, false, 0), (47, .iload_n 2, 1, false, 0), (48, .ireturn, 1, false, 0)]
set_option maxRecDepth 100000 in
theorem tk_X3_rowStretch : kp_ok cX3_rowStretch RX3 tb_X3_rowStretch = true := by decide +kernel
def tb_X4_collect : List Ent := [(0, .aload_n 1, 1, false, 0), (1, .iload_n 2, 1, false, 0), (2, .aload_n 0, 1, false, 0), (3, .getfield 9, 3, false, 0), (6, .invokevirtual 25, 3, false, 0), (9, .istore_n 3, 1, false, 0), (10, .aload_n 0, 1, false, 0), (11, .iconst 0, 1, false, nI 0), (12, .putfield 21, 3, false, 0), (15, .iconst 0, 1, false, nI 0), (16, .istore 4, 2, false, 0), (18, .iload 4, 2, true, 0), (20, .iload_n 3, 1, false, 0), (21, .if_icmp .ge 65, 3, false, 0), (24, .iload 4, 2, false, 0), (26, .iconst 1, 1, false, nI 1), (27, .iadd, 1, false, 0), (28, .istore 5, 2, false, 0), (30, .iload 5, 2, true, 0), (32, .iload_n 3, 1, false, 0), (33, .if_icmp .ge 47, 3, false, 0), (36, .aload_n 0, 1, false, 0), (37, .getfield 9, 3, false, 0), (40, .iload 5, 2, false, 0), (42, .iaload, 1, false, 0), (43, .aload_n 0, 1, false, 0), (44, .getfield 9, 3, false, 0), (47, .iload 4, 2, false, 0), (49, .iaload, 1, false, 0), (50, .invokestatic 31, 3, false, 0), (53, .ifCond .eq 21, 3, false, 0), (56, .aload_n 0, 1, false, 0), (57, .aload_n 0, 1, false, 0), (58, .getfield 9, 3, false, 0), (61, .iload 4, 2, false, 0), (63, .iaload, 1, false, 0), (64, .aload_n 0, 1, false, 0), (65, .getfield 9, 3, false, 0), (68, .iload 5, 2, false, 0), (70, .iaload, 1, false, 0), (71, .invokevirtual 37, 3, false, 0), (74, .iinc 5 1, 3, false, nI 1), (77, .goto (-47), 3, false, 0), (80, .iinc 4 1, 3, false, nI 1), (83, .goto (-65), 3, false, 0), (86, .return_, 1, false, 0)]
set_option maxRecDepth 100000 in
theorem tk_X4_collect : kp_ok cX4_collect RX4 tb_X4_collect = true := by decide +kernel
def tb_X4_add : List Ent := [(0, .aload_n 0, 1, false, 0), (1, .getfield 21, 3, false, 0), (4, .aload_n 0, 1, false, 0), (5, .getfield 15, 3, false, 0), (8, .arraylength, 1, false, 0), (9, .if_icmp .ge 33, 3, false, 0), (12, .aload_n 0, 1, false, 0), (13, .getfield 15, 3, false, 0), (16, .aload_n 0, 1, false, 0), (17, .getfield 21, 3, false, 0), (20, .iload_n 1, 1, false, 0), (21, .iastore, 1, false, 0), (22, .aload_n 0, 1, false, 0), (23, .getfield 18, 3, false, 0), (26, .aload_n 0, 1, false, 0), (27, .getfield 21, 3, false, 0), (30, .iload_n 2, 1, false, 0), (31, .iastore, 1, false, 0), (32, .aload_n 0, 1, false, 0), (33, .dup, 1, false, 0), (34, .getfield 21, 3, false, 0), (37, .iconst 1, 1, false, nI 1), (38, .iadd, 1, false, 0), (39, .putfield 21, 3, false, 0), (42, .return_, 1, false, 0)]
set_option maxRecDepth 100000 in
theorem tk_X4_add : kp_ok cX4_add RX4 tb_X4_add = true := by decide +kernel
def tb_X5_meaning : List Ent := [(0, .iload_n 1, 1, false, 0), (1, .istore_n 3, 1, false, 0), (2, .iconst 0, 1, false, nI 0), (3, .istore 4, 2, false, 0), (5, .iload 4, 2, true, 0), (7, .bipush 12, 2, false, nI 12), (9, .if_icmp .ge 57, 3, false, 0), (12, .iload_n 3, 1, false, 0), (13, .iconst (-1), 1, false, (-1)), (14, .if_icmp .eq 52, 3, false, 0), (17, .aload_n 0, 1, false, 0), (18, .getfield 21, 3, false, 0), (21, .iload_n 3, 1, false, 0), (22, .iload_n 2, 1, false, 0), (23, .invokestatic 25, 3, false, 0), (26, .invokevirtual 29, 3, false, 0), (29, .istore 5, 2, false, 0), (31, .iload 5, 2, false, 0), (33, .iconst (-1), 1, false, (-1)), (34, .if_icmp .eq 17, 3, false, 0), (37, .iload 5, 2, false, 0), (39, .bipush 40, 2, false, nI 40), (41, .if_icmp .ne 7, 3, false, 0), (44, .iconst (-1), 1, false, (-1)), (45, .goto 5, 3, false, 0), (48, .iload 5, 2, false, 0), (50, .ireturn, 1, false, 0), (51, .aload_n 0, 1, false, 0), (52, .getfield 12, 3, false, 0), (55, .iload_n 3, 1, false, 0), (56, .invokevirtual 33, 3, false, 0), (59, .istore_n 3, 1, false, 0), (60, .iinc 4 1, 3, false, nI 1), (63, .goto (-58), 3, false, 0), (66, .iconst (-1), 1, false, (-1)), (67, .ireturn, 1, false, 0)]
set_option maxRecDepth 100000 in
theorem tk_X5_meaning : kp_ok cX5_meaning RX5 tb_X5_meaning = true := by decide +kernel
def tb_X5_isLive : List Ent := [(0, .aload_n 0, 1, false, 0), (1, .iload_n 1, 1, false, 0), (2, .iload_n 2, 1, false, 0), (3, .invokevirtual 36, 3, false, 0), (6, .iconst (-1), 1, false, (-1)), (7, .if_icmp .ne 12, 3, false, 0), (10, .aload_n 0, 1, false, 0), (11, .iload_n 1, 1, false, 0), (12, .iload_n 2, 1, false, 0), (13, .invokevirtual 39, 3, false, 0), (16, .ifCond .eq 7, 3, false, 0), (19, .iconst 1, 1, false, nI 1), (20, .goto 4, 3, false, 0), (23, .iconst 0, 1, false, nI 0), (24, .ireturn, 1, false, 0)]
set_option maxRecDepth 100000 in
theorem tk_X5_isLive : kp_ok cX5_isLive RX5 tb_X5_isLive = true := by decide +kernel
def tb_X5_opensLonger : List Ent := [(0, .iconst 0, 1, false, nI 0), (1, .istore_n 3, 1, false, 0), (2, .iload_n 3, 1, true, 0), (3, .aload_n 0, 1, false, 0), (4, .getfield 21, 3, false, 0), (7, .getfield 43, 3, false, 0), (10, .if_icmp .ge 51, 3, false, 0), (13, .aload_n 0, 1, false, 0), (14, .getfield 21, 3, false, 0), (17, .getfield 47, 3, false, 0), (20, .iload_n 3, 1, false, 0), (21, .iaload, 1, false, 0), (22, .invokestatic 51, 3, false, 0), (25, .istore 4, 2, false, 0), (27, .iload 4, 2, false, 0), (29, .iload_n 2, 1, false, 0), (30, .if_icmp .eq 25, 3, false, 0), (33, .iload 4, 2, false, 0), (35, .iload_n 2, 1, false, 0), (36, .invokestatic 54, 3, false, 0), (39, .ifCond .eq 16, 3, false, 0), (42, .aload_n 0, 1, false, 0), (43, .iload_n 1, 1, false, 0), (44, .iload 4, 2, false, 0), (46, .invokevirtual 36, 3, false, 0), (49, .iconst (-1), 1, false, (-1)), (50, .if_icmp .eq 5, 3, false, 0), (53, .iconst 1, 1, false, nI 1), (54, .ireturn, 1, false, 0), (55, .iinc 3 1, 3, false, nI 1), (58, .goto (-56), 3, false, 0), (61, .iconst 0, 1, false, nI 0), (62, .ireturn, 1, false, 0)]
set_option maxRecDepth 100000 in
theorem tk_X5_opensLonger : kp_ok cX5_opensLonger RX5 tb_X5_opensLonger = true := by decide +kernel
def tb_X5_meaningRows : List Ent := [(0, .iconst 0, 1, false, nI 0), (1, .istore_n 3, 1, false, 0), (2, .iconst 0, 1, false, nI 0), (3, .istore 4, 2, false, 0), (5, .iload 4, 2, true, 0), (7, .aload_n 0, 1, false, 0), (8, .getfield 21, 3, false, 0), (11, .getfield 43, 3, false, 0), (14, .if_icmp .ge 43, 3, false, 0), (17, .aload_n 0, 1, false, 0), (18, .getfield 21, 3, false, 0), (21, .getfield 47, 3, false, 0), (24, .iload 4, 2, false, 0), (26, .iaload, 1, false, 0), (27, .invokestatic 51, 3, false, 0), (30, .istore 5, 2, false, 0), (32, .aload_n 0, 1, false, 0), (33, .iload_n 1, 1, false, 0), (34, .iload 5, 2, false, 0), (36, .invokevirtual 36, 3, false, 0), (39, .iconst (-1), 1, false, (-1)), (40, .if_icmp .eq 11, 3, false, 0), (43, .aload_n 2, 1, false, 0), (44, .iload_n 3, 1, false, 0), (45, .iload 5, 2, false, 0), (47, .invokestatic 59, 3, false, 0), (50, .istore_n 3, 1, false, 0), (51, .iinc 4 1, 3, false, nI 1), (54, .goto (-49), 3, false, 0), (57, .iload_n 3, 1, false, 0), (58, .ireturn, 1, false, 0)]
set_option maxRecDepth 100000 in
theorem tk_X5_meaningRows : kp_ok cX5_meaningRows RX5 tb_X5_meaningRows = true := by decide +kernel
def tb_X5_insertOnce : List Ent := [(0, .iconst 0, 1, false, nI 0), (1, .istore_n 3, 1, false, 0), (2, .iload_n 3, 1, true, 0), (3, .iload_n 1, 1, false, 0), (4, .if_icmp .ge 16, 3, false, 0), (7, .aload_n 0, 1, false, 0), (8, .iload_n 3, 1, false, 0), (9, .iaload, 1, false, 0), (10, .iload_n 2, 1, false, 0), (11, .if_icmp .ge 9, 3, false, 0), (14, .iinc 3 1, 3, false, nI 1), (17, .goto (-15), 3, false, 0), (20, .iload_n 3, 1, false, 0), (21, .iload_n 1, 1, false, 0), (22, .if_icmp .ge 14, 3, false, 0), (25, .aload_n 0, 1, false, 0), (26, .iload_n 3, 1, false, 0), (27, .iaload, 1, false, 0), (28, .iload_n 2, 1, false, 0), (29, .if_icmp .ne 7, 3, false, 0), (32, .iconst 1, 1, false, nI 1), (33, .goto 4, 3, false, 0), (36, .iconst 0, 1, false, nI 0), (37, .istore 4, 2, false, 0), (39, .iload 4, 2, false, 0), (41, .ifCond .ne 9, 3, false, 0), (44, .iload_n 1, 1, false, 0), (45, .aload_n 0, 1, false, 0), (46, .arraylength, 1, false, 0), (47, .if_icmp .lt 5, 3, false, 0), (50, .iload_n 1, 1, false, 0), (51, .ireturn, 1, false, 0), (52, .iload_n 1, 1, false, 0), (53, .istore 5, 2, false, 0), (55, .iload 5, 2, true, 0), (57, .iload_n 3, 1, false, 0), (58, .if_icmp .le 19, 3, false, 0), (61, .aload_n 0, 1, false, 0), (62, .iload 5, 2, false, 0), (64, .aload_n 0, 1, false, 0), (65, .iload 5, 2, false, 0), (67, .iconst 1, 1, false, nI 1), (68, .isub, 1, false, 0), (69, .iaload, 1, false, 0), (70, .iastore, 1, false, 0), (71, .iinc 5 (-1), 3, false, (-1)), (74, .goto (-19), 3, false, 0), (77, .aload_n 0, 1, false, 0), (78, .iload_n 3, 1, false, 0), (79, .iload_n 2, 1, false, 0), (80, .iastore, 1, false, 0), (81, .iload_n 1, 1, false, 0), (82, .iconst 1, 1, false, nI 1), (83, .iadd, 1, false, 0), (84, .ireturn, 1, false, 0)]
set_option maxRecDepth 100000 in
theorem tk_X5_insertOnce : kp_ok cX5_insertOnce RX5 tb_X5_insertOnce = true := by decide +kernel
def tb_X6_weigh : List Ent := [(0, .iconst 0, 1, false, nI 0), (1, .istore_n 3, 1, false, 0), (2, .iload_n 3, 1, true, 0), (3, .bipush 40, 2, false, nI 40), (5, .if_icmp .ge 16, 3, false, 0), (8, .aload_n 0, 1, false, 0), (9, .getfield 9, 3, false, 0), (12, .iload_n 3, 1, false, 0), (13, .iconst 0, 1, false, nI 0), (14, .iastore, 1, false, 0), (15, .iinc 3 1, 3, false, nI 1), (18, .goto (-16), 3, false, 0), (21, .iconst 0, 1, false, nI 0), (22, .istore_n 3, 1, false, 0), (23, .iload_n 3, 1, true, 0), (24, .aload_n 1, 1, false, 0), (25, .getfield 15, 3, false, 0), (28, .if_icmp .ge 70, 3, false, 0), (31, .aload_n 1, 1, false, 0), (32, .getfield 21, 3, false, 0), (35, .iload_n 3, 1, false, 0), (36, .iaload, 1, false, 0), (37, .istore 4, 2, false, 0), (39, .iload 4, 2, false, 0), (41, .invokestatic 24, 3, false, 0), (44, .ifCond .eq 48, 3, false, 0), (47, .bipush 30, 2, false, nI 30), (49, .aload_n 2, 1, false, 0), (50, .aload_n 1, 1, false, 0), (51, .getfield 28, 3, false, 0), (54, .iload_n 3, 1, false, 0), (55, .iaload, 1, false, 0), (56, .invokestatic 31, 3, false, 0), (59, .invokevirtual 35, 3, false, 0), (62, .isub, 1, false, 0), (63, .istore 5, 2, false, 0), (65, .aload_n 0, 1, false, 0), (66, .getfield 9, 3, false, 0), (69, .iload 4, 2, false, 0), (71, .aload_n 0, 1, false, 0), (72, .getfield 9, 3, false, 0), (75, .iload 4, 2, false, 0), (77, .iaload, 1, false, 0), (78, .aload_n 2, 1, false, 0), (79, .getfield 40, 3, false, 0), (82, .iload 4, 2, false, 0), (84, .iaload, 1, false, 0), (85, .iload 5, 2, false, 0), (87, .imul, 1, false, 0), (88, .invokestatic 43, 3, false, 0), (91, .iastore, 1, false, 0), (92, .iinc 3 1, 3, false, nI 1), (95, .goto (-72), 3, false, 0), (98, .return_, 1, false, 0)]
set_option maxRecDepth 100000 in
theorem tk_X6_weigh : kp_ok cX6_weigh RX6 tb_X6_weigh = true := by decide +kernel
def tb_X6_ranked : List Ent := [(0, .iconst 0, 1, false, nI 0), (1, .istore_n 2, 1, false, 0), (2, .iload_n 2, 1, true, 0), (3, .bipush 40, 2, false, nI 40), (5, .if_icmp .ge 29, 3, false, 0), (8, .aload_n 0, 1, false, 0), (9, .getfield 9, 3, false, 0), (12, .iload_n 2, 1, false, 0), (13, .iaload, 1, false, 0), (14, .ifCond .le 14, 3, false, 0), (17, .aload_n 0, 1, false, 0), (18, .iload_n 2, 1, false, 0), (19, .invokevirtual 49, 3, false, 0), (22, .iload_n 1, 1, false, 0), (23, .if_icmp .ne 5, 3, false, 0), (26, .iload_n 2, 1, false, 0), (27, .ireturn, 1, false, 0), (28, .iinc 2 1, 3, false, nI 1), (31, .goto (-29), 3, false, 0), (34, .iconst (-1), 1, false, (-1)), (35, .ireturn, 1, false, 0)]
set_option maxRecDepth 100000 in
theorem tk_X6_ranked : kp_ok cX6_ranked RX6 tb_X6_ranked = true := by decide +kernel
def tb_X6_countAhead : List Ent := [(0, .iconst 0, 1, false, nI 0), (1, .istore_n 2, 1, false, 0), (2, .iconst 0, 1, false, nI 0), (3, .istore_n 3, 1, false, 0), (4, .iload_n 3, 1, true, 0), (5, .bipush 40, 2, false, nI 40), (7, .if_icmp .ge 64, 3, false, 0), (10, .aload_n 0, 1, false, 0), (11, .getfield 9, 3, false, 0), (14, .iload_n 3, 1, false, 0), (15, .iaload, 1, false, 0), (16, .aload_n 0, 1, false, 0), (17, .getfield 9, 3, false, 0), (20, .iload_n 1, 1, false, 0), (21, .iaload, 1, false, 0), (22, .if_icmp .ne 12, 3, false, 0), (25, .iload_n 3, 1, false, 0), (26, .iload_n 1, 1, false, 0), (27, .if_icmp .ge 7, 3, false, 0), (30, .iconst 1, 1, false, nI 1), (31, .goto 4, 3, false, 0), (34, .iconst 0, 1, false, nI 0), (35, .istore 4, 2, false, 0), (37, .iload_n 2, 1, false, 0), (38, .aload_n 0, 1, false, 0), (39, .getfield 9, 3, false, 0), (42, .iload_n 3, 1, false, 0), (43, .iaload, 1, false, 0), (44, .aload_n 0, 1, false, 0), (45, .getfield 9, 3, false, 0), (48, .iload_n 1, 1, false, 0), (49, .iaload, 1, false, 0), (50, .if_icmp .gt 8, 3, false, 0), (53, .iload 4, 2, false, 0), (55, .ifCond .eq 7, 3, false, 0), (58, .iconst 1, 1, false, nI 1), (59, .goto 4, 3, false, 0), (62, .iconst 0, 1, false, nI 0), (63, .iadd, 1, false, 0), (64, .istore_n 2, 1, false, 0), (65, .iinc 3 1, 3, false, nI 1), (68, .goto (-64), 3, false, 0), (71, .iload_n 2, 1, false, 0), (72, .ireturn, 1, false, 0)]
set_option maxRecDepth 100000 in
theorem tk_X6_countAhead : kp_ok cX6_countAhead RX6 tb_X6_countAhead = true := by decide +kernel
def tb_X7_isStroke : List Ent := [(0, .iload_n 0, 1, false, 0), (1, .iconst 1, 1, false, nI 1), (2, .if_icmp .lt 14, 3, false, 0), (5, .iload_n 0, 1, false, 0), (6, .sipush 240, 3, false, nI 240), (9, .if_icmp .gt 7, 3, false, 0), (12, .iconst 1, 1, false, nI 1), (13, .goto 4, 3, false, 0), (16, .iconst 0, 1, false, nI 0), (17, .ireturn, 1, false, 0)]
set_option maxRecDepth 100000 in
theorem tk_X7_isStroke : kp_ok cX7_isStroke RX7 tb_X7_isStroke = true := by decide +kernel
def tb_X7_isRow : List Ent := [(0, .iload_n 0, 1, false, 0), (1, .iconst 1, 1, false, nI 1), (2, .if_icmp .lt 9, 3, false, 0), (5, .iload_n 0, 1, false, 0), (6, .ldc 9, 2, false, nI 16777215), (8, .if_icmp .le 5, 3, false, 0), (11, .iconst 0, 1, false, nI 0), (12, .ireturn, 1, false, 0), (13, .iload_n 0, 1, false, 0), (14, .iconst 1, 1, false, nI 1), (15, .invokestatic 10, 3, false, 0), (18, .istore_n 1, 1, false, 0), (19, .iload_n 0, 1, false, 0), (20, .iconst 2, 1, false, nI 2), (21, .invokestatic 10, 3, false, 0), (24, .istore_n 2, 1, false, 0), (25, .iload_n 1, 1, false, 0), (26, .ifCond .ne 7, 3, false, 0), (29, .iload_n 2, 1, false, 0), (30, .ifCond .ne 7, 3, false, 0), (33, .iconst 1, 1, false, nI 1), (34, .goto 4, 3, false, 0), (37, .iconst 0, 1, false, nI 0), (38, .istore_n 3, 1, false, 0), (39, .iload_n 0, 1, false, 0), (40, .iconst 0, 1, false, nI 0), (41, .invokestatic 10, 3, false, 0), (44, .invokestatic 16, 3, false, 0), (47, .ifCond .eq 25, 3, false, 0), (50, .iload_n 1, 1, false, 0), (51, .sipush 240, 3, false, nI 240), (54, .if_icmp .gt 18, 3, false, 0), (57, .iload_n 2, 1, false, 0), (58, .sipush 240, 3, false, nI 240), (61, .if_icmp .gt 11, 3, false, 0), (64, .iload_n 3, 1, false, 0), (65, .ifCond .eq 7, 3, false, 0), (68, .iconst 1, 1, false, nI 1), (69, .goto 4, 3, false, 0), (72, .iconst 0, 1, false, nI 0), (73, .ireturn, 1, false, 0)]
set_option maxRecDepth 100000 in
theorem tk_X7_isRow : kp_ok cX7_isRow RX7 tb_X7_isRow = true := by decide +kernel
def tb_X7_strokeAt : List Ent := [(0, .iload_n 0, 1, false, 0), (1, .bipush 8, 2, false, nI 8), (3, .iload_n 1, 1, false, 0), (4, .imul, 1, false, 0), (5, .iushr, 1, false, 0), (6, .sipush 255, 3, false, nI 255), (9, .iand, 1, false, 0), (10, .ireturn, 1, false, 0)]
set_option maxRecDepth 100000 in
theorem tk_X7_strokeAt : kp_ok cX7_strokeAt RX7 tb_X7_strokeAt = true := by decide +kernel
def tb_X7_length : List Ent := [(0, .iconst 0, 1, false, nI 0), (1, .istore_n 1, 1, false, 0), (2, .iload_n 1, 1, true, 0), (3, .iconst 3, 1, false, nI 3), (4, .if_icmp .ge 17, 3, false, 0), (7, .iload_n 0, 1, false, 0), (8, .iload_n 1, 1, false, 0), (9, .invokestatic 10, 3, false, 0), (12, .ifCond .eq 9, 3, false, 0), (15, .iinc 1 1, 3, false, nI 1), (18, .goto (-16), 3, false, 0), (21, .iload_n 1, 1, false, 0), (22, .ireturn, 1, false, 0)]
set_option maxRecDepth 100000 in
theorem tk_X7_length : kp_ok cX7_length RX7 tb_X7_length = true := by decide +kernel
def tb_X7_beginning : List Ent := [(0, .iload_n 0, 1, false, 0), (1, .iconst 1, 1, false, nI 1), (2, .bipush 8, 2, false, nI 8), (4, .iload_n 1, 1, false, 0), (5, .imul, 1, false, 0), (6, .ishl, 1, false, 0), (7, .iconst 1, 1, false, nI 1), (8, .isub, 1, false, 0), (9, .iand, 1, false, 0), (10, .ireturn, 1, false, 0)]
set_option maxRecDepth 100000 in
theorem tk_X7_beginning : kp_ok cX7_beginning RX7 tb_X7_beginning = true := by decide +kernel
def tb_X7_withoutBeginning : List Ent := [(0, .iload_n 0, 1, false, 0), (1, .bipush 8, 2, false, nI 8), (3, .iload_n 1, 1, false, 0), (4, .imul, 1, false, 0), (5, .iushr, 1, false, 0), (6, .ireturn, 1, false, 0)]
set_option maxRecDepth 100000 in
theorem tk_X7_withoutBeginning : kp_ok cX7_withoutBeginning RX7 tb_X7_withoutBeginning = true := by decide +kernel
def tb_X7_withStroke : List Ent := [(0, .iload_n 0, 1, false, 0), (1, .iload_n 1, 1, false, 0), (2, .bipush 8, 2, false, nI 8), (4, .iload_n 0, 1, false, 0), (5, .invokestatic 20, 3, false, 0), (8, .imul, 1, false, 0), (9, .ishl, 1, false, 0), (10, .ior, 1, false, 0), (11, .ireturn, 1, false, 0)]
set_option maxRecDepth 100000 in
theorem tk_X7_withStroke : kp_ok cX7_withStroke RX7 tb_X7_withStroke = true := by decide +kernel
def tb_X7_beginsWith : List Ent := [(0, .iload_n 0, 1, false, 0), (1, .iload_n 1, 1, false, 0), (2, .invokestatic 20, 3, false, 0), (5, .invokestatic 24, 3, false, 0), (8, .iload_n 1, 1, false, 0), (9, .if_icmp .ne 7, 3, false, 0), (12, .iconst 1, 1, false, nI 1), (13, .goto 4, 3, false, 0), (16, .iconst 0, 1, false, nI 0), (17, .ireturn, 1, false, 0)]
set_option maxRecDepth 100000 in
theorem tk_X7_beginsWith : kp_ok cX7_beginsWith RX7 tb_X7_beginsWith = true := by decide +kernel
def tb_X8_mayComeAt : List Ent := [(0, .iload_n 1, 1, false, 0), (1, .aload_n 0, 1, false, 0), (2, .getfield 31, 3, false, 0), (5, .if_icmp .lt 13, 3, false, 0), (8, .iload_n 1, 1, false, 0), (9, .ldc 37, 2, false, nI 1000000), (11, .if_icmp .gt 7, 3, false, 0), (14, .iconst 1, 1, false, nI 1), (15, .goto 4, 3, false, 0), (18, .iconst 0, 1, false, nI 0), (19, .ireturn, 1, false, 0)]
set_option maxRecDepth 100000 in
theorem tk_X8_mayComeAt : kp_ok cX8_mayComeAt RX8 tb_X8_mayComeAt = true := by decide +kernel
def tb_X8_press : List Ent := [(0, .iload_n 3, 1, false, 0), (1, .aload_n 0, 1, false, 0), (2, .getfield 31, 3, false, 0), (5, .isub, 1, false, 0), (6, .aload_n 0, 1, false, 0), (7, .getfield 28, 3, false, 0), (10, .if_icmp .le 17, 3, false, 0), (13, .aload_n 0, 1, false, 0), (14, .aload_n 1, 1, false, 0), (15, .aload_n 0, 1, false, 0), (16, .getfield 31, 3, false, 0), (19, .aload_n 0, 1, false, 0), (20, .getfield 28, 3, false, 0), (23, .iadd, 1, false, 0), (24, .invokevirtual 38, 3, false, 0), (27, .aload_n 0, 1, false, 0), (28, .iload_n 3, 1, false, 0), (29, .putfield 31, 3, false, 0), (32, .aload_n 0, 1, false, 0), (33, .aload_n 0, 1, false, 0), (34, .getfield 34, 3, false, 0), (37, .iload_n 2, 1, false, 0), (38, .invokestatic 42, 3, false, 0), (41, .putfield 34, 3, false, 0), (44, .iconst 0, 1, false, nI 0), (45, .istore 4, 2, false, 0), (47, .iload 4, 2, true, 0), (49, .iconst 3, 1, false, nI 3), (50, .if_icmp .ge 37, 3, false, 0), (53, .aload_n 0, 1, false, 0), (54, .getfield 34, 3, false, 0), (57, .ifCond .eq 30, 3, false, 0), (60, .aload_n 1, 1, false, 0), (61, .aload_n 0, 1, false, 0), (62, .getfield 25, 3, false, 0), (65, .aload_n 0, 1, false, 0), (66, .getfield 34, 3, false, 0), (69, .invokevirtual 48, 3, false, 0), (72, .ifCond .ne 15, 3, false, 0), (75, .aload_n 0, 1, false, 0), (76, .aload_n 1, 1, false, 0), (77, .iload_n 3, 1, false, 0), (78, .invokevirtual 54, 3, false, 0), (81, .iinc 4 1, 3, false, nI 1), (84, .goto (-37), 3, false, 0), (87, .aload_n 0, 1, false, 0), (88, .getfield 34, 3, false, 0), (91, .ifCond .eq 23, 3, false, 0), (94, .aload_n 1, 1, false, 0), (95, .aload_n 0, 1, false, 0), (96, .getfield 25, 3, false, 0), (99, .aload_n 0, 1, false, 0), (100, .getfield 34, 3, false, 0), (103, .invokevirtual 57, 3, false, 0), (106, .iconst (-1), 1, false, (-1)), (107, .if_icmp .eq 7, 3, false, 0), (110, .iconst 1, 1, false, nI 1), (111, .goto 4, 3, false, 0), (114, .iconst 0, 1, false, nI 0), (115, .istore 4, 2, false, 0), (117, .iload 4, 2, false, 0), (119, .ifCond .eq 24, 3, false, 0), (122, .aload_n 1, 1, false, 0), (123, .aload_n 0, 1, false, 0), (124, .getfield 25, 3, false, 0), (127, .aload_n 0, 1, false, 0), (128, .getfield 34, 3, false, 0), (131, .invokevirtual 60, 3, false, 0), (134, .ifCond .ne 9, 3, false, 0), (137, .aload_n 0, 1, false, 0), (138, .aload_n 1, 1, false, 0), (139, .iload_n 3, 1, false, 0), (140, .invokevirtual 54, 3, false, 0), (143, .return_, 1, false, 0)]
set_option maxRecDepth 100000 in
theorem tk_X8_press : kp_ok cX8_press RX8 tb_X8_press = true := by decide +kernel
def tb_X8_settleAll : List Ent := [(0, .iconst 0, 1, false, nI 0), (1, .istore_n 3, 1, false, 0), (2, .iload_n 3, 1, true, 0), (3, .iconst 3, 1, false, nI 3), (4, .if_icmp .ge 22, 3, false, 0), (7, .aload_n 0, 1, false, 0), (8, .getfield 34, 3, false, 0), (11, .ifCond .eq 15, 3, false, 0), (14, .aload_n 0, 1, false, 0), (15, .aload_n 1, 1, false, 0), (16, .iload_n 2, 1, false, 0), (17, .invokevirtual 54, 3, false, 0), (20, .iinc 3 1, 3, false, nI 1), (23, .goto (-21), 3, false, 0), (26, .return_, 1, false, 0)]
set_option maxRecDepth 100000 in
theorem tk_X8_settleAll : kp_ok cX8_settleAll RX8 tb_X8_settleAll = true := by decide +kernel
def tb_X8_settleOne : List Ent := [(0, .aload_n 0, 1, false, 0), (1, .getfield 34, 3, false, 0), (4, .invokestatic 63, 3, false, 0), (7, .istore_n 3, 1, false, 0), (8, .iload_n 3, 1, true, 0), (9, .ifCond .le 53, 3, false, 0), (12, .aload_n 1, 1, false, 0), (13, .aload_n 0, 1, false, 0), (14, .getfield 25, 3, false, 0), (17, .aload_n 0, 1, false, 0), (18, .getfield 34, 3, false, 0), (21, .iload_n 3, 1, false, 0), (22, .invokestatic 67, 3, false, 0), (25, .invokevirtual 57, 3, false, 0), (28, .istore 4, 2, false, 0), (30, .iload 4, 2, false, 0), (32, .iconst (-1), 1, false, (-1)), (33, .if_icmp .eq 23, 3, false, 0), (36, .aload_n 0, 1, false, 0), (37, .iload 4, 2, false, 0), (39, .iload_n 2, 1, false, 0), (40, .invokevirtual 70, 3, false, 0), (43, .aload_n 0, 1, false, 0), (44, .aload_n 0, 1, false, 0), (45, .getfield 34, 3, false, 0), (48, .iload_n 3, 1, false, 0), (49, .invokestatic 74, 3, false, 0), (52, .putfield 34, 3, false, 0), (55, .return_, 1, false, 0), (56, .iinc 3 (-1), 3, false, (-1)), (59, .goto (-51), 3, false, 0), (62, .aload_n 0, 1, false, 0), (63, .dup, 1, false, 0), (64, .getfield 22, 3, false, 0), (67, .iconst 1, 1, false, nI 1), (68, .iadd, 1, false, 0), (69, .putfield 22, 3, false, 0), (72, .aload_n 0, 1, false, 0), (73, .aload_n 0, 1, false, 0), (74, .getfield 34, 3, false, 0), (77, .iconst 1, 1, false, nI 1), (78, .invokestatic 74, 3, false, 0), (81, .putfield 34, 3, false, 0), (84, .return_, 1, false, 0)]
set_option maxRecDepth 100000 in
theorem tk_X8_settleOne : kp_ok cX8_settleOne RX8 tb_X8_settleOne = true := by decide +kernel
def tb_X8_send : List Ent := [(0, .aload_n 0, 1, false, 0), (1, .getfield 18, 3, false, 0), (4, .sipush 400, 3, false, nI 400), (7, .if_icmp .ge 23, 3, false, 0), (10, .aload_n 0, 1, false, 0), (11, .getfield 9, 3, false, 0), (14, .aload_n 0, 1, false, 0), (15, .getfield 18, 3, false, 0), (18, .iload_n 1, 1, false, 0), (19, .iastore, 1, false, 0), (20, .aload_n 0, 1, false, 0), (21, .getfield 15, 3, false, 0), (24, .aload_n 0, 1, false, 0), (25, .getfield 18, 3, false, 0), (28, .iload_n 2, 1, false, 0), (29, .iastore, 1, false, 0), (30, .aload_n 0, 1, false, 0), (31, .dup, 1, false, 0), (32, .getfield 18, 3, false, 0), (35, .iconst 1, 1, false, nI 1), (36, .iadd, 1, false, 0), (37, .putfield 18, 3, false, 0), (40, .return_, 1, false, 0)]
set_option maxRecDepth 100000 in
theorem tk_X8_send : kp_ok cX8_send RX8 tb_X8_send = true := by decide +kernel
def tb_X9_context : List Ent := [(0, .aload_n 0, 1, false, 0), (1, .getfield 12, 3, false, 0), (4, .getfield 62, 3, false, 0), (7, .iload_n 1, 1, false, 0), (8, .invokevirtual 66, 3, false, 0), (11, .ireturn, 1, false, 0)]
set_option maxRecDepth 100000 in
theorem tk_X9_context : kp_ok cX9_context RX9 tb_X9_context = true := by decide +kernel
def tb_X9_bind : List Ent := [(0, .aload_n 0, 1, false, 0), (1, .getfield 12, 3, false, 0), (4, .getfield 62, 3, false, 0), (7, .iload_n 1, 1, false, 0), (8, .invokevirtual 72, 3, false, 0), (11, .ifCond .eq 21, 3, false, 0), (14, .iload_n 2, 1, false, 0), (15, .invokestatic 76, 3, false, 0), (18, .ifCond .eq 14, 3, false, 0), (21, .iload_n 3, 1, false, 0), (22, .iconst (-1), 1, false, (-1)), (23, .if_icmp .lt 9, 3, false, 0), (26, .iload_n 3, 1, false, 0), (27, .bipush 40, 2, false, nI 40), (29, .if_icmp .le 6, 3, false, 0), (32, .bipush (-2), 2, false, (-2)), (34, .ireturn, 1, false, 0), (35, .iload_n 1, 1, false, 0), (36, .iload_n 2, 1, false, 0), (37, .invokestatic 81, 3, false, 0), (40, .istore 4, 2, false, 0), (42, .aload_n 0, 1, false, 0), (43, .getfield 12, 3, false, 0), (46, .getfield 85, 3, false, 0), (49, .iload 4, 2, false, 0), (51, .invokevirtual 88, 3, false, 0), (54, .istore 5, 2, false, 0), (56, .iload_n 3, 1, false, 0), (57, .iconst (-1), 1, false, (-1)), (58, .if_icmp .eq 27, 3, false, 0), (61, .iload 5, 2, false, 0), (63, .iconst (-1), 1, false, (-1)), (64, .if_icmp .ne 21, 3, false, 0), (67, .aload_n 0, 1, false, 0), (68, .getfield 12, 3, false, 0), (71, .getfield 85, 3, false, 0), (74, .getfield 91, 3, false, 0), (77, .bipush 120, 2, false, nI 120), (79, .if_icmp .lt 6, 3, false, 0), (82, .bipush (-2), 2, false, (-2)), (84, .ireturn, 1, false, 0), (85, .aload_n 0, 1, false, 0), (86, .getfield 12, 3, false, 0), (89, .getfield 85, 3, false, 0), (92, .iload 4, 2, false, 0), (94, .iload_n 3, 1, false, 0), (95, .invokevirtual 95, 3, false, 0), (98, .iload 5, 2, false, 0), (100, .ireturn, 1, false, 0)]
set_option maxRecDepth 100000 in
theorem tk_X9_bind : kp_ok cX9_bind RX9 tb_X9_bind = true := by decide +kernel
def tb_X9_has : List Ent := [(0, .aload_n 0, 1, false, 0), (1, .getfield 12, 3, false, 0), (4, .getfield 62, 3, false, 0), (7, .iload_n 1, 1, false, 0), (8, .invokevirtual 72, 3, false, 0), (11, .ifCond .eq 10, 3, false, 0), (14, .iload_n 2, 1, false, 0), (15, .invokestatic 76, 3, false, 0), (18, .ifCond .ne 5, 3, false, 0), (21, .iconst (-1), 1, false, (-1)), (22, .ireturn, 1, false, 0), (23, .aload_n 0, 1, false, 0), (24, .getfield 12, 3, false, 0), (27, .getfield 85, 3, false, 0), (30, .iload_n 1, 1, false, 0), (31, .iload_n 2, 1, false, 0), (32, .invokestatic 81, 3, false, 0), (35, .invokevirtual 88, 3, false, 0), (38, .ireturn, 1, false, 0)]
set_option maxRecDepth 100000 in
theorem tk_X9_has : kp_ok cX9_has RX9 tb_X9_has = true := by decide +kernel
def tb_X9_means : List Ent := [(0, .aload_n 0, 1, false, 0), (1, .getfield 12, 3, false, 0), (4, .getfield 62, 3, false, 0), (7, .iload_n 1, 1, false, 0), (8, .invokevirtual 72, 3, false, 0), (11, .ifCond .eq 10, 3, false, 0), (14, .iload_n 2, 1, false, 0), (15, .invokestatic 76, 3, false, 0), (18, .ifCond .ne 5, 3, false, 0), (21, .iconst (-1), 1, false, (-1)), (22, .ireturn, 1, false, 0), (23, .aload_n 0, 1, false, 0), (24, .getfield 12, 3, false, 0), (27, .iload_n 1, 1, false, 0), (28, .iload_n 2, 1, false, 0), (29, .invokevirtual 99, 3, false, 0), (32, .ireturn, 1, false, 0)]
set_option maxRecDepth 100000 in
theorem tk_X9_means : kp_ok cX9_means RX9 tb_X9_means = true := by decide +kernel
def tb_X9_fight : List Ent := [(0, .aload_n 0, 1, false, 0), (1, .getfield 12, 3, false, 0), (4, .getfield 62, 3, false, 0), (7, .iload_n 1, 1, false, 0), (8, .invokevirtual 72, 3, false, 0), (11, .ifCond .ne 5, 3, false, 0), (14, .iconst (-1), 1, false, (-1)), (15, .ireturn, 1, false, 0), (16, .aload_n 0, 1, false, 0), (17, .getfield 30, 3, false, 0), (20, .aload_n 0, 1, false, 0), (21, .getfield 12, 3, false, 0), (24, .iload_n 1, 1, false, 0), (25, .invokevirtual 102, 3, false, 0), (28, .iload_n 2, 1, false, 0), (29, .ifCond .lt 14, 3, false, 0), (32, .iload_n 2, 1, false, 0), (33, .aload_n 0, 1, false, 0), (34, .getfield 30, 3, false, 0), (37, .getfield 106, 3, false, 0), (40, .if_icmp .lt 5, 3, false, 0), (43, .iconst (-1), 1, false, (-1)), (44, .ireturn, 1, false, 0), (45, .iload_n 3, 1, false, 0), (46, .lookupswitch 46 #[(0, 26), (1, 36)], 26, false, 0), (72, .aload_n 0, 1, false, 0), (73, .getfield 30, 3, false, 0), (76, .getfield 107, 3, false, 0), (79, .iload_n 2, 1, false, 0), (80, .iaload, 1, false, 0), (81, .ireturn, 1, false, 0), (82, .aload_n 0, 1, false, 0), (83, .getfield 30, 3, false, 0), (86, .getfield 110, 3, false, 0), (89, .iload_n 2, 1, false, 0), (90, .iaload, 1, false, 0), (91, .ireturn, 1, false, 0), (92, .iconst (-1), 1, false, (-1)), (93, .ireturn, 1, false, 0)]
set_option maxRecDepth 100000 in
theorem tk_X9_fight : kp_ok cX9_fight RX9 tb_X9_fight = true := by decide +kernel
def tb_X9_fights : List Ent := [(0, .aload_n 0, 1, false, 0), (1, .getfield 12, 3, false, 0), (4, .getfield 62, 3, false, 0), (7, .iload_n 1, 1, false, 0), (8, .invokevirtual 72, 3, false, 0), (11, .ifCond .ne 5, 3, false, 0), (14, .iconst (-1), 1, false, (-1)), (15, .ireturn, 1, false, 0), (16, .aload_n 0, 1, false, 0), (17, .getfield 30, 3, false, 0), (20, .aload_n 0, 1, false, 0), (21, .getfield 12, 3, false, 0), (24, .iload_n 1, 1, false, 0), (25, .invokevirtual 102, 3, false, 0), (28, .aload_n 0, 1, false, 0), (29, .getfield 30, 3, false, 0), (32, .getfield 106, 3, false, 0), (35, .ireturn, 1, false, 0)]
set_option maxRecDepth 100000 in
theorem tk_X9_fights : kp_ok cX9_fights RX9 tb_X9_fights = true := by decide +kernel
def tb_X9_patience : List Ent := [(0, .iload_n 1, 1, false, 0), (1, .ifCond .lt 9, 3, false, 0), (4, .iload_n 1, 1, false, 0), (5, .bipush 100, 2, false, nI 100), (7, .if_icmp .le 5, 3, false, 0), (10, .iconst 0, 1, false, nI 0), (11, .ireturn, 1, false, 0), (12, .aload_n 0, 1, false, 0), (13, .getfield 37, 3, false, 0), (16, .iload_n 1, 1, false, 0), (17, .putfield 113, 3, false, 0), (20, .iconst 1, 1, false, nI 1), (21, .ireturn, 1, false, 0)]
set_option maxRecDepth 100000 in
theorem tk_X9_patience : kp_ok cX9_patience RX9 tb_X9_patience = true := by decide +kernel
def tb_X9_go : List Ent := [(0, .aload_n 0, 1, false, 0), (1, .getfield 12, 3, false, 0), (4, .getfield 62, 3, false, 0), (7, .iload_n 1, 1, false, 0), (8, .invokevirtual 72, 3, false, 0), (11, .ifCond .ne 5, 3, false, 0), (14, .iconst 0, 1, false, nI 0), (15, .ireturn, 1, false, 0), (16, .aload_n 0, 1, false, 0), (17, .getfield 37, 3, false, 0), (20, .aload_n 0, 1, false, 0), (21, .getfield 12, 3, false, 0), (24, .aload_n 0, 1, false, 0), (25, .getfield 37, 3, false, 0), (28, .getfield 116, 3, false, 0), (31, .invokevirtual 119, 3, false, 0), (34, .aload_n 0, 1, false, 0), (35, .getfield 37, 3, false, 0), (38, .iload_n 1, 1, false, 0), (39, .putfield 122, 3, false, 0), (42, .iconst 1, 1, false, nI 1), (43, .ireturn, 1, false, 0)]
set_option maxRecDepth 100000 in
theorem tk_X9_go : kp_ok cX9_go RX9 tb_X9_go = true := by decide +kernel
def tb_X9_type : List Ent := [(0, .iload_n 1, 1, false, 0), (1, .invokestatic 125, 3, false, 0), (4, .ifCond .eq 14, 3, false, 0), (7, .aload_n 0, 1, false, 0), (8, .getfield 37, 3, false, 0), (11, .iload_n 2, 1, false, 0), (12, .invokevirtual 128, 3, false, 0), (15, .ifCond .ne 5, 3, false, 0), (18, .iconst (-1), 1, false, (-1)), (19, .ireturn, 1, false, 0), (20, .aload_n 0, 1, false, 0), (21, .getfield 37, 3, false, 0), (24, .aload_n 0, 1, false, 0), (25, .getfield 12, 3, false, 0), (28, .iload_n 1, 1, false, 0), (29, .iload_n 2, 1, false, 0), (30, .invokevirtual 131, 3, false, 0), (33, .aload_n 0, 1, false, 0), (34, .getfield 37, 3, false, 0), (37, .getfield 135, 3, false, 0), (40, .invokestatic 138, 3, false, 0), (43, .ireturn, 1, false, 0)]
set_option maxRecDepth 100000 in
theorem tk_X9_type : kp_ok cX9_type RX9 tb_X9_type = true := by decide +kernel
def tb_X9_settle : List Ent := [(0, .aload_n 0, 1, false, 0), (1, .getfield 37, 3, false, 0), (4, .iload_n 1, 1, false, 0), (5, .invokevirtual 128, 3, false, 0), (8, .ifCond .ne 5, 3, false, 0), (11, .iconst (-1), 1, false, (-1)), (12, .ireturn, 1, false, 0), (13, .aload_n 0, 1, false, 0), (14, .getfield 37, 3, false, 0), (17, .getfield 141, 3, false, 0), (20, .istore_n 2, 1, false, 0), (21, .aload_n 0, 1, false, 0), (22, .getfield 37, 3, false, 0), (25, .aload_n 0, 1, false, 0), (26, .getfield 12, 3, false, 0), (29, .iload_n 1, 1, false, 0), (30, .invokevirtual 119, 3, false, 0), (33, .aload_n 0, 1, false, 0), (34, .getfield 37, 3, false, 0), (37, .getfield 141, 3, false, 0), (40, .iload_n 2, 1, false, 0), (41, .isub, 1, false, 0), (42, .ireturn, 1, false, 0)]
set_option maxRecDepth 100000 in
theorem tk_X9_settle : kp_ok cX9_settle RX9 tb_X9_settle = true := by decide +kernel
def tb_X9_stretch : List Ent := [(0, .iload_n 1, 1, false, 0), (1, .invokestatic 125, 3, false, 0), (4, .ifCond .eq 13, 3, false, 0), (7, .iload_n 2, 1, false, 0), (8, .ifCond .lt 9, 3, false, 0), (11, .iload_n 2, 1, false, 0), (12, .bipush 100, 2, false, nI 100), (14, .if_icmp .le 5, 3, false, 0), (17, .iconst 0, 1, false, nI 0), (18, .ireturn, 1, false, 0), (19, .aload_n 0, 1, false, 0), (20, .getfield 44, 3, false, 0), (23, .getfield 159, 3, false, 0), (26, .iload_n 1, 1, false, 0), (27, .iload_n 2, 1, false, 0), (28, .iastore, 1, false, 0), (29, .aload_n 0, 1, false, 0), (30, .getfield 51, 3, false, 0), (33, .invokevirtual 162, 3, false, 0), (36, .iconst 1, 1, false, nI 1), (37, .ireturn, 1, false, 0)]
set_option maxRecDepth 100000 in
theorem tk_X9_stretch : kp_ok cX9_stretch RX9 tb_X9_stretch = true := by decide +kernel
def tb_X9_uses : List Ent := [(0, .iload_n 1, 1, false, 0), (1, .invokestatic 165, 3, false, 0), (4, .ifCond .eq 14, 3, false, 0), (7, .iload_n 2, 1, false, 0), (8, .ifCond .lt 10, 3, false, 0), (11, .iload_n 2, 1, false, 0), (12, .sipush 1000, 3, false, nI 1000), (15, .if_icmp .le 5, 3, false, 0), (18, .iconst 0, 1, false, nI 0), (19, .ireturn, 1, false, 0), (20, .aload_n 0, 1, false, 0), (21, .getfield 44, 3, false, 0), (24, .getfield 168, 3, false, 0), (27, .iload_n 1, 1, false, 0), (28, .iload_n 2, 1, false, 0), (29, .iastore, 1, false, 0), (30, .aload_n 0, 1, false, 0), (31, .getfield 51, 3, false, 0), (34, .invokevirtual 162, 3, false, 0), (37, .iconst 1, 1, false, nI 1), (38, .ireturn, 1, false, 0)]
set_option maxRecDepth 100000 in
theorem tk_X9_uses : kp_ok cX9_uses RX9 tb_X9_uses = true := by decide +kernel
def tb_X9_habit : List Ent := [(0, .iload_n 2, 1, false, 0), (1, .ifCond .eq 10, 3, false, 0), (4, .iload_n 2, 1, false, 0), (5, .invokestatic 125, 3, false, 0), (8, .ifCond .eq 7, 3, false, 0), (11, .iconst 1, 1, false, nI 1), (12, .goto 4, 3, false, 0), (15, .iconst 0, 1, false, nI 0), (16, .istore 4, 2, false, 0), (18, .iload_n 1, 1, false, 0), (19, .invokestatic 165, 3, false, 0), (22, .ifCond .eq 19, 3, false, 0), (25, .iload 4, 2, false, 0), (27, .ifCond .eq 14, 3, false, 0), (30, .iload_n 3, 1, false, 0), (31, .ifCond .lt 10, 3, false, 0), (34, .iload_n 3, 1, false, 0), (35, .sipush 10000, 3, false, nI 10000), (38, .if_icmp .le 5, 3, false, 0), (41, .iconst 0, 1, false, nI 0), (42, .ireturn, 1, false, 0), (43, .aload_n 0, 1, false, 0), (44, .getfield 44, 3, false, 0), (47, .getfield 171, 3, false, 0), (50, .iload_n 1, 1, false, 0), (51, .iload_n 2, 1, false, 0), (52, .iastore, 1, false, 0), (53, .aload_n 0, 1, false, 0), (54, .getfield 44, 3, false, 0), (57, .getfield 174, 3, false, 0), (60, .iload_n 1, 1, false, 0), (61, .iload_n 3, 1, false, 0), (62, .iastore, 1, false, 0), (63, .aload_n 0, 1, false, 0), (64, .getfield 51, 3, false, 0), (67, .invokevirtual 162, 3, false, 0), (70, .iconst 1, 1, false, nI 1), (71, .ireturn, 1, false, 0)]
set_option maxRecDepth 100000 in
theorem tk_X9_habit : kp_ok cX9_habit RX9 tb_X9_habit = true := by decide +kernel
def tb_X9_want : List Ent := [(0, .iload_n 1, 1, false, 0), (1, .invokestatic 165, 3, false, 0), (4, .ifCond .eq 17, 3, false, 0), (7, .aload_n 0, 1, false, 0), (8, .getfield 12, 3, false, 0), (11, .getfield 62, 3, false, 0), (14, .iload_n 2, 1, false, 0), (15, .invokevirtual 72, 3, false, 0), (18, .ifCond .ne 5, 3, false, 0), (21, .iconst (-1), 1, false, (-1)), (22, .ireturn, 1, false, 0), (23, .aload_n 0, 1, false, 0), (24, .getfield 51, 3, false, 0), (27, .iload_n 1, 1, false, 0), (28, .iload_n 2, 1, false, 0), (29, .invokevirtual 177, 3, false, 0), (32, .ireturn, 1, false, 0)]
set_option maxRecDepth 100000 in
theorem tk_X9_want : kp_ok cX9_want RX9 tb_X9_want = true := by decide +kernel
def tb_X9_offer : List Ent := [(0, .iload_n 1, 1, false, 0), (1, .invokestatic 125, 3, false, 0), (4, .ifCond .ne 5, 3, false, 0), (7, .iconst (-1), 1, false, (-1)), (8, .ireturn, 1, false, 0), (9, .aload_n 0, 1, false, 0), (10, .getfield 51, 3, false, 0), (13, .iload_n 1, 1, false, 0), (14, .invokevirtual 180, 3, false, 0), (17, .ireturn, 1, false, 0)]
set_option maxRecDepth 100000 in
theorem tk_X9_offer : kp_ok cX9_offer RX9 tb_X9_offer = true := by decide +kernel
def tb_X9_clear : List Ent := [(0, .aload_n 0, 1, false, 0), (1, .getfield 51, 3, false, 0), (4, .invokevirtual 183, 3, false, 0), (7, .return_, 1, false, 0)]
set_option maxRecDepth 100000 in
theorem tk_X9_clear : kp_ok cX9_clear RX9 tb_X9_clear = true := by decide +kernel
def tb_X9_cheapest : List Ent := [(0, .aload_n 0, 1, false, 0), (1, .getfield 51, 3, false, 0), (4, .aload_n 0, 1, false, 0), (5, .getfield 44, 3, false, 0), (8, .aload_n 0, 1, false, 0), (9, .getfield 12, 3, false, 0), (12, .getfield 62, 3, false, 0), (15, .invokevirtual 186, 3, false, 0), (18, .aload_n 0, 1, false, 0), (19, .getfield 51, 3, false, 0), (22, .getfield 190, 3, false, 0), (25, .ireturn, 1, false, 0)]
set_option maxRecDepth 100000 in
theorem tk_X9_cheapest : kp_ok cX9_cheapest RX9 tb_X9_cheapest = true := by decide +kernel
def tb_X9_assigned : List Ent := [(0, .aload_n 0, 1, false, 0), (1, .getfield 51, 3, false, 0), (4, .aload_n 0, 1, false, 0), (5, .getfield 44, 3, false, 0), (8, .aload_n 0, 1, false, 0), (9, .getfield 12, 3, false, 0), (12, .getfield 62, 3, false, 0), (15, .invokevirtual 186, 3, false, 0), (18, .aload_n 0, 1, false, 0), (19, .getfield 51, 3, false, 0), (22, .getfield 190, 3, false, 0), (25, .iconst (-1), 1, false, (-1)), (26, .if_icmp .eq 18, 3, false, 0), (29, .iload_n 1, 1, false, 0), (30, .ifCond .lt 14, 3, false, 0), (33, .iload_n 1, 1, false, 0), (34, .aload_n 0, 1, false, 0), (35, .getfield 51, 3, false, 0), (38, .getfield 193, 3, false, 0), (41, .if_icmp .lt 5, 3, false, 0), (44, .iconst (-1), 1, false, (-1)), (45, .ireturn, 1, false, 0), (46, .aload_n 0, 1, false, 0), (47, .getfield 51, 3, false, 0), (50, .getfield 196, 3, false, 0), (53, .iload_n 1, 1, false, 0), (54, .iaload, 1, false, 0), (55, .ireturn, 1, false, 0)]
set_option maxRecDepth 100000 in
theorem tk_X9_assigned : kp_ok cX9_assigned RX9 tb_X9_assigned = true := by decide +kernel
def tb_X9_broken : List Ent := [(0, .aload_n 0, 1, false, 0), (1, .getfield 51, 3, false, 0), (4, .aload_n 0, 1, false, 0), (5, .getfield 44, 3, false, 0), (8, .aload_n 0, 1, false, 0), (9, .getfield 12, 3, false, 0), (12, .getfield 62, 3, false, 0), (15, .invokevirtual 186, 3, false, 0), (18, .aload_n 0, 1, false, 0), (19, .getfield 51, 3, false, 0), (22, .getfield 190, 3, false, 0), (25, .iconst (-1), 1, false, (-1)), (26, .if_icmp .ne 7, 3, false, 0), (29, .iconst (-1), 1, false, (-1)), (30, .goto 14, 3, false, 0), (33, .aload_n 0, 1, false, 0), (34, .getfield 51, 3, false, 0), (37, .aload_n 0, 1, false, 0), (38, .getfield 44, 3, false, 0), (41, .invokevirtual 199, 3, false, 0), (44, .ireturn, 1, false, 0)]
set_option maxRecDepth 100000 in
theorem tk_X9_broken : kp_ok cX9_broken RX9 tb_X9_broken = true := by decide +kernel
def tb_X9_apply : List Ent := [(0, .aload_n 0, 1, false, 0), (1, .getfield 51, 3, false, 0), (4, .aload_n 0, 1, false, 0), (5, .getfield 44, 3, false, 0), (8, .aload_n 0, 1, false, 0), (9, .getfield 12, 3, false, 0), (12, .getfield 62, 3, false, 0), (15, .invokevirtual 186, 3, false, 0), (18, .aload_n 0, 1, false, 0), (19, .getfield 51, 3, false, 0), (22, .getfield 190, 3, false, 0), (25, .iconst (-1), 1, false, (-1)), (26, .if_icmp .ne 5, 3, false, 0), (29, .iconst (-1), 1, false, (-1)), (30, .ireturn, 1, false, 0), (31, .iconst 0, 1, false, nI 0), (32, .istore_n 1, 1, false, 0), (33, .iconst 0, 1, false, nI 0), (34, .istore_n 2, 1, false, 0), (35, .iconst 0, 1, false, nI 0), (36, .istore_n 3, 1, false, 0), (37, .iload_n 3, 1, true, 0), (38, .aload_n 0, 1, false, 0), (39, .getfield 51, 3, false, 0), (42, .getfield 193, 3, false, 0), (45, .if_icmp .ge 65, 3, false, 0), (48, .aload_n 0, 1, false, 0), (49, .getfield 12, 3, false, 0), (52, .getfield 85, 3, false, 0), (55, .aload_n 0, 1, false, 0), (56, .getfield 51, 3, false, 0), (59, .iload_n 3, 1, false, 0), (60, .invokevirtual 203, 3, false, 0), (63, .invokevirtual 88, 3, false, 0), (66, .istore 4, 2, false, 0), (68, .iload_n 1, 1, false, 0), (69, .iload 4, 2, false, 0), (71, .iconst (-1), 1, false, (-1)), (72, .if_icmp .ne 7, 3, false, 0), (75, .iconst 1, 1, false, nI 1), (76, .goto 4, 3, false, 0), (79, .iconst 0, 1, false, nI 0), (80, .iadd, 1, false, 0), (81, .istore_n 1, 1, false, 0), (82, .iload_n 2, 1, false, 0), (83, .iload 4, 2, false, 0), (85, .aload_n 0, 1, false, 0), (86, .getfield 51, 3, false, 0), (89, .getfield 206, 3, false, 0), (92, .iload_n 3, 1, false, 0), (93, .iaload, 1, false, 0), (94, .if_icmp .ne 7, 3, false, 0), (97, .iconst 0, 1, false, nI 0), (98, .goto 4, 3, false, 0), (101, .iconst 1, 1, false, nI 1), (102, .iadd, 1, false, 0), (103, .istore_n 2, 1, false, 0), (104, .iinc 3 1, 3, false, nI 1), (107, .goto (-70), 3, false, 0), (110, .aload_n 0, 1, false, 0), (111, .getfield 12, 3, false, 0), (114, .getfield 85, 3, false, 0), (117, .getfield 91, 3, false, 0), (120, .iload_n 1, 1, false, 0), (121, .iadd, 1, false, 0), (122, .bipush 120, 2, false, nI 120), (124, .if_icmp .le 5, 3, false, 0), (127, .iconst (-1), 1, false, (-1)), (128, .ireturn, 1, false, 0), (129, .iconst 0, 1, false, nI 0), (130, .istore_n 3, 1, false, 0), (131, .iload_n 3, 1, true, 0), (132, .aload_n 0, 1, false, 0), (133, .getfield 51, 3, false, 0), (136, .getfield 193, 3, false, 0), (139, .if_icmp .ge 36, 3, false, 0), (142, .aload_n 0, 1, false, 0), (143, .getfield 12, 3, false, 0), (146, .getfield 85, 3, false, 0), (149, .aload_n 0, 1, false, 0), (150, .getfield 51, 3, false, 0), (153, .iload_n 3, 1, false, 0), (154, .invokevirtual 203, 3, false, 0), (157, .aload_n 0, 1, false, 0), (158, .getfield 51, 3, false, 0), (161, .getfield 206, 3, false, 0), (164, .iload_n 3, 1, false, 0), (165, .iaload, 1, false, 0), (166, .invokevirtual 95, 3, false, 0), (169, .iinc 3 1, 3, false, nI 1), (172, .goto (-41), 3, false, 0), (175, .iload_n 2, 1, false, 0), (176, .ireturn, 1, false, 0)]
set_option maxRecDepth 100000 in
theorem tk_X9_apply : kp_ok cX9_apply RX9 tb_X9_apply = true := by decide +kernel
def tb_X9_keep : List Ent := [(0, .aload_n 0, 1, false, 0), (1, .getfield 19, 3, false, 0), (4, .aload_n 0, 1, false, 0), (5, .getfield 12, 3, false, 0), (8, .getfield 85, 3, false, 0), (11, .invokevirtual 209, 3, false, 0), (14, .return_, 1, false, 0)]
set_option maxRecDepth 100000 in
theorem tk_X9_keep : kp_ok cX9_keep RX9 tb_X9_keep = true := by decide +kernel
def tb_X9_change : List Ent := [(0, .aload_n 0, 1, false, 0), (1, .getfield 12, 3, false, 0), (4, .getfield 85, 3, false, 0), (7, .aload_n 0, 1, false, 0), (8, .getfield 19, 3, false, 0), (11, .aload_n 0, 1, false, 0), (12, .getfield 23, 3, false, 0), (15, .invokevirtual 213, 3, false, 0), (18, .istore_n 3, 1, false, 0), (19, .iload_n 1, 1, false, 0), (20, .ifCond .lt 8, 3, false, 0), (23, .iload_n 1, 1, false, 0), (24, .iload_n 3, 1, false, 0), (25, .if_icmp .lt 5, 3, false, 0), (28, .iconst (-1), 1, false, (-1)), (29, .ireturn, 1, false, 0), (30, .aload_n 0, 1, false, 0), (31, .getfield 23, 3, false, 0), (34, .iload_n 1, 1, false, 0), (35, .iaload, 1, false, 0), (36, .istore 4, 2, false, 0), (38, .iload_n 2, 1, false, 0), (39, .tableswitch 64 0 3 #[29, 35, 41, 51], 29, false, 0), (68, .iload 4, 2, false, 0), (70, .invokestatic 217, 3, false, 0), (73, .ireturn, 1, false, 0), (74, .iload 4, 2, false, 0), (76, .invokestatic 220, 3, false, 0), (79, .ireturn, 1, false, 0), (80, .aload_n 0, 1, false, 0), (81, .getfield 19, 3, false, 0), (84, .iload 4, 2, false, 0), (86, .invokevirtual 88, 3, false, 0), (89, .ireturn, 1, false, 0), (90, .aload_n 0, 1, false, 0), (91, .getfield 12, 3, false, 0), (94, .getfield 85, 3, false, 0), (97, .iload 4, 2, false, 0), (99, .invokevirtual 88, 3, false, 0), (102, .ireturn, 1, false, 0), (103, .iconst (-1), 1, false, (-1)), (104, .ireturn, 1, false, 0)]
set_option maxRecDepth 100000 in
theorem tk_X9_change : kp_ok cX9_change RX9 tb_X9_change = true := by decide +kernel
def tb_X9_back : List Ent := [(0, .aload_n 0, 1, false, 0), (1, .getfield 12, 3, false, 0), (4, .getfield 85, 3, false, 0), (7, .aload_n 0, 1, false, 0), (8, .getfield 19, 3, false, 0), (11, .aload_n 0, 1, false, 0), (12, .getfield 23, 3, false, 0), (15, .invokevirtual 213, 3, false, 0), (18, .istore_n 1, 1, false, 0), (19, .aload_n 0, 1, false, 0), (20, .getfield 12, 3, false, 0), (23, .getfield 85, 3, false, 0), (26, .aload_n 0, 1, false, 0), (27, .getfield 19, 3, false, 0), (30, .invokevirtual 209, 3, false, 0), (33, .iload_n 1, 1, false, 0), (34, .ireturn, 1, false, 0)]
set_option maxRecDepth 100000 in
theorem tk_X9_back : kp_ok cX9_back RX9 tb_X9_back = true := by decide +kernel
def tb_X9_learn : List Ent := [(0, .aload_n 0, 1, false, 0), (1, .getfield 58, 3, false, 0), (4, .aload_n 0, 1, false, 0), (5, .getfield 12, 3, false, 0), (8, .getfield 85, 3, false, 0), (11, .aload_n 0, 1, false, 0), (12, .getfield 44, 3, false, 0), (15, .invokevirtual 223, 3, false, 0), (18, .aload_n 0, 1, false, 0), (19, .getfield 58, 3, false, 0), (22, .iload_n 1, 1, false, 0), (23, .invokevirtual 227, 3, false, 0), (26, .ireturn, 1, false, 0)]
set_option maxRecDepth 100000 in
theorem tk_X9_learn : kp_ok cX9_learn RX9 tb_X9_learn = true := by decide +kernel
def tb_X9_saves : List Ent := [(0, .iload_n 1, 1, false, 0), (1, .invokestatic 165, 3, false, 0), (4, .ifCond .ne 5, 3, false, 0), (7, .iconst 0, 1, false, nI 0), (8, .ireturn, 1, false, 0), (9, .aload_n 0, 1, false, 0), (10, .getfield 58, 3, false, 0), (13, .aload_n 0, 1, false, 0), (14, .getfield 12, 3, false, 0), (17, .getfield 85, 3, false, 0), (20, .aload_n 0, 1, false, 0), (21, .getfield 44, 3, false, 0), (24, .invokevirtual 223, 3, false, 0), (27, .aload_n 0, 1, false, 0), (28, .getfield 58, 3, false, 0), (31, .getfield 230, 3, false, 0), (34, .iload_n 1, 1, false, 0), (35, .iaload, 1, false, 0), (36, .ireturn, 1, false, 0)]
set_option maxRecDepth 100000 in
theorem tk_X9_saves : kp_ok cX9_saves RX9 tb_X9_saves = true := by decide +kernel
def tb_X9_count : List Ent := [(0, .iload_n 1, 1, false, 0), (1, .tableswitch 143 0 8 #[51, 62, 73, 84, 92, 100, 108, 116, 124], 51, false, 0), (52, .aload_n 0, 1, false, 0), (53, .getfield 12, 3, false, 0), (56, .getfield 62, 3, false, 0), (59, .getfield 233, 3, false, 0), (62, .ireturn, 1, false, 0), (63, .aload_n 0, 1, false, 0), (64, .getfield 12, 3, false, 0), (67, .getfield 85, 3, false, 0), (70, .getfield 91, 3, false, 0), (73, .ireturn, 1, false, 0), (74, .aload_n 0, 1, false, 0), (75, .getfield 37, 3, false, 0), (78, .getfield 135, 3, false, 0), (81, .invokestatic 138, 3, false, 0), (84, .ireturn, 1, false, 0), (85, .aload_n 0, 1, false, 0), (86, .getfield 37, 3, false, 0), (89, .getfield 141, 3, false, 0), (92, .ireturn, 1, false, 0), (93, .aload_n 0, 1, false, 0), (94, .getfield 37, 3, false, 0), (97, .getfield 234, 3, false, 0), (100, .ireturn, 1, false, 0), (101, .aload_n 0, 1, false, 0), (102, .getfield 51, 3, false, 0), (105, .getfield 193, 3, false, 0), (108, .ireturn, 1, false, 0), (109, .aload_n 0, 1, false, 0), (110, .getfield 51, 3, false, 0), (113, .getfield 237, 3, false, 0), (116, .ireturn, 1, false, 0), (117, .aload_n 0, 1, false, 0), (118, .getfield 37, 3, false, 0), (121, .getfield 122, 3, false, 0), (124, .ireturn, 1, false, 0), (125, .aload_n 0, 1, false, 0), (126, .getfield 12, 3, false, 0), (129, .getfield 85, 3, false, 0), (132, .aload_n 0, 1, false, 0), (133, .getfield 19, 3, false, 0), (136, .aload_n 0, 1, false, 0), (137, .getfield 23, 3, false, 0), (140, .invokevirtual 213, 3, false, 0), (143, .ireturn, 1, false, 0), (144, .iconst (-1), 1, false, (-1)), (145, .ireturn, 1, false, 0)]
set_option maxRecDepth 100000 in
theorem tk_X9_count : kp_ok cX9_count RX9 tb_X9_count = true := by decide +kernel
def tb_X9_isCommand : List Ent := [(0, .iload_n 0, 1, false, 0), (1, .ifCond .lt 13, 3, false, 0), (4, .iload_n 0, 1, false, 0), (5, .bipush 40, 2, false, nI 40), (7, .if_icmp .ge 7, 3, false, 0), (10, .iconst 1, 1, false, nI 1), (11, .goto 4, 3, false, 0), (14, .iconst 0, 1, false, nI 0), (15, .ireturn, 1, false, 0)]
set_option maxRecDepth 100000 in
theorem tk_X9_isCommand : kp_ok cX9_isCommand RX9 tb_X9_isCommand = true := by decide +kernel
def tb_X10_thrown : List Ent := [(0, .aload_n 0, 1, false, 0), (1, .getfield 77, 3, false, 0), (4, .ireturn, 1, false, 0)]
set_option maxRecDepth 100000 in
theorem tk_X10_thrown : kp_ok cX10_thrown RX10 tb_X10_thrown = true := by decide +kernel
def tb_X10_isIn : List Ent := [(0, .iload_n 0, 1, false, 0), (1, .iload_n 1, 1, false, 0), (2, .if_icmp .lt 12, 3, false, 0), (5, .iload_n 0, 1, false, 0), (6, .iload_n 2, 1, false, 0), (7, .if_icmp .gt 7, 3, false, 0), (10, .iconst 1, 1, false, nI 1), (11, .goto 4, 3, false, 0), (14, .iconst 0, 1, false, nI 0), (15, .ireturn, 1, false, 0)]
set_option maxRecDepth 100000 in
theorem tk_X10_isIn : kp_ok cX10_isIn RX10 tb_X10_isIn = true := by decide +kernel
def tb_X10_isContext : List Ent := [(0, .iload_n 1, 1, false, 0), (1, .ifCond .lt 15, 3, false, 0), (4, .iload_n 1, 1, false, 0), (5, .aload_n 0, 1, false, 0), (6, .getfield 13, 3, false, 0), (9, .if_icmp .ge 7, 3, false, 0), (12, .iconst 1, 1, false, nI 1), (13, .goto 4, 3, false, 0), (16, .iconst 0, 1, false, nI 0), (17, .ireturn, 1, false, 0)]
set_option maxRecDepth 100000 in
theorem tk_X10_isContext : kp_ok cX10_isContext RX10 tb_X10_isContext = true := by decide +kernel
def tb_X10_stroke : List Ent := [(0, .iload_n 0, 1, false, 0), (1, .bipush 8, 2, false, nI 8), (3, .iload_n 1, 1, false, 0), (4, .imul, 1, false, 0), (5, .ishr, 1, false, 0), (6, .sipush 255, 3, false, nI 255), (9, .iand, 1, false, 0), (10, .ireturn, 1, false, 0)]
set_option maxRecDepth 100000 in
theorem tk_X10_stroke : kp_ok cX10_stroke RX10 tb_X10_stroke = true := by decide +kernel
def tb_X10_length : List Ent := [(0, .iload_n 0, 1, false, 0), (1, .iconst 2, 1, false, nI 2), (2, .invokestatic 80, 3, false, 0), (5, .ifCond .eq 7, 3, false, 0), (8, .iconst 3, 1, false, nI 3), (9, .goto 16, 3, false, 0), (12, .iload_n 0, 1, false, 0), (13, .iconst 1, 1, false, nI 1), (14, .invokestatic 80, 3, false, 0), (17, .ifCond .eq 7, 3, false, 0), (20, .iconst 2, 1, false, nI 2), (21, .goto 4, 3, false, 0), (24, .iconst 1, 1, false, nI 1), (25, .ireturn, 1, false, 0)]
set_option maxRecDepth 100000 in
theorem tk_X10_length : kp_ok cX10_length RX10 tb_X10_length = true := by decide +kernel
def tb_X10_isRow : List Ent := [(0, .iload_n 0, 1, false, 0), (1, .ifCond .lt 10, 3, false, 0), (4, .iload_n 0, 1, false, 0), (5, .bipush 24, 2, false, nI 24), (7, .ishr, 1, false, 0), (8, .ifCond .eq 5, 3, false, 0), (11, .iconst 0, 1, false, nI 0), (12, .ireturn, 1, false, 0), (13, .iload_n 0, 1, false, 0), (14, .iconst 0, 1, false, nI 0), (15, .invokestatic 80, 3, false, 0), (18, .istore_n 1, 1, false, 0), (19, .iload_n 0, 1, false, 0), (20, .iconst 1, 1, false, nI 1), (21, .invokestatic 80, 3, false, 0), (24, .istore_n 2, 1, false, 0), (25, .iload_n 0, 1, false, 0), (26, .iconst 2, 1, false, nI 2), (27, .invokestatic 80, 3, false, 0), (30, .istore_n 3, 1, false, 0), (31, .iload_n 1, 1, false, 0), (32, .iconst 1, 1, false, nI 1), (33, .sipush 240, 3, false, nI 240), (36, .invokestatic 84, 3, false, 0), (39, .ifCond .eq 29, 3, false, 0), (42, .iload_n 2, 1, false, 0), (43, .sipush 240, 3, false, nI 240), (46, .if_icmp .gt 22, 3, false, 0), (49, .iload_n 3, 1, false, 0), (50, .sipush 240, 3, false, nI 240), (53, .if_icmp .gt 15, 3, false, 0), (56, .iload_n 3, 1, false, 0), (57, .ifCond .eq 7, 3, false, 0), (60, .iload_n 2, 1, false, 0), (61, .ifCond .eq 7, 3, false, 0), (64, .iconst 1, 1, false, nI 1), (65, .goto 4, 3, false, 0), (68, .iconst 0, 1, false, nI 0), (69, .ireturn, 1, false, 0)]
set_option maxRecDepth 100000 in
theorem tk_X10_isRow : kp_ok cX10_isRow RX10 tb_X10_isRow = true := by decide +kernel
def tb_X10_context : List Ent := [(0, .aload_n 0, 1, false, 0), (1, .iconst 0, 1, false, nI 0), (2, .putfield 77, 3, false, 0), (5, .aload_n 0, 1, false, 0), (6, .iload_n 1, 1, false, 0), (7, .invokevirtual 88, 3, false, 0), (10, .ifCond .eq 12, 3, false, 0), (13, .aload_n 0, 1, false, 0), (14, .getfield 13, 3, false, 0), (17, .bipush 12, 2, false, nI 12), (19, .if_icmp .ne 5, 3, false, 0), (22, .iconst (-1), 1, false, (-1)), (23, .ireturn, 1, false, 0), (24, .aload_n 0, 1, false, 0), (25, .getfield 9, 3, false, 0), (28, .aload_n 0, 1, false, 0), (29, .getfield 13, 3, false, 0), (32, .iload_n 1, 1, false, 0), (33, .iastore, 1, false, 0), (34, .aload_n 0, 1, false, 0), (35, .dup, 1, false, 0), (36, .getfield 13, 3, false, 0), (39, .iconst 1, 1, false, nI 1), (40, .iadd, 1, false, 0), (41, .putfield 13, 3, false, 0), (44, .aload_n 0, 1, false, 0), (45, .getfield 13, 3, false, 0), (48, .iconst 1, 1, false, nI 1), (49, .isub, 1, false, 0), (50, .ireturn, 1, false, 0)]
set_option maxRecDepth 100000 in
theorem tk_X10_context : kp_ok cX10_context RX10 tb_X10_context = true := by decide +kernel
def tb_X10_entry : List Ent := [(0, .iconst 0, 1, false, nI 0), (1, .istore_n 3, 1, false, 0), (2, .iload_n 3, 1, true, 0), (3, .aload_n 0, 1, false, 0), (4, .getfield 92, 3, false, 0), (7, .if_icmp .ge 31, 3, false, 0), (10, .aload_n 0, 1, false, 0), (11, .getfield 20, 3, false, 0), (14, .iload_n 3, 1, false, 0), (15, .iaload, 1, false, 0), (16, .iload_n 1, 1, false, 0), (17, .if_icmp .ne 15, 3, false, 0), (20, .aload_n 0, 1, false, 0), (21, .getfield 23, 3, false, 0), (24, .iload_n 3, 1, false, 0), (25, .iaload, 1, false, 0), (26, .iload_n 2, 1, false, 0), (27, .if_icmp .ne 5, 3, false, 0), (30, .iload_n 3, 1, false, 0), (31, .ireturn, 1, false, 0), (32, .iinc 3 1, 3, false, nI 1), (35, .goto (-33), 3, false, 0), (38, .iconst (-1), 1, false, (-1)), (39, .ireturn, 1, false, 0)]
set_option maxRecDepth 100000 in
theorem tk_X10_entry : kp_ok cX10_entry RX10 tb_X10_entry = true := by decide +kernel
def tb_X10_hasFor : List Ent := [(0, .aload_n 0, 1, false, 0), (1, .iload_n 1, 1, false, 0), (2, .iload_n 2, 1, false, 0), (3, .invokevirtual 95, 3, false, 0), (6, .istore_n 3, 1, false, 0), (7, .iload_n 3, 1, false, 0), (8, .iconst (-1), 1, false, (-1)), (9, .if_icmp .ne 7, 3, false, 0), (12, .iconst (-1), 1, false, (-1)), (13, .goto 9, 3, false, 0), (16, .aload_n 0, 1, false, 0), (17, .getfield 26, 3, false, 0), (20, .iload_n 3, 1, false, 0), (21, .iaload, 1, false, 0), (22, .ireturn, 1, false, 0)]
set_option maxRecDepth 100000 in
theorem tk_X10_hasFor : kp_ok cX10_hasFor RX10 tb_X10_hasFor = true := by decide +kernel
def tb_X10_set : List Ent := [(0, .aload_n 0, 1, false, 0), (1, .iload_n 1, 1, false, 0), (2, .iload_n 2, 1, false, 0), (3, .invokevirtual 95, 3, false, 0), (6, .istore 4, 2, false, 0), (8, .iload_n 3, 1, false, 0), (9, .iconst (-1), 1, false, (-1)), (10, .if_icmp .ne 88, 3, false, 0), (13, .iload 4, 2, false, 0), (15, .iconst (-1), 1, false, (-1)), (16, .if_icmp .ne 4, 3, false, 0), (19, .return_, 1, false, 0), (20, .aload_n 0, 1, false, 0), (21, .dup, 1, false, 0), (22, .getfield 92, 3, false, 0), (25, .iconst 1, 1, false, nI 1), (26, .isub, 1, false, 0), (27, .putfield 92, 3, false, 0), (30, .iload 4, 2, false, 0), (32, .istore 5, 2, false, 0), (34, .iload 5, 2, true, 0), (36, .aload_n 0, 1, false, 0), (37, .getfield 92, 3, false, 0), (40, .if_icmp .ge 57, 3, false, 0), (43, .aload_n 0, 1, false, 0), (44, .getfield 20, 3, false, 0), (47, .iload 5, 2, false, 0), (49, .aload_n 0, 1, false, 0), (50, .getfield 20, 3, false, 0), (53, .iload 5, 2, false, 0), (55, .iconst 1, 1, false, nI 1), (56, .iadd, 1, false, 0), (57, .iaload, 1, false, 0), (58, .iastore, 1, false, 0), (59, .aload_n 0, 1, false, 0), (60, .getfield 23, 3, false, 0), (63, .iload 5, 2, false, 0), (65, .aload_n 0, 1, false, 0), (66, .getfield 23, 3, false, 0), (69, .iload 5, 2, false, 0), (71, .iconst 1, 1, false, nI 1), (72, .iadd, 1, false, 0), (73, .iaload, 1, false, 0), (74, .iastore, 1, false, 0), (75, .aload_n 0, 1, false, 0), (76, .getfield 26, 3, false, 0), (79, .iload 5, 2, false, 0), (81, .aload_n 0, 1, false, 0), (82, .getfield 26, 3, false, 0), (85, .iload 5, 2, false, 0), (87, .iconst 1, 1, false, nI 1), (88, .iadd, 1, false, 0), (89, .iaload, 1, false, 0), (90, .iastore, 1, false, 0), (91, .iinc 5 1, 3, false, nI 1), (94, .goto (-60), 3, false, 0), (97, .return_, 1, false, 0), (98, .iload 4, 2, false, 0), (100, .iconst (-1), 1, false, (-1)), (101, .if_icmp .ne 35, 3, false, 0), (104, .aload_n 0, 1, false, 0), (105, .getfield 92, 3, false, 0), (108, .istore 4, 2, false, 0), (110, .aload_n 0, 1, false, 0), (111, .dup, 1, false, 0), (112, .getfield 92, 3, false, 0), (115, .iconst 1, 1, false, nI 1), (116, .iadd, 1, false, 0), (117, .putfield 92, 3, false, 0), (120, .aload_n 0, 1, false, 0), (121, .getfield 20, 3, false, 0), (124, .iload 4, 2, false, 0), (126, .iload_n 1, 1, false, 0), (127, .iastore, 1, false, 0), (128, .aload_n 0, 1, false, 0), (129, .getfield 23, 3, false, 0), (132, .iload 4, 2, false, 0), (134, .iload_n 2, 1, false, 0), (135, .iastore, 1, false, 0), (136, .aload_n 0, 1, false, 0), (137, .getfield 26, 3, false, 0), (140, .iload 4, 2, false, 0), (142, .iload_n 3, 1, false, 0), (143, .iastore, 1, false, 0), (144, .return_, 1, false, 0)]
set_option maxRecDepth 100000 in
theorem tk_X10_set : kp_ok cX10_set RX10 tb_X10_set = true := by decide +kernel
def tb_X10_bind : List Ent := [(0, .aload_n 0, 1, false, 0), (1, .iconst 0, 1, false, nI 0), (2, .putfield 77, 3, false, 0), (5, .aload_n 0, 1, false, 0), (6, .iload_n 1, 1, false, 0), (7, .invokevirtual 88, 3, false, 0), (10, .ifCond .eq 20, 3, false, 0), (13, .iload_n 2, 1, false, 0), (14, .invokestatic 98, 3, false, 0), (17, .ifCond .eq 13, 3, false, 0), (20, .iload_n 3, 1, false, 0), (21, .iconst (-1), 1, false, (-1)), (22, .bipush 40, 2, false, nI 40), (24, .invokestatic 84, 3, false, 0), (27, .ifCond .ne 6, 3, false, 0), (30, .bipush (-2), 2, false, (-2)), (32, .ireturn, 1, false, 0), (33, .aload_n 0, 1, false, 0), (34, .iload_n 1, 1, false, 0), (35, .iload_n 2, 1, false, 0), (36, .invokevirtual 101, 3, false, 0), (39, .istore 4, 2, false, 0), (41, .iload 4, 2, false, 0), (43, .iconst (-1), 1, false, (-1)), (44, .if_icmp .ne 20, 3, false, 0), (47, .iload_n 3, 1, false, 0), (48, .iconst (-1), 1, false, (-1)), (49, .if_icmp .eq 15, 3, false, 0), (52, .aload_n 0, 1, false, 0), (53, .getfield 92, 3, false, 0), (56, .bipush 120, 2, false, nI 120), (58, .if_icmp .ne 6, 3, false, 0), (61, .bipush (-2), 2, false, (-2)), (63, .ireturn, 1, false, 0), (64, .aload_n 0, 1, false, 0), (65, .iload_n 1, 1, false, 0), (66, .iload_n 2, 1, false, 0), (67, .iload_n 3, 1, false, 0), (68, .invokevirtual 104, 3, false, 0), (71, .iload 4, 2, false, 0), (73, .ireturn, 1, false, 0)]
set_option maxRecDepth 100000 in
theorem tk_X10_bind : kp_ok cX10_bind RX10 tb_X10_bind = true := by decide +kernel
def tb_X10_has : List Ent := [(0, .aload_n 0, 1, false, 0), (1, .iconst 0, 1, false, nI 0), (2, .putfield 77, 3, false, 0), (5, .aload_n 0, 1, false, 0), (6, .iload_n 1, 1, false, 0), (7, .invokevirtual 88, 3, false, 0), (10, .ifCond .eq 19, 3, false, 0), (13, .iload_n 2, 1, false, 0), (14, .invokestatic 98, 3, false, 0), (17, .ifCond .eq 12, 3, false, 0), (20, .aload_n 0, 1, false, 0), (21, .iload_n 1, 1, false, 0), (22, .iload_n 2, 1, false, 0), (23, .invokevirtual 101, 3, false, 0), (26, .goto 4, 3, false, 0), (29, .iconst (-1), 1, false, (-1)), (30, .ireturn, 1, false, 0)]
set_option maxRecDepth 100000 in
theorem tk_X10_has : kp_ok cX10_has RX10 tb_X10_has = true := by decide +kernel
def tb_X10_meaning : List Ent := [(0, .iload_n 1, 1, false, 0), (1, .istore_n 3, 1, false, 0), (2, .iload_n 3, 1, true, 0), (3, .iconst (-1), 1, false, (-1)), (4, .if_icmp .eq 41, 3, false, 0), (7, .aload_n 0, 1, false, 0), (8, .iload_n 3, 1, false, 0), (9, .iload_n 2, 1, false, 0), (10, .invokevirtual 101, 3, false, 0), (13, .istore 4, 2, false, 0), (15, .iload 4, 2, false, 0), (17, .iconst (-1), 1, false, (-1)), (18, .if_icmp .eq 17, 3, false, 0), (21, .iload 4, 2, false, 0), (23, .bipush 40, 2, false, nI 40), (25, .if_icmp .ne 7, 3, false, 0), (28, .iconst (-1), 1, false, (-1)), (29, .goto 5, 3, false, 0), (32, .iload 4, 2, false, 0), (34, .ireturn, 1, false, 0), (35, .aload_n 0, 1, false, 0), (36, .getfield 9, 3, false, 0), (39, .iload_n 3, 1, false, 0), (40, .iaload, 1, false, 0), (41, .istore_n 3, 1, false, 0), (42, .goto (-40), 3, false, 0), (45, .iconst (-1), 1, false, (-1)), (46, .ireturn, 1, false, 0)]
set_option maxRecDepth 100000 in
theorem tk_X10_meaning : kp_ok cX10_meaning RX10 tb_X10_meaning = true := by decide +kernel
def tb_X10_means : List Ent := [(0, .aload_n 0, 1, false, 0), (1, .iconst 0, 1, false, nI 0), (2, .putfield 77, 3, false, 0), (5, .aload_n 0, 1, false, 0), (6, .iload_n 1, 1, false, 0), (7, .invokevirtual 88, 3, false, 0), (10, .ifCond .eq 19, 3, false, 0), (13, .iload_n 2, 1, false, 0), (14, .invokestatic 98, 3, false, 0), (17, .ifCond .eq 12, 3, false, 0), (20, .aload_n 0, 1, false, 0), (21, .iload_n 1, 1, false, 0), (22, .iload_n 2, 1, false, 0), (23, .invokevirtual 108, 3, false, 0), (26, .goto 4, 3, false, 0), (29, .iconst (-1), 1, false, (-1)), (30, .ireturn, 1, false, 0)]
set_option maxRecDepth 100000 in
theorem tk_X10_means : kp_ok cX10_means RX10 tb_X10_means = true := by decide +kernel
def tb_X10_begins : List Ent := [(0, .iload_n 0, 1, false, 0), (1, .invokestatic 111, 3, false, 0), (4, .iload_n 1, 1, false, 0), (5, .invokestatic 111, 3, false, 0), (8, .if_icmp .ge 24, 3, false, 0), (11, .iload_n 1, 1, false, 0), (12, .iconst 1, 1, false, nI 1), (13, .bipush 8, 2, false, nI 8), (15, .iload_n 0, 1, false, 0), (16, .invokestatic 111, 3, false, 0), (19, .imul, 1, false, 0), (20, .ishl, 1, false, 0), (21, .iconst 1, 1, false, nI 1), (22, .isub, 1, false, 0), (23, .iand, 1, false, 0), (24, .iload_n 0, 1, false, 0), (25, .if_icmp .ne 7, 3, false, 0), (28, .iconst 1, 1, false, nI 1), (29, .goto 4, 3, false, 0), (32, .iconst 0, 1, false, nI 0), (33, .ireturn, 1, false, 0)]
set_option maxRecDepth 100000 in
theorem tk_X10_begins : kp_ok cX10_begins RX10 tb_X10_begins = true := by decide +kernel
def tb_X10_findRows : List Ent := [(0, .aload_n 0, 1, false, 0), (1, .iconst 0, 1, false, nI 0), (2, .putfield 115, 3, false, 0), (5, .iconst 0, 1, false, nI 0), (6, .istore_n 2, 1, false, 0), (7, .iload_n 2, 1, true, 0), (8, .aload_n 0, 1, false, 0), (9, .getfield 92, 3, false, 0), (12, .if_icmp .ge 140, 3, false, 0), (15, .aload_n 0, 1, false, 0), (16, .iload_n 1, 1, false, 0), (17, .aload_n 0, 1, false, 0), (18, .getfield 23, 3, false, 0), (21, .iload_n 2, 1, false, 0), (22, .iaload, 1, false, 0), (23, .invokevirtual 108, 3, false, 0), (26, .iconst (-1), 1, false, (-1)), (27, .if_icmp .ne 6, 3, false, 0), (30, .goto 116, 3, false, 0), (33, .iconst 0, 1, false, nI 0), (34, .istore_n 3, 1, false, 0), (35, .iload_n 3, 1, true, 0), (36, .aload_n 0, 1, false, 0), (37, .getfield 115, 3, false, 0), (40, .if_icmp .ge 24, 3, false, 0), (43, .aload_n 0, 1, false, 0), (44, .getfield 68, 3, false, 0), (47, .iload_n 3, 1, false, 0), (48, .iaload, 1, false, 0), (49, .aload_n 0, 1, false, 0), (50, .getfield 23, 3, false, 0), (53, .iload_n 2, 1, false, 0), (54, .iaload, 1, false, 0), (55, .if_icmp .ge 9, 3, false, 0), (58, .iinc 3 1, 3, false, nI 1), (61, .goto (-26), 3, false, 0), (64, .iload_n 3, 1, false, 0), (65, .aload_n 0, 1, false, 0), (66, .getfield 115, 3, false, 0), (69, .if_icmp .ge 21, 3, false, 0), (72, .aload_n 0, 1, false, 0), (73, .getfield 68, 3, false, 0), (76, .iload_n 3, 1, false, 0), (77, .iaload, 1, false, 0), (78, .aload_n 0, 1, false, 0), (79, .getfield 23, 3, false, 0), (82, .iload_n 2, 1, false, 0), (83, .iaload, 1, false, 0), (84, .if_icmp .ne 6, 3, false, 0), (87, .goto 59, 3, false, 0), (90, .aload_n 0, 1, false, 0), (91, .getfield 115, 3, false, 0), (94, .istore 4, 2, false, 0), (96, .iload 4, 2, true, 0), (98, .iload_n 3, 1, false, 0), (99, .if_icmp .le 25, 3, false, 0), (102, .aload_n 0, 1, false, 0), (103, .getfield 68, 3, false, 0), (106, .iload 4, 2, false, 0), (108, .aload_n 0, 1, false, 0), (109, .getfield 68, 3, false, 0), (112, .iload 4, 2, false, 0), (114, .iconst 1, 1, false, nI 1), (115, .isub, 1, false, 0), (116, .iaload, 1, false, 0), (117, .iastore, 1, false, 0), (118, .iinc 4 (-1), 3, false, (-1)), (121, .goto (-25), 3, false, 0), (124, .aload_n 0, 1, false, 0), (125, .getfield 68, 3, false, 0), (128, .iload_n 3, 1, false, 0), (129, .aload_n 0, 1, false, 0), (130, .getfield 23, 3, false, 0), (133, .iload_n 2, 1, false, 0), (134, .iaload, 1, false, 0), (135, .iastore, 1, false, 0), (136, .aload_n 0, 1, false, 0), (137, .dup, 1, false, 0), (138, .getfield 115, 3, false, 0), (141, .iconst 1, 1, false, nI 1), (142, .iadd, 1, false, 0), (143, .putfield 115, 3, false, 0), (146, .iinc 2 1, 3, false, nI 1), (149, .goto (-142), 3, false, 0), (152, .return_, 1, false, 0)]
set_option maxRecDepth 100000 in
theorem tk_X10_findRows : kp_ok cX10_findRows RX10 tb_X10_findRows = true := by decide +kernel
def tb_X10_fightOf : List Ent := [(0, .aload_n 0, 1, false, 0), (1, .iload_n 1, 1, false, 0), (2, .invokevirtual 118, 3, false, 0), (5, .iconst 0, 1, false, nI 0), (6, .istore 4, 2, false, 0), (8, .iconst 0, 1, false, nI 0), (9, .istore 5, 2, false, 0), (11, .iload 5, 2, true, 0), (13, .aload_n 0, 1, false, 0), (14, .getfield 115, 3, false, 0), (17, .if_icmp .ge 90, 3, false, 0), (20, .iconst 0, 1, false, nI 0), (21, .istore 6, 2, false, 0), (23, .iload 6, 2, true, 0), (25, .aload_n 0, 1, false, 0), (26, .getfield 115, 3, false, 0), (29, .if_icmp .ge 72, 3, false, 0), (32, .aload_n 0, 1, false, 0), (33, .getfield 68, 3, false, 0), (36, .iload 5, 2, false, 0), (38, .iaload, 1, false, 0), (39, .aload_n 0, 1, false, 0), (40, .getfield 68, 3, false, 0), (43, .iload 6, 2, false, 0), (45, .iaload, 1, false, 0), (46, .invokestatic 122, 3, false, 0), (49, .ifCond .ne 6, 3, false, 0), (52, .goto 43, 3, false, 0), (55, .iload 4, 2, false, 0), (57, .iload_n 2, 1, false, 0), (58, .if_icmp .ne 34, 3, false, 0), (61, .iload_n 3, 1, false, 0), (62, .ifCond .ne 13, 3, false, 0), (65, .aload_n 0, 1, false, 0), (66, .getfield 68, 3, false, 0), (69, .iload 5, 2, false, 0), (71, .iaload, 1, false, 0), (72, .goto 19, 3, false, 0), (75, .iload_n 3, 1, false, 0), (76, .iconst 1, 1, false, nI 1), (77, .if_icmp .ne 13, 3, false, 0), (80, .aload_n 0, 1, false, 0), (81, .getfield 68, 3, false, 0), (84, .iload 6, 2, false, 0), (86, .iaload, 1, false, 0), (87, .goto 4, 3, false, 0), (90, .iconst (-1), 1, false, (-1)), (91, .ireturn, 1, false, 0), (92, .iinc 4 1, 3, false, nI 1), (95, .iinc 6 1, 3, false, nI 1), (98, .goto (-75), 3, false, 0), (101, .iinc 5 1, 3, false, nI 1), (104, .goto (-93), 3, false, 0), (107, .iload_n 2, 1, false, 0), (108, .ifCond .ge 8, 3, false, 0), (111, .iload 4, 2, false, 0), (113, .goto 4, 3, false, 0), (116, .iconst (-1), 1, false, (-1)), (117, .ireturn, 1, false, 0)]
set_option maxRecDepth 100000 in
theorem tk_X10_fightOf : kp_ok cX10_fightOf RX10 tb_X10_fightOf = true := by decide +kernel
def tb_X10_fight : List Ent := [(0, .aload_n 0, 1, false, 0), (1, .iconst 0, 1, false, nI 0), (2, .putfield 77, 3, false, 0), (5, .aload_n 0, 1, false, 0), (6, .iload_n 1, 1, false, 0), (7, .invokevirtual 88, 3, false, 0), (10, .ifCond .eq 17, 3, false, 0), (13, .iload_n 2, 1, false, 0), (14, .ifCond .lt 13, 3, false, 0), (17, .aload_n 0, 1, false, 0), (18, .iload_n 1, 1, false, 0), (19, .iload_n 2, 1, false, 0), (20, .iload_n 3, 1, false, 0), (21, .invokevirtual 126, 3, false, 0), (24, .goto 4, 3, false, 0), (27, .iconst (-1), 1, false, (-1)), (28, .ireturn, 1, false, 0)]
set_option maxRecDepth 100000 in
theorem tk_X10_fight : kp_ok cX10_fight RX10 tb_X10_fight = true := by decide +kernel
def tb_X10_fights : List Ent := [(0, .aload_n 0, 1, false, 0), (1, .iconst 0, 1, false, nI 0), (2, .putfield 77, 3, false, 0), (5, .aload_n 0, 1, false, 0), (6, .iload_n 1, 1, false, 0), (7, .invokevirtual 88, 3, false, 0), (10, .ifCond .eq 13, 3, false, 0), (13, .aload_n 0, 1, false, 0), (14, .iload_n 1, 1, false, 0), (15, .iconst (-1), 1, false, (-1)), (16, .iconst 0, 1, false, nI 0), (17, .invokevirtual 126, 3, false, 0), (20, .goto 4, 3, false, 0), (23, .iconst (-1), 1, false, (-1)), (24, .ireturn, 1, false, 0)]
set_option maxRecDepth 100000 in
theorem tk_X10_fights : kp_ok cX10_fights RX10 tb_X10_fights = true := by decide +kernel
def tb_X10_patience : List Ent := [(0, .aload_n 0, 1, false, 0), (1, .iconst 0, 1, false, nI 0), (2, .putfield 77, 3, false, 0), (5, .iload_n 1, 1, false, 0), (6, .iconst 0, 1, false, nI 0), (7, .bipush 100, 2, false, nI 100), (9, .invokestatic 84, 3, false, 0), (12, .ifCond .ne 5, 3, false, 0), (15, .iconst 0, 1, false, nI 0), (16, .ireturn, 1, false, 0), (17, .aload_n 0, 1, false, 0), (18, .iload_n 1, 1, false, 0), (19, .putfield 17, 3, false, 0), (22, .iconst 1, 1, false, nI 1), (23, .ireturn, 1, false, 0)]
set_option maxRecDepth 100000 in
theorem tk_X10_patience : kp_ok cX10_patience RX10 tb_X10_patience = true := by decide +kernel
def tb_X10_ahead : List Ent := [(0, .iconst 0, 1, false, nI 0), (1, .istore_n 2, 1, false, 0), (2, .iconst 0, 1, false, nI 0), (3, .istore_n 3, 1, false, 0), (4, .iload_n 3, 1, true, 0), (5, .iload_n 1, 1, false, 0), (6, .if_icmp .ge 23, 3, false, 0), (9, .iload_n 2, 1, false, 0), (10, .aload_n 0, 1, false, 0), (11, .getfield 38, 3, false, 0), (14, .iload_n 3, 1, false, 0), (15, .iaload, 1, false, 0), (16, .bipush 8, 2, false, nI 8), (18, .iload_n 3, 1, false, 0), (19, .imul, 1, false, 0), (20, .ishl, 1, false, 0), (21, .ior, 1, false, 0), (22, .istore_n 2, 1, false, 0), (23, .iinc 3 1, 3, false, nI 1), (26, .goto (-22), 3, false, 0), (29, .iload_n 2, 1, false, 0), (30, .ireturn, 1, false, 0)]
set_option maxRecDepth 100000 in
theorem tk_X10_ahead : kp_ok cX10_ahead RX10 tb_X10_ahead = true := by decide +kernel
def tb_X10_goes : List Ent := [(0, .aload_n 0, 1, false, 0), (1, .dup, 1, false, 0), (2, .getfield 130, 3, false, 0), (5, .iload_n 1, 1, false, 0), (6, .isub, 1, false, 0), (7, .putfield 130, 3, false, 0), (10, .iconst 0, 1, false, nI 0), (11, .istore_n 2, 1, false, 0), (12, .iload_n 2, 1, true, 0), (13, .aload_n 0, 1, false, 0), (14, .getfield 130, 3, false, 0), (17, .if_icmp .ge 23, 3, false, 0), (20, .aload_n 0, 1, false, 0), (21, .getfield 38, 3, false, 0), (24, .iload_n 2, 1, false, 0), (25, .aload_n 0, 1, false, 0), (26, .getfield 38, 3, false, 0), (29, .iload_n 2, 1, false, 0), (30, .iload_n 1, 1, false, 0), (31, .iadd, 1, false, 0), (32, .iaload, 1, false, 0), (33, .iastore, 1, false, 0), (34, .iinc 2 1, 3, false, nI 1), (37, .goto (-25), 3, false, 0), (40, .return_, 1, false, 0)]
set_option maxRecDepth 100000 in
theorem tk_X10_goes : kp_ok cX10_goes RX10 tb_X10_goes = true := by decide +kernel
def tb_X10_one : List Ent := [(0, .iconst 3, 1, false, nI 3), (1, .aload_n 0, 1, false, 0), (2, .getfield 130, 3, false, 0), (5, .invokestatic 133, 3, false, 0), (8, .istore_n 2, 1, false, 0), (9, .iload_n 2, 1, true, 0), (10, .ifCond .le 77, 3, false, 0), (13, .aload_n 0, 1, false, 0), (14, .aload_n 0, 1, false, 0), (15, .getfield 138, 3, false, 0), (18, .aload_n 0, 1, false, 0), (19, .iload_n 2, 1, false, 0), (20, .invokevirtual 141, 3, false, 0), (23, .invokevirtual 108, 3, false, 0), (26, .istore_n 3, 1, false, 0), (27, .iload_n 3, 1, false, 0), (28, .iconst (-1), 1, false, (-1)), (29, .if_icmp .ne 6, 3, false, 0), (32, .goto 49, 3, false, 0), (35, .aload_n 0, 1, false, 0), (36, .getfield 144, 3, false, 0), (39, .sipush 400, 3, false, nI 400), (42, .if_icmp .ge 23, 3, false, 0), (45, .aload_n 0, 1, false, 0), (46, .getfield 41, 3, false, 0), (49, .aload_n 0, 1, false, 0), (50, .getfield 144, 3, false, 0), (53, .iload_n 3, 1, false, 0), (54, .iastore, 1, false, 0), (55, .aload_n 0, 1, false, 0), (56, .getfield 44, 3, false, 0), (59, .aload_n 0, 1, false, 0), (60, .getfield 144, 3, false, 0), (63, .iload_n 1, 1, false, 0), (64, .iastore, 1, false, 0), (65, .aload_n 0, 1, false, 0), (66, .dup, 1, false, 0), (67, .getfield 144, 3, false, 0), (70, .iconst 1, 1, false, nI 1), (71, .iadd, 1, false, 0), (72, .putfield 144, 3, false, 0), (75, .aload_n 0, 1, false, 0), (76, .iload_n 2, 1, false, 0), (77, .invokevirtual 147, 3, false, 0), (80, .return_, 1, false, 0), (81, .iinc 2 (-1), 3, false, (-1)), (84, .goto (-75), 3, false, 0), (87, .aload_n 0, 1, false, 0), (88, .dup, 1, false, 0), (89, .getfield 150, 3, false, 0), (92, .iconst 1, 1, false, nI 1), (93, .iadd, 1, false, 0), (94, .putfield 150, 3, false, 0), (97, .aload_n 0, 1, false, 0), (98, .iconst 1, 1, false, nI 1), (99, .invokevirtual 147, 3, false, 0), (102, .return_, 1, false, 0)]
set_option maxRecDepth 100000 in
theorem tk_X10_one : kp_ok cX10_one RX10 tb_X10_one = true := by decide +kernel
def tb_X10_leads : List Ent := [(0, .aload_n 0, 1, false, 0), (1, .getfield 130, 3, false, 0), (4, .iconst 3, 1, false, nI 3), (5, .if_icmp .le 5, 3, false, 0), (8, .iconst 0, 1, false, nI 0), (9, .ireturn, 1, false, 0), (10, .aload_n 0, 1, false, 0), (11, .aload_n 0, 1, false, 0), (12, .getfield 130, 3, false, 0), (15, .invokevirtual 141, 3, false, 0), (18, .istore_n 2, 1, false, 0), (19, .iconst 0, 1, false, nI 0), (20, .istore_n 3, 1, false, 0), (21, .iload_n 3, 1, true, 0), (22, .aload_n 0, 1, false, 0), (23, .getfield 92, 3, false, 0), (26, .if_icmp .ge 56, 3, false, 0), (29, .iload_n 2, 1, false, 0), (30, .aload_n 0, 1, false, 0), (31, .getfield 23, 3, false, 0), (34, .iload_n 3, 1, false, 0), (35, .iaload, 1, false, 0), (36, .invokestatic 122, 3, false, 0), (39, .ifCond .ne 17, 3, false, 0), (42, .iload_n 1, 1, false, 0), (43, .ifCond .ne 33, 3, false, 0), (46, .iload_n 2, 1, false, 0), (47, .aload_n 0, 1, false, 0), (48, .getfield 23, 3, false, 0), (51, .iload_n 3, 1, false, 0), (52, .iaload, 1, false, 0), (53, .if_icmp .ne 23, 3, false, 0), (56, .aload_n 0, 1, false, 0), (57, .aload_n 0, 1, false, 0), (58, .getfield 138, 3, false, 0), (61, .aload_n 0, 1, false, 0), (62, .getfield 23, 3, false, 0), (65, .iload_n 3, 1, false, 0), (66, .iaload, 1, false, 0), (67, .invokevirtual 108, 3, false, 0), (70, .iconst (-1), 1, false, (-1)), (71, .if_icmp .eq 5, 3, false, 0), (74, .iconst 1, 1, false, nI 1), (75, .ireturn, 1, false, 0), (76, .iinc 3 1, 3, false, nI 1), (79, .goto (-58), 3, false, 0), (82, .iconst 0, 1, false, nI 0), (83, .ireturn, 1, false, 0)]
set_option maxRecDepth 100000 in
theorem tk_X10_leads : kp_ok cX10_leads RX10 tb_X10_leads = true := by decide +kernel
def tb_X10_settles : List Ent := [(0, .aload_n 0, 1, true, 0), (1, .getfield 130, 3, false, 0), (4, .ifCond .le 11, 3, false, 0), (7, .aload_n 0, 1, false, 0), (8, .iload_n 1, 1, false, 0), (9, .invokevirtual 153, 3, false, 0), (12, .goto (-12), 3, false, 0), (15, .return_, 1, false, 0)]
set_option maxRecDepth 100000 in
theorem tk_X10_settles : kp_ok cX10_settles RX10 tb_X10_settles = true := by decide +kernel
def tb_X10_go : List Ent := [(0, .aload_n 0, 1, false, 0), (1, .iconst 0, 1, false, nI 0), (2, .putfield 77, 3, false, 0), (5, .aload_n 0, 1, false, 0), (6, .iload_n 1, 1, false, 0), (7, .invokevirtual 88, 3, false, 0), (10, .ifCond .ne 5, 3, false, 0), (13, .iconst 0, 1, false, nI 0), (14, .ireturn, 1, false, 0), (15, .aload_n 0, 1, false, 0), (16, .aload_n 0, 1, false, 0), (17, .getfield 156, 3, false, 0), (20, .invokevirtual 159, 3, false, 0), (23, .aload_n 0, 1, false, 0), (24, .iload_n 1, 1, false, 0), (25, .putfield 138, 3, false, 0), (28, .iconst 1, 1, false, nI 1), (29, .ireturn, 1, false, 0)]
set_option maxRecDepth 100000 in
theorem tk_X10_go : kp_ok cX10_go RX10 tb_X10_go = true := by decide +kernel
def tb_X10_type : List Ent := [(0, .aload_n 0, 1, false, 0), (1, .iconst 0, 1, false, nI 0), (2, .putfield 77, 3, false, 0), (5, .iload_n 1, 1, false, 0), (6, .iconst 1, 1, false, nI 1), (7, .sipush 240, 3, false, nI 240), (10, .invokestatic 84, 3, false, 0), (13, .ifCond .eq 16, 3, false, 0), (16, .iload_n 2, 1, false, 0), (17, .aload_n 0, 1, false, 0), (18, .getfield 156, 3, false, 0), (21, .ldc 162, 2, false, nI 1000000), (23, .invokestatic 84, 3, false, 0), (26, .ifCond .ne 5, 3, false, 0), (29, .iconst (-1), 1, false, (-1)), (30, .ireturn, 1, false, 0), (31, .iload_n 2, 1, false, 0), (32, .aload_n 0, 1, false, 0), (33, .getfield 156, 3, false, 0), (36, .isub, 1, false, 0), (37, .aload_n 0, 1, false, 0), (38, .getfield 17, 3, false, 0), (41, .if_icmp .le 16, 3, false, 0), (44, .aload_n 0, 1, false, 0), (45, .aload_n 0, 1, false, 0), (46, .getfield 156, 3, false, 0), (49, .aload_n 0, 1, false, 0), (50, .getfield 17, 3, false, 0), (53, .iadd, 1, false, 0), (54, .invokevirtual 159, 3, false, 0), (57, .aload_n 0, 1, false, 0), (58, .iload_n 2, 1, false, 0), (59, .putfield 156, 3, false, 0), (62, .aload_n 0, 1, false, 0), (63, .getfield 38, 3, false, 0), (66, .aload_n 0, 1, false, 0), (67, .getfield 130, 3, false, 0), (70, .iload_n 1, 1, false, 0), (71, .iastore, 1, false, 0), (72, .aload_n 0, 1, false, 0), (73, .dup, 1, false, 0), (74, .getfield 130, 3, false, 0), (77, .iconst 1, 1, false, nI 1), (78, .iadd, 1, false, 0), (79, .putfield 130, 3, false, 0), (82, .aload_n 0, 1, true, 0), (83, .getfield 130, 3, false, 0), (86, .ifCond .le 19, 3, false, 0), (89, .aload_n 0, 1, false, 0), (90, .iconst 0, 1, false, nI 0), (91, .invokevirtual 163, 3, false, 0), (94, .ifCond .ne 11, 3, false, 0), (97, .aload_n 0, 1, false, 0), (98, .iload_n 2, 1, false, 0), (99, .invokevirtual 153, 3, false, 0), (102, .goto (-20), 3, false, 0), (105, .aload_n 0, 1, false, 0), (106, .getfield 130, 3, false, 0), (109, .ifCond .le 36, 3, false, 0), (112, .aload_n 0, 1, false, 0), (113, .aload_n 0, 1, false, 0), (114, .getfield 138, 3, false, 0), (117, .aload_n 0, 1, false, 0), (118, .aload_n 0, 1, false, 0), (119, .getfield 130, 3, false, 0), (122, .invokevirtual 141, 3, false, 0), (125, .invokevirtual 108, 3, false, 0), (128, .iconst (-1), 1, false, (-1)), (129, .if_icmp .eq 16, 3, false, 0), (132, .aload_n 0, 1, false, 0), (133, .iconst 1, 1, false, nI 1), (134, .invokevirtual 163, 3, false, 0), (137, .ifCond .ne 8, 3, false, 0), (140, .aload_n 0, 1, false, 0), (141, .iload_n 2, 1, false, 0), (142, .invokevirtual 153, 3, false, 0), (145, .aload_n 0, 1, false, 0), (146, .getfield 130, 3, false, 0), (149, .ireturn, 1, false, 0)]
set_option maxRecDepth 100000 in
theorem tk_X10_type : kp_ok cX10_type RX10 tb_X10_type = true := by decide +kernel
def tb_X10_settle : List Ent := [(0, .aload_n 0, 1, false, 0), (1, .iconst 0, 1, false, nI 0), (2, .putfield 77, 3, false, 0), (5, .iload_n 1, 1, false, 0), (6, .aload_n 0, 1, false, 0), (7, .getfield 156, 3, false, 0), (10, .ldc 162, 2, false, nI 1000000), (12, .invokestatic 84, 3, false, 0), (15, .ifCond .ne 5, 3, false, 0), (18, .iconst (-1), 1, false, (-1)), (19, .ireturn, 1, false, 0), (20, .aload_n 0, 1, false, 0), (21, .getfield 144, 3, false, 0), (24, .istore_n 2, 1, false, 0), (25, .aload_n 0, 1, false, 0), (26, .iload_n 1, 1, false, 0), (27, .invokevirtual 159, 3, false, 0), (30, .aload_n 0, 1, false, 0), (31, .getfield 144, 3, false, 0), (34, .iload_n 2, 1, false, 0), (35, .isub, 1, false, 0), (36, .ireturn, 1, false, 0)]
set_option maxRecDepth 100000 in
theorem tk_X10_settle : kp_ok cX10_settle RX10 tb_X10_settle = true := by decide +kernel
def tb_X10_out : List Ent := [(0, .aload_n 0, 1, false, 0), (1, .iload_n 1, 1, false, 0), (2, .ifCond .lt 27, 3, false, 0), (5, .iload_n 1, 1, false, 0), (6, .aload_n 0, 1, false, 0), (7, .getfield 144, 3, false, 0), (10, .if_icmp .ge 19, 3, false, 0), (13, .iload_n 1, 1, false, 0), (14, .sipush 400, 3, false, nI 400), (17, .if_icmp .ge 12, 3, false, 0), (20, .iload_n 2, 1, false, 0), (21, .iconst 0, 1, false, nI 0), (22, .iconst 1, 1, false, nI 1), (23, .invokestatic 84, 3, false, 0), (26, .ifCond .ne 7, 3, false, 0), (29, .iconst 1, 1, false, nI 1), (30, .goto 4, 3, false, 0), (33, .iconst 0, 1, false, nI 0), (34, .putfield 77, 3, false, 0), (37, .aload_n 0, 1, false, 0), (38, .getfield 77, 3, false, 0), (41, .ifCond .le 7, 3, false, 0), (44, .iconst 0, 1, false, nI 0), (45, .goto 22, 3, false, 0), (48, .iload_n 2, 1, false, 0), (49, .ifCond .ne 12, 3, false, 0), (52, .aload_n 0, 1, false, 0), (53, .getfield 41, 3, false, 0), (56, .iload_n 1, 1, false, 0), (57, .iaload, 1, false, 0), (58, .goto 9, 3, false, 0), (61, .aload_n 0, 1, false, 0), (62, .getfield 44, 3, false, 0), (65, .iload_n 1, 1, false, 0), (66, .iaload, 1, false, 0), (67, .ireturn, 1, false, 0)]
set_option maxRecDepth 100000 in
theorem tk_X10_out : kp_ok cX10_out RX10 tb_X10_out = true := by decide +kernel
def tb_X10_stretch : List Ent := [(0, .aload_n 0, 1, false, 0), (1, .iconst 0, 1, false, nI 0), (2, .putfield 77, 3, false, 0), (5, .iload_n 1, 1, false, 0), (6, .iconst 1, 1, false, nI 1), (7, .sipush 240, 3, false, nI 240), (10, .invokestatic 84, 3, false, 0), (13, .ifCond .eq 13, 3, false, 0), (16, .iload_n 2, 1, false, 0), (17, .iconst 0, 1, false, nI 0), (18, .bipush 100, 2, false, nI 100), (20, .invokestatic 84, 3, false, 0), (23, .ifCond .ne 5, 3, false, 0), (26, .iconst 0, 1, false, nI 0), (27, .ireturn, 1, false, 0), (28, .aload_n 0, 1, false, 0), (29, .getfield 47, 3, false, 0), (32, .iload_n 1, 1, false, 0), (33, .iload_n 2, 1, false, 0), (34, .iastore, 1, false, 0), (35, .iconst 1, 1, false, nI 1), (36, .ireturn, 1, false, 0)]
set_option maxRecDepth 100000 in
theorem tk_X10_stretch : kp_ok cX10_stretch RX10 tb_X10_stretch = true := by decide +kernel
def tb_X10_isCommand : List Ent := [(0, .iload_n 0, 1, false, 0), (1, .ifCond .lt 13, 3, false, 0), (4, .iload_n 0, 1, false, 0), (5, .bipush 40, 2, false, nI 40), (7, .if_icmp .ge 7, 3, false, 0), (10, .iconst 1, 1, false, nI 1), (11, .goto 4, 3, false, 0), (14, .iconst 0, 1, false, nI 0), (15, .ireturn, 1, false, 0)]
set_option maxRecDepth 100000 in
theorem tk_X10_isCommand : kp_ok cX10_isCommand RX10 tb_X10_isCommand = true := by decide +kernel
def tb_X10_uses : List Ent := [(0, .aload_n 0, 1, false, 0), (1, .iconst 0, 1, false, nI 0), (2, .putfield 77, 3, false, 0), (5, .iload_n 1, 1, false, 0), (6, .invokestatic 167, 3, false, 0), (9, .ifCond .eq 14, 3, false, 0), (12, .iload_n 2, 1, false, 0), (13, .iconst 0, 1, false, nI 0), (14, .sipush 1000, 3, false, nI 1000), (17, .invokestatic 84, 3, false, 0), (20, .ifCond .ne 5, 3, false, 0), (23, .iconst 0, 1, false, nI 0), (24, .ireturn, 1, false, 0), (25, .aload_n 0, 1, false, 0), (26, .getfield 50, 3, false, 0), (29, .iload_n 1, 1, false, 0), (30, .iload_n 2, 1, false, 0), (31, .iastore, 1, false, 0), (32, .iconst 1, 1, false, nI 1), (33, .ireturn, 1, false, 0)]
set_option maxRecDepth 100000 in
theorem tk_X10_uses : kp_ok cX10_uses RX10 tb_X10_uses = true := by decide +kernel
def tb_X10_habit : List Ent := [(0, .aload_n 0, 1, false, 0), (1, .iconst 0, 1, false, nI 0), (2, .putfield 77, 3, false, 0), (5, .iload_n 1, 1, false, 0), (6, .invokestatic 167, 3, false, 0), (9, .ifCond .eq 25, 3, false, 0), (12, .iload_n 2, 1, false, 0), (13, .iconst 0, 1, false, nI 0), (14, .sipush 240, 3, false, nI 240), (17, .invokestatic 84, 3, false, 0), (20, .ifCond .eq 14, 3, false, 0), (23, .iload_n 3, 1, false, 0), (24, .iconst 0, 1, false, nI 0), (25, .sipush 10000, 3, false, nI 10000), (28, .invokestatic 84, 3, false, 0), (31, .ifCond .ne 5, 3, false, 0), (34, .iconst 0, 1, false, nI 0), (35, .ireturn, 1, false, 0), (36, .aload_n 0, 1, false, 0), (37, .getfield 53, 3, false, 0), (40, .iload_n 1, 1, false, 0), (41, .iload_n 2, 1, false, 0), (42, .iastore, 1, false, 0), (43, .aload_n 0, 1, false, 0), (44, .getfield 56, 3, false, 0), (47, .iload_n 1, 1, false, 0), (48, .iload_n 3, 1, false, 0), (49, .iastore, 1, false, 0), (50, .iconst 1, 1, false, nI 1), (51, .ireturn, 1, false, 0)]
set_option maxRecDepth 100000 in
theorem tk_X10_habit : kp_ok cX10_habit RX10 tb_X10_habit = true := by decide +kernel
def tb_X10_want : List Ent := [(0, .aload_n 0, 1, false, 0), (1, .iconst 0, 1, false, nI 0), (2, .putfield 77, 3, false, 0), (5, .iload_n 1, 1, false, 0), (6, .invokestatic 167, 3, false, 0), (9, .ifCond .eq 20, 3, false, 0), (12, .aload_n 0, 1, false, 0), (13, .iload_n 2, 1, false, 0), (14, .invokevirtual 88, 3, false, 0), (17, .ifCond .eq 12, 3, false, 0), (20, .aload_n 0, 1, false, 0), (21, .getfield 170, 3, false, 0), (24, .bipush 6, 2, false, nI 6), (26, .if_icmp .ne 5, 3, false, 0), (29, .iconst (-1), 1, false, (-1)), (30, .ireturn, 1, false, 0), (31, .iconst 0, 1, false, nI 0), (32, .istore_n 3, 1, false, 0), (33, .iload_n 3, 1, true, 0), (34, .aload_n 0, 1, false, 0), (35, .getfield 170, 3, false, 0), (38, .if_icmp .ge 21, 3, false, 0), (41, .aload_n 0, 1, false, 0), (42, .getfield 59, 3, false, 0), (45, .iload_n 3, 1, false, 0), (46, .iaload, 1, false, 0), (47, .iload_n 1, 1, false, 0), (48, .if_icmp .ne 5, 3, false, 0), (51, .iconst (-1), 1, false, (-1)), (52, .ireturn, 1, false, 0), (53, .iinc 3 1, 3, false, nI 1), (56, .goto (-23), 3, false, 0), (59, .aload_n 0, 1, false, 0), (60, .getfield 59, 3, false, 0), (63, .aload_n 0, 1, false, 0), (64, .getfield 170, 3, false, 0), (67, .iload_n 1, 1, false, 0), (68, .iastore, 1, false, 0), (69, .aload_n 0, 1, false, 0), (70, .getfield 62, 3, false, 0), (73, .aload_n 0, 1, false, 0), (74, .getfield 170, 3, false, 0), (77, .iload_n 2, 1, false, 0), (78, .iastore, 1, false, 0), (79, .aload_n 0, 1, false, 0), (80, .dup, 1, false, 0), (81, .getfield 170, 3, false, 0), (84, .iconst 1, 1, false, nI 1), (85, .iadd, 1, false, 0), (86, .putfield 170, 3, false, 0), (89, .aload_n 0, 1, false, 0), (90, .getfield 170, 3, false, 0), (93, .ireturn, 1, false, 0)]
set_option maxRecDepth 100000 in
theorem tk_X10_want : kp_ok cX10_want RX10 tb_X10_want = true := by decide +kernel
def tb_X10_offer : List Ent := [(0, .aload_n 0, 1, false, 0), (1, .iconst 0, 1, false, nI 0), (2, .putfield 77, 3, false, 0), (5, .iload_n 1, 1, false, 0), (6, .iconst 1, 1, false, nI 1), (7, .sipush 240, 3, false, nI 240), (10, .invokestatic 84, 3, false, 0), (13, .ifCond .eq 12, 3, false, 0), (16, .aload_n 0, 1, false, 0), (17, .getfield 173, 3, false, 0), (20, .bipush 8, 2, false, nI 8), (22, .if_icmp .ne 5, 3, false, 0), (25, .iconst (-1), 1, false, (-1)), (26, .ireturn, 1, false, 0), (27, .iconst 0, 1, false, nI 0), (28, .istore_n 2, 1, false, 0), (29, .iload_n 2, 1, true, 0), (30, .aload_n 0, 1, false, 0), (31, .getfield 173, 3, false, 0), (34, .if_icmp .ge 21, 3, false, 0), (37, .aload_n 0, 1, false, 0), (38, .getfield 65, 3, false, 0), (41, .iload_n 2, 1, false, 0), (42, .iaload, 1, false, 0), (43, .iload_n 1, 1, false, 0), (44, .if_icmp .ne 5, 3, false, 0), (47, .iconst (-1), 1, false, (-1)), (48, .ireturn, 1, false, 0), (49, .iinc 2 1, 3, false, nI 1), (52, .goto (-23), 3, false, 0), (55, .aload_n 0, 1, false, 0), (56, .getfield 65, 3, false, 0), (59, .aload_n 0, 1, false, 0), (60, .getfield 173, 3, false, 0), (63, .iload_n 1, 1, false, 0), (64, .iastore, 1, false, 0), (65, .aload_n 0, 1, false, 0), (66, .dup, 1, false, 0), (67, .getfield 173, 3, false, 0), (70, .iconst 1, 1, false, nI 1), (71, .iadd, 1, false, 0), (72, .putfield 173, 3, false, 0), (75, .aload_n 0, 1, false, 0), (76, .getfield 173, 3, false, 0), (79, .ireturn, 1, false, 0)]
set_option maxRecDepth 100000 in
theorem tk_X10_offer : kp_ok cX10_offer RX10 tb_X10_offer = true := by decide +kernel
def tb_X10_clear : List Ent := [(0, .aload_n 0, 1, false, 0), (1, .iconst 0, 1, false, nI 0), (2, .putfield 77, 3, false, 0), (5, .aload_n 0, 1, false, 0), (6, .iconst 0, 1, false, nI 0), (7, .putfield 170, 3, false, 0), (10, .aload_n 0, 1, false, 0), (11, .iconst 0, 1, false, nI 0), (12, .putfield 173, 3, false, 0), (15, .return_, 1, false, 0)]
set_option maxRecDepth 100000 in
theorem tk_X10_clear : kp_ok cX10_clear RX10 tb_X10_clear = true := by decide +kernel
def tb_X10_stands : List Ent := [(0, .iload_n 1, 1, false, 0), (1, .istore_n 3, 1, false, 0), (2, .iload_n 3, 1, true, 0), (3, .iconst (-1), 1, false, (-1)), (4, .if_icmp .eq 18, 3, false, 0), (7, .iload_n 3, 1, false, 0), (8, .iload_n 2, 1, false, 0), (9, .if_icmp .eq 13, 3, false, 0), (12, .aload_n 0, 1, false, 0), (13, .getfield 9, 3, false, 0), (16, .iload_n 3, 1, false, 0), (17, .iaload, 1, false, 0), (18, .istore_n 3, 1, false, 0), (19, .goto (-17), 3, false, 0), (22, .iload_n 3, 1, false, 0), (23, .iload_n 2, 1, false, 0), (24, .if_icmp .ne 7, 3, false, 0), (27, .iconst 1, 1, false, nI 1), (28, .goto 4, 3, false, 0), (31, .iconst 0, 1, false, nI 0), (32, .ireturn, 1, false, 0)]
set_option maxRecDepth 100000 in
theorem tk_X10_stands : kp_ok cX10_stands RX10 tb_X10_stands = true := by decide +kernel
def tb_X10_meet : List Ent := [(0, .aload_n 0, 1, false, 0), (1, .iload_n 1, 1, false, 0), (2, .iload_n 2, 1, false, 0), (3, .invokevirtual 176, 3, false, 0), (6, .ifCond .ne 12, 3, false, 0), (9, .aload_n 0, 1, false, 0), (10, .iload_n 2, 1, false, 0), (11, .iload_n 1, 1, false, 0), (12, .invokevirtual 176, 3, false, 0), (15, .ifCond .eq 7, 3, false, 0), (18, .iconst 1, 1, false, nI 1), (19, .goto 4, 3, false, 0), (22, .iconst 0, 1, false, nI 0), (23, .ireturn, 1, false, 0)]
set_option maxRecDepth 100000 in
theorem tk_X10_meet : kp_ok cX10_meet RX10 tb_X10_meet = true := by decide +kernel
def tb_X10_breaks : List Ent := [(0, .aload_n 0, 1, false, 0), (1, .getfield 53, 3, false, 0), (4, .iload_n 1, 1, false, 0), (5, .iaload, 1, false, 0), (6, .ifCond .eq 17, 3, false, 0), (9, .aload_n 0, 1, false, 0), (10, .getfield 53, 3, false, 0), (13, .iload_n 1, 1, false, 0), (14, .iaload, 1, false, 0), (15, .iload_n 2, 1, false, 0), (16, .if_icmp .eq 7, 3, false, 0), (19, .iconst 1, 1, false, nI 1), (20, .goto 4, 3, false, 0), (23, .iconst 0, 1, false, nI 0), (24, .ireturn, 1, false, 0)]
set_option maxRecDepth 100000 in
theorem tk_X10_breaks : kp_ok cX10_breaks RX10 tb_X10_breaks = true := by decide +kernel
def tb_X10_gives : List Ent := [(0, .iload_n 1, 1, false, 0), (1, .aload_n 0, 1, false, 0), (2, .getfield 170, 3, false, 0), (5, .if_icmp .ne 54, 3, false, 0), (8, .aload_n 0, 1, false, 0), (9, .getfield 179, 3, false, 0), (12, .iconst (-1), 1, false, (-1)), (13, .if_icmp .eq 12, 3, false, 0), (16, .iload_n 2, 1, false, 0), (17, .aload_n 0, 1, false, 0), (18, .getfield 179, 3, false, 0), (21, .if_icmp .lt 4, 3, false, 0), (24, .return_, 1, false, 0), (25, .aload_n 0, 1, false, 0), (26, .iload_n 2, 1, false, 0), (27, .putfield 179, 3, false, 0), (30, .iconst 0, 1, false, nI 0), (31, .istore_n 3, 1, false, 0), (32, .iload_n 3, 1, true, 0), (33, .aload_n 0, 1, false, 0), (34, .getfield 170, 3, false, 0), (37, .if_icmp .ge 21, 3, false, 0), (40, .aload_n 0, 1, false, 0), (41, .getfield 74, 3, false, 0), (44, .iload_n 3, 1, false, 0), (45, .aload_n 0, 1, false, 0), (46, .getfield 71, 3, false, 0), (49, .iload_n 3, 1, false, 0), (50, .iaload, 1, false, 0), (51, .iastore, 1, false, 0), (52, .iinc 3 1, 3, false, nI 1), (55, .goto (-23), 3, false, 0), (58, .return_, 1, false, 0), (59, .iconst 0, 1, false, nI 0), (60, .istore_n 3, 1, false, 0), (61, .iload_n 3, 1, true, 0), (62, .aload_n 0, 1, false, 0), (63, .getfield 173, 3, false, 0), (66, .if_icmp .ge 152, 3, false, 0), (69, .iconst 1, 1, false, nI 1), (70, .istore 4, 2, false, 0), (72, .iconst 0, 1, false, nI 0), (73, .istore 5, 2, false, 0), (75, .iload 5, 2, true, 0), (77, .iload_n 1, 1, false, 0), (78, .if_icmp .ge 52, 3, false, 0), (81, .iload 4, 2, false, 0), (83, .ifCond .eq 47, 3, false, 0), (86, .aload_n 0, 1, false, 0), (87, .getfield 71, 3, false, 0), (90, .iload 5, 2, false, 0), (92, .iaload, 1, false, 0), (93, .iload_n 3, 1, false, 0), (94, .if_icmp .ne 23, 3, false, 0), (97, .aload_n 0, 1, false, 0), (98, .aload_n 0, 1, false, 0), (99, .getfield 62, 3, false, 0), (102, .iload 5, 2, false, 0), (104, .iaload, 1, false, 0), (105, .aload_n 0, 1, false, 0), (106, .getfield 62, 3, false, 0), (109, .iload_n 1, 1, false, 0), (110, .iaload, 1, false, 0), (111, .invokevirtual 182, 3, false, 0), (114, .ifCond .ne 7, 3, false, 0), (117, .iconst 1, 1, false, nI 1), (118, .goto 4, 3, false, 0), (121, .iconst 0, 1, false, nI 0), (122, .istore 4, 2, false, 0), (124, .iinc 5 1, 3, false, nI 1), (127, .goto (-52), 3, false, 0), (130, .iload 4, 2, false, 0), (132, .ifCond .ne 6, 3, false, 0), (135, .goto 77, 3, false, 0), (138, .aload_n 0, 1, false, 0), (139, .getfield 71, 3, false, 0), (142, .iload_n 1, 1, false, 0), (143, .iload_n 3, 1, false, 0), (144, .iastore, 1, false, 0), (145, .aload_n 0, 1, false, 0), (146, .iload_n 1, 1, false, 0), (147, .iconst 1, 1, false, nI 1), (148, .iadd, 1, false, 0), (149, .iload_n 2, 1, false, 0), (150, .aload_n 0, 1, false, 0), (151, .getfield 50, 3, false, 0), (154, .aload_n 0, 1, false, 0), (155, .getfield 59, 3, false, 0), (158, .iload_n 1, 1, false, 0), (159, .iaload, 1, false, 0), (160, .iaload, 1, false, 0), (161, .aload_n 0, 1, false, 0), (162, .getfield 47, 3, false, 0), (165, .aload_n 0, 1, false, 0), (166, .getfield 65, 3, false, 0), (169, .iload_n 3, 1, false, 0), (170, .iaload, 1, false, 0), (171, .iaload, 1, false, 0), (172, .imul, 1, false, 0), (173, .iadd, 1, false, 0), (174, .aload_n 0, 1, false, 0), (175, .aload_n 0, 1, false, 0), (176, .getfield 59, 3, false, 0), (179, .iload_n 1, 1, false, 0), (180, .iaload, 1, false, 0), (181, .aload_n 0, 1, false, 0), (182, .getfield 65, 3, false, 0), (185, .iload_n 3, 1, false, 0), (186, .iaload, 1, false, 0), (187, .invokevirtual 185, 3, false, 0), (190, .ifCond .eq 17, 3, false, 0), (193, .aload_n 0, 1, false, 0), (194, .getfield 56, 3, false, 0), (197, .aload_n 0, 1, false, 0), (198, .getfield 59, 3, false, 0), (201, .iload_n 1, 1, false, 0), (202, .iaload, 1, false, 0), (203, .iaload, 1, false, 0), (204, .goto 4, 3, false, 0), (207, .iconst 0, 1, false, nI 0), (208, .iadd, 1, false, 0), (209, .invokevirtual 188, 3, false, 0), (212, .iinc 3 1, 3, false, nI 1), (215, .goto (-154), 3, false, 0), (218, .return_, 1, false, 0)]
set_option maxRecDepth 100000 in
theorem tk_X10_gives : kp_ok cX10_gives RX10 tb_X10_gives = true := by decide +kernel
def tb_X10_assigns : List Ent := [(0, .aload_n 0, 1, false, 0), (1, .iconst 0, 1, false, nI 0), (2, .putfield 77, 3, false, 0), (5, .aload_n 0, 1, false, 0), (6, .iconst (-1), 1, false, (-1)), (7, .putfield 179, 3, false, 0), (10, .aload_n 0, 1, false, 0), (11, .iconst 0, 1, false, nI 0), (12, .iconst 0, 1, false, nI 0), (13, .invokevirtual 188, 3, false, 0), (16, .aload_n 0, 1, false, 0), (17, .getfield 179, 3, false, 0), (20, .iconst (-1), 1, false, (-1)), (21, .if_icmp .eq 7, 3, false, 0), (24, .iconst 1, 1, false, nI 1), (25, .goto 4, 3, false, 0), (28, .iconst 0, 1, false, nI 0), (29, .ireturn, 1, false, 0)]
set_option maxRecDepth 100000 in
theorem tk_X10_assigns : kp_ok cX10_assigns RX10 tb_X10_assigns = true := by decide +kernel
def tb_X10_cheapest : List Ent := [(0, .aload_n 0, 1, false, 0), (1, .invokevirtual 192, 3, false, 0), (4, .ifCond .eq 10, 3, false, 0), (7, .aload_n 0, 1, false, 0), (8, .getfield 179, 3, false, 0), (11, .goto 4, 3, false, 0), (14, .iconst (-1), 1, false, (-1)), (15, .ireturn, 1, false, 0)]
set_option maxRecDepth 100000 in
theorem tk_X10_cheapest : kp_ok cX10_cheapest RX10 tb_X10_cheapest = true := by decide +kernel
def tb_X10_assigned : List Ent := [(0, .aload_n 0, 1, false, 0), (1, .invokevirtual 192, 3, false, 0), (4, .ifCond .eq 29, 3, false, 0), (7, .iload_n 1, 1, false, 0), (8, .ifCond .lt 25, 3, false, 0), (11, .iload_n 1, 1, false, 0), (12, .aload_n 0, 1, false, 0), (13, .getfield 170, 3, false, 0), (16, .if_icmp .ge 17, 3, false, 0), (19, .aload_n 0, 1, false, 0), (20, .getfield 65, 3, false, 0), (23, .aload_n 0, 1, false, 0), (24, .getfield 74, 3, false, 0), (27, .iload_n 1, 1, false, 0), (28, .iaload, 1, false, 0), (29, .iaload, 1, false, 0), (30, .goto 4, 3, false, 0), (33, .iconst (-1), 1, false, (-1)), (34, .ireturn, 1, false, 0)]
set_option maxRecDepth 100000 in
theorem tk_X10_assigned : kp_ok cX10_assigned RX10 tb_X10_assigned = true := by decide +kernel
def tb_X10_broken : List Ent := [(0, .aload_n 0, 1, false, 0), (1, .invokevirtual 192, 3, false, 0), (4, .ifCond .ne 5, 3, false, 0), (7, .iconst (-1), 1, false, (-1)), (8, .ireturn, 1, false, 0), (9, .iconst 0, 1, false, nI 0), (10, .istore_n 1, 1, false, 0), (11, .iconst 0, 1, false, nI 0), (12, .istore_n 2, 1, false, 0), (13, .iload_n 2, 1, true, 0), (14, .aload_n 0, 1, false, 0), (15, .getfield 170, 3, false, 0), (18, .if_icmp .ge 41, 3, false, 0), (21, .iload_n 1, 1, false, 0), (22, .aload_n 0, 1, false, 0), (23, .aload_n 0, 1, false, 0), (24, .getfield 59, 3, false, 0), (27, .iload_n 2, 1, false, 0), (28, .iaload, 1, false, 0), (29, .aload_n 0, 1, false, 0), (30, .getfield 65, 3, false, 0), (33, .aload_n 0, 1, false, 0), (34, .getfield 74, 3, false, 0), (37, .iload_n 2, 1, false, 0), (38, .iaload, 1, false, 0), (39, .iaload, 1, false, 0), (40, .invokevirtual 185, 3, false, 0), (43, .ifCond .eq 7, 3, false, 0), (46, .iconst 1, 1, false, nI 1), (47, .goto 4, 3, false, 0), (50, .iconst 0, 1, false, nI 0), (51, .iadd, 1, false, 0), (52, .istore_n 1, 1, false, 0), (53, .iinc 2 1, 3, false, nI 1), (56, .goto (-43), 3, false, 0), (59, .iload_n 1, 1, false, 0), (60, .ireturn, 1, false, 0)]
set_option maxRecDepth 100000 in
theorem tk_X10_broken : kp_ok cX10_broken RX10 tb_X10_broken = true := by decide +kernel
def tb_X10_apply : List Ent := [(0, .aload_n 0, 1, false, 0), (1, .invokevirtual 192, 3, false, 0), (4, .ifCond .ne 5, 3, false, 0), (7, .iconst (-1), 1, false, (-1)), (8, .ireturn, 1, false, 0), (9, .iconst 0, 1, false, nI 0), (10, .istore_n 1, 1, false, 0), (11, .iconst 0, 1, false, nI 0), (12, .istore_n 2, 1, false, 0), (13, .iconst 0, 1, false, nI 0), (14, .istore_n 3, 1, false, 0), (15, .iload_n 3, 1, true, 0), (16, .aload_n 0, 1, false, 0), (17, .getfield 170, 3, false, 0), (20, .if_icmp .ge 65, 3, false, 0), (23, .aload_n 0, 1, false, 0), (24, .aload_n 0, 1, false, 0), (25, .getfield 62, 3, false, 0), (28, .iload_n 3, 1, false, 0), (29, .iaload, 1, false, 0), (30, .aload_n 0, 1, false, 0), (31, .getfield 65, 3, false, 0), (34, .aload_n 0, 1, false, 0), (35, .getfield 74, 3, false, 0), (38, .iload_n 3, 1, false, 0), (39, .iaload, 1, false, 0), (40, .iaload, 1, false, 0), (41, .invokevirtual 101, 3, false, 0), (44, .istore 4, 2, false, 0), (46, .iload_n 1, 1, false, 0), (47, .iload 4, 2, false, 0), (49, .iconst (-1), 1, false, (-1)), (50, .if_icmp .ne 7, 3, false, 0), (53, .iconst 1, 1, false, nI 1), (54, .goto 4, 3, false, 0), (57, .iconst 0, 1, false, nI 0), (58, .iadd, 1, false, 0), (59, .istore_n 1, 1, false, 0), (60, .iload_n 2, 1, false, 0), (61, .iload 4, 2, false, 0), (63, .aload_n 0, 1, false, 0), (64, .getfield 59, 3, false, 0), (67, .iload_n 3, 1, false, 0), (68, .iaload, 1, false, 0), (69, .if_icmp .eq 7, 3, false, 0), (72, .iconst 1, 1, false, nI 1), (73, .goto 4, 3, false, 0), (76, .iconst 0, 1, false, nI 0), (77, .iadd, 1, false, 0), (78, .istore_n 2, 1, false, 0), (79, .iinc 3 1, 3, false, nI 1), (82, .goto (-67), 3, false, 0), (85, .aload_n 0, 1, false, 0), (86, .getfield 92, 3, false, 0), (89, .iload_n 1, 1, false, 0), (90, .iadd, 1, false, 0), (91, .bipush 120, 2, false, nI 120), (93, .if_icmp .le 5, 3, false, 0), (96, .iconst (-1), 1, false, (-1)), (97, .ireturn, 1, false, 0), (98, .iconst 0, 1, false, nI 0), (99, .istore_n 3, 1, false, 0), (100, .iload_n 3, 1, true, 0), (101, .aload_n 0, 1, false, 0), (102, .getfield 170, 3, false, 0), (105, .if_icmp .ge 36, 3, false, 0), (108, .aload_n 0, 1, false, 0), (109, .aload_n 0, 1, false, 0), (110, .getfield 62, 3, false, 0), (113, .iload_n 3, 1, false, 0), (114, .iaload, 1, false, 0), (115, .aload_n 0, 1, false, 0), (116, .getfield 65, 3, false, 0), (119, .aload_n 0, 1, false, 0), (120, .getfield 74, 3, false, 0), (123, .iload_n 3, 1, false, 0), (124, .iaload, 1, false, 0), (125, .iaload, 1, false, 0), (126, .aload_n 0, 1, false, 0), (127, .getfield 59, 3, false, 0), (130, .iload_n 3, 1, false, 0), (131, .iaload, 1, false, 0), (132, .invokevirtual 104, 3, false, 0), (135, .iinc 3 1, 3, false, nI 1), (138, .goto (-38), 3, false, 0), (141, .iload_n 2, 1, false, 0), (142, .ireturn, 1, false, 0)]
set_option maxRecDepth 100000 in
theorem tk_X10_apply : kp_ok cX10_apply RX10 tb_X10_apply = true := by decide +kernel
def tb_X10_keep : List Ent := [(0, .aload_n 0, 1, false, 0), (1, .iconst 0, 1, false, nI 0), (2, .putfield 77, 3, false, 0), (5, .aload_n 0, 1, false, 0), (6, .aload_n 0, 1, false, 0), (7, .getfield 92, 3, false, 0), (10, .putfield 196, 3, false, 0), (13, .iconst 0, 1, false, nI 0), (14, .istore_n 1, 1, false, 0), (15, .iload_n 1, 1, true, 0), (16, .aload_n 0, 1, false, 0), (17, .getfield 92, 3, false, 0), (20, .if_icmp .ge 45, 3, false, 0), (23, .aload_n 0, 1, false, 0), (24, .getfield 29, 3, false, 0), (27, .iload_n 1, 1, false, 0), (28, .aload_n 0, 1, false, 0), (29, .getfield 20, 3, false, 0), (32, .iload_n 1, 1, false, 0), (33, .iaload, 1, false, 0), (34, .iastore, 1, false, 0), (35, .aload_n 0, 1, false, 0), (36, .getfield 32, 3, false, 0), (39, .iload_n 1, 1, false, 0), (40, .aload_n 0, 1, false, 0), (41, .getfield 23, 3, false, 0), (44, .iload_n 1, 1, false, 0), (45, .iaload, 1, false, 0), (46, .iastore, 1, false, 0), (47, .aload_n 0, 1, false, 0), (48, .getfield 35, 3, false, 0), (51, .iload_n 1, 1, false, 0), (52, .aload_n 0, 1, false, 0), (53, .getfield 26, 3, false, 0), (56, .iload_n 1, 1, false, 0), (57, .iaload, 1, false, 0), (58, .iastore, 1, false, 0), (59, .iinc 1 1, 3, false, nI 1), (62, .goto (-47), 3, false, 0), (65, .return_, 1, false, 0)]
set_option maxRecDepth 100000 in
theorem tk_X10_keep : kp_ok cX10_keep RX10 tb_X10_keep = true := by decide +kernel
def tb_X10_keptFor : List Ent := [(0, .iconst 0, 1, false, nI 0), (1, .istore_n 3, 1, false, 0), (2, .iload_n 3, 1, true, 0), (3, .aload_n 0, 1, false, 0), (4, .getfield 196, 3, false, 0), (7, .if_icmp .ge 36, 3, false, 0), (10, .aload_n 0, 1, false, 0), (11, .getfield 29, 3, false, 0), (14, .iload_n 3, 1, false, 0), (15, .iaload, 1, false, 0), (16, .iload_n 1, 1, false, 0), (17, .if_icmp .ne 20, 3, false, 0), (20, .aload_n 0, 1, false, 0), (21, .getfield 32, 3, false, 0), (24, .iload_n 3, 1, false, 0), (25, .iaload, 1, false, 0), (26, .iload_n 2, 1, false, 0), (27, .if_icmp .ne 10, 3, false, 0), (30, .aload_n 0, 1, false, 0), (31, .getfield 35, 3, false, 0), (34, .iload_n 3, 1, false, 0), (35, .iaload, 1, false, 0), (36, .ireturn, 1, false, 0), (37, .iinc 3 1, 3, false, nI 1), (40, .goto (-38), 3, false, 0), (43, .iconst (-1), 1, false, (-1)), (44, .ireturn, 1, false, 0)]
set_option maxRecDepth 100000 in
theorem tk_X10_keptFor : kp_ok cX10_keptFor RX10 tb_X10_keptFor = true := by decide +kernel
def tb_X10_nextChange : List Ent := [(0, .iconst 0, 1, false, nI 0), (1, .istore_n 3, 1, false, 0), (2, .iconst 0, 1, false, nI 0), (3, .istore 4, 2, false, 0), (5, .iload 4, 2, true, 0), (7, .aload_n 0, 1, false, 0), (8, .getfield 92, 3, false, 0), (11, .aload_n 0, 1, false, 0), (12, .getfield 196, 3, false, 0), (15, .iadd, 1, false, 0), (16, .if_icmp .ge 184, 3, false, 0), (19, .iload 4, 2, false, 0), (21, .aload_n 0, 1, false, 0), (22, .getfield 92, 3, false, 0), (25, .if_icmp .ge 13, 3, false, 0), (28, .aload_n 0, 1, false, 0), (29, .getfield 20, 3, false, 0), (32, .iload 4, 2, false, 0), (34, .iaload, 1, false, 0), (35, .goto 15, 3, false, 0), (38, .aload_n 0, 1, false, 0), (39, .getfield 29, 3, false, 0), (42, .iload 4, 2, false, 0), (44, .aload_n 0, 1, false, 0), (45, .getfield 92, 3, false, 0), (48, .isub, 1, false, 0), (49, .iaload, 1, false, 0), (50, .istore 5, 2, false, 0), (52, .iload 4, 2, false, 0), (54, .aload_n 0, 1, false, 0), (55, .getfield 92, 3, false, 0), (58, .if_icmp .ge 13, 3, false, 0), (61, .aload_n 0, 1, false, 0), (62, .getfield 23, 3, false, 0), (65, .iload 4, 2, false, 0), (67, .iaload, 1, false, 0), (68, .goto 15, 3, false, 0), (71, .aload_n 0, 1, false, 0), (72, .getfield 32, 3, false, 0), (75, .iload 4, 2, false, 0), (77, .aload_n 0, 1, false, 0), (78, .getfield 92, 3, false, 0), (81, .isub, 1, false, 0), (82, .iaload, 1, false, 0), (83, .istore 6, 2, false, 0), (85, .iload 5, 2, false, 0), (87, .iload_n 1, 1, false, 0), (88, .if_icmp .gt 15, 3, false, 0), (91, .iload 5, 2, false, 0), (93, .iload_n 1, 1, false, 0), (94, .if_icmp .ne 13, 3, false, 0), (97, .iload 6, 2, false, 0), (99, .iload_n 2, 1, false, 0), (100, .if_icmp .le 7, 3, false, 0), (103, .iconst 1, 1, false, nI 1), (104, .goto 4, 3, false, 0), (107, .iconst 0, 1, false, nI 0), (108, .istore 7, 2, false, 0), (110, .iload_n 3, 1, false, 0), (111, .ifCond .eq 30, 3, false, 0), (114, .iload 5, 2, false, 0), (116, .aload_n 0, 1, false, 0), (117, .getfield 199, 3, false, 0), (120, .if_icmp .lt 21, 3, false, 0), (123, .iload 5, 2, false, 0), (125, .aload_n 0, 1, false, 0), (126, .getfield 199, 3, false, 0), (129, .if_icmp .ne 16, 3, false, 0), (132, .iload 6, 2, false, 0), (134, .aload_n 0, 1, false, 0), (135, .getfield 202, 3, false, 0), (138, .if_icmp .ge 7, 3, false, 0), (141, .iconst 1, 1, false, nI 1), (142, .goto 4, 3, false, 0), (145, .iconst 0, 1, false, nI 0), (146, .istore 8, 2, false, 0), (148, .iload 7, 2, false, 0), (150, .ifCond .eq 44, 3, false, 0), (153, .iload 8, 2, false, 0), (155, .ifCond .eq 39, 3, false, 0), (158, .aload_n 0, 1, false, 0), (159, .iload 5, 2, false, 0), (161, .iload 6, 2, false, 0), (163, .invokevirtual 101, 3, false, 0), (166, .aload_n 0, 1, false, 0), (167, .iload 5, 2, false, 0), (169, .iload 6, 2, false, 0), (171, .invokevirtual 205, 3, false, 0), (174, .if_icmp .ne 6, 3, false, 0), (177, .goto 17, 3, false, 0), (180, .iconst 1, 1, false, nI 1), (181, .istore_n 3, 1, false, 0), (182, .aload_n 0, 1, false, 0), (183, .iload 5, 2, false, 0), (185, .putfield 199, 3, false, 0), (188, .aload_n 0, 1, false, 0), (189, .iload 6, 2, false, 0), (191, .putfield 202, 3, false, 0), (194, .iinc 4 1, 3, false, nI 1), (197, .goto (-192), 3, false, 0), (200, .iload_n 3, 1, false, 0), (201, .ireturn, 1, false, 0)]
set_option maxRecDepth 100000 in
theorem tk_X10_nextChange : kp_ok cX10_nextChange RX10 tb_X10_nextChange = true := by decide +kernel
def tb_X10_changes : List Ent := [(0, .iconst 0, 1, false, nI 0), (1, .istore_n 1, 1, false, 0), (2, .aload_n 0, 1, false, 0), (3, .iconst (-1), 1, false, (-1)), (4, .iconst 0, 1, false, nI 0), (5, .invokevirtual 208, 3, false, 0), (8, .istore_n 2, 1, false, 0), (9, .iload_n 2, 1, true, 0), (10, .ifCond .eq 22, 3, false, 0), (13, .iinc 1 1, 3, false, nI 1), (16, .aload_n 0, 1, false, 0), (17, .aload_n 0, 1, false, 0), (18, .getfield 199, 3, false, 0), (21, .aload_n 0, 1, false, 0), (22, .getfield 202, 3, false, 0), (25, .invokevirtual 208, 3, false, 0), (28, .istore_n 2, 1, false, 0), (29, .goto (-20), 3, false, 0), (32, .iload_n 1, 1, false, 0), (33, .ireturn, 1, false, 0)]
set_option maxRecDepth 100000 in
theorem tk_X10_changes : kp_ok cX10_changes RX10 tb_X10_changes = true := by decide +kernel
def tb_X10_change : List Ent := [(0, .aload_n 0, 1, false, 0), (1, .iconst 0, 1, false, nI 0), (2, .putfield 77, 3, false, 0), (5, .iload_n 1, 1, false, 0), (6, .ifCond .lt 12, 3, false, 0), (9, .iload_n 2, 1, false, 0), (10, .iconst 0, 1, false, nI 0), (11, .iconst 3, 1, false, nI 3), (12, .invokestatic 84, 3, false, 0), (15, .ifCond .ne 5, 3, false, 0), (18, .iconst (-1), 1, false, (-1)), (19, .ireturn, 1, false, 0), (20, .aload_n 0, 1, false, 0), (21, .iconst (-1), 1, false, (-1)), (22, .iconst 0, 1, false, nI 0), (23, .invokevirtual 208, 3, false, 0), (26, .istore_n 3, 1, false, 0), (27, .iconst 0, 1, false, nI 0), (28, .istore 4, 2, false, 0), (30, .iload 4, 2, true, 0), (32, .iload_n 1, 1, false, 0), (33, .if_icmp .ge 26, 3, false, 0), (36, .iload_n 3, 1, false, 0), (37, .ifCond .eq 22, 3, false, 0), (40, .aload_n 0, 1, false, 0), (41, .aload_n 0, 1, false, 0), (42, .getfield 199, 3, false, 0), (45, .aload_n 0, 1, false, 0), (46, .getfield 202, 3, false, 0), (49, .invokevirtual 208, 3, false, 0), (52, .istore_n 3, 1, false, 0), (53, .iinc 4 1, 3, false, nI 1), (56, .goto (-26), 3, false, 0), (59, .iload_n 3, 1, false, 0), (60, .ifCond .ne 5, 3, false, 0), (63, .iconst (-1), 1, false, (-1)), (64, .ireturn, 1, false, 0), (65, .iload_n 2, 1, false, 0), (66, .tableswitch 49 0 2 #[26, 31, 36], 26, false, 0), (92, .aload_n 0, 1, false, 0), (93, .getfield 199, 3, false, 0), (96, .ireturn, 1, false, 0), (97, .aload_n 0, 1, false, 0), (98, .getfield 202, 3, false, 0), (101, .ireturn, 1, false, 0), (102, .aload_n 0, 1, false, 0), (103, .aload_n 0, 1, false, 0), (104, .getfield 199, 3, false, 0), (107, .aload_n 0, 1, false, 0), (108, .getfield 202, 3, false, 0), (111, .invokevirtual 205, 3, false, 0), (114, .ireturn, 1, false, 0), (115, .aload_n 0, 1, false, 0), (116, .aload_n 0, 1, false, 0), (117, .getfield 199, 3, false, 0), (120, .aload_n 0, 1, false, 0), (121, .getfield 202, 3, false, 0), (124, .invokevirtual 101, 3, false, 0), (127, .ireturn, 1, false, 0)]
set_option maxRecDepth 100000 in
theorem tk_X10_change : kp_ok cX10_change RX10 tb_X10_change = true := by decide +kernel
def tb_X10_back : List Ent := [(0, .aload_n 0, 1, false, 0), (1, .iconst 0, 1, false, nI 0), (2, .putfield 77, 3, false, 0), (5, .aload_n 0, 1, false, 0), (6, .invokevirtual 211, 3, false, 0), (9, .istore_n 1, 1, false, 0), (10, .aload_n 0, 1, false, 0), (11, .aload_n 0, 1, false, 0), (12, .getfield 196, 3, false, 0), (15, .putfield 92, 3, false, 0), (18, .iconst 0, 1, false, nI 0), (19, .istore_n 2, 1, false, 0), (20, .iload_n 2, 1, true, 0), (21, .aload_n 0, 1, false, 0), (22, .getfield 92, 3, false, 0), (25, .if_icmp .ge 45, 3, false, 0), (28, .aload_n 0, 1, false, 0), (29, .getfield 20, 3, false, 0), (32, .iload_n 2, 1, false, 0), (33, .aload_n 0, 1, false, 0), (34, .getfield 29, 3, false, 0), (37, .iload_n 2, 1, false, 0), (38, .iaload, 1, false, 0), (39, .iastore, 1, false, 0), (40, .aload_n 0, 1, false, 0), (41, .getfield 23, 3, false, 0), (44, .iload_n 2, 1, false, 0), (45, .aload_n 0, 1, false, 0), (46, .getfield 32, 3, false, 0), (49, .iload_n 2, 1, false, 0), (50, .iaload, 1, false, 0), (51, .iastore, 1, false, 0), (52, .aload_n 0, 1, false, 0), (53, .getfield 26, 3, false, 0), (56, .iload_n 2, 1, false, 0), (57, .aload_n 0, 1, false, 0), (58, .getfield 35, 3, false, 0), (61, .iload_n 2, 1, false, 0), (62, .iaload, 1, false, 0), (63, .iastore, 1, false, 0), (64, .iinc 2 1, 3, false, nI 1), (67, .goto (-47), 3, false, 0), (70, .iload_n 1, 1, false, 0), (71, .ireturn, 1, false, 0)]
set_option maxRecDepth 100000 in
theorem tk_X10_back : kp_ok cX10_back RX10 tb_X10_back = true := by decide +kernel
def tb_X10_savedBy : List Ent := [(0, .iconst (-1), 1, false, (-1)), (1, .istore_n 2, 1, false, 0), (2, .iconst 0, 1, false, nI 0), (3, .istore_n 3, 1, false, 0), (4, .iload_n 3, 1, true, 0), (5, .aload_n 0, 1, false, 0), (6, .getfield 92, 3, false, 0), (9, .if_icmp .ge 83, 3, false, 0), (12, .aload_n 0, 1, false, 0), (13, .getfield 26, 3, false, 0), (16, .iload_n 3, 1, false, 0), (17, .iaload, 1, false, 0), (18, .iload_n 1, 1, false, 0), (19, .if_icmp .eq 6, 3, false, 0), (22, .goto 64, 3, false, 0), (25, .iconst 0, 1, false, nI 0), (26, .istore 4, 2, false, 0), (28, .iconst 0, 1, false, nI 0), (29, .istore 5, 2, false, 0), (31, .iload 5, 2, true, 0), (33, .aload_n 0, 1, false, 0), (34, .getfield 23, 3, false, 0), (37, .iload_n 3, 1, false, 0), (38, .iaload, 1, false, 0), (39, .invokestatic 111, 3, false, 0), (42, .if_icmp .ge 30, 3, false, 0), (45, .iload 4, 2, false, 0), (47, .aload_n 0, 1, false, 0), (48, .getfield 47, 3, false, 0), (51, .aload_n 0, 1, false, 0), (52, .getfield 23, 3, false, 0), (55, .iload_n 3, 1, false, 0), (56, .iaload, 1, false, 0), (57, .iload 5, 2, false, 0), (59, .invokestatic 80, 3, false, 0), (62, .iaload, 1, false, 0), (63, .iadd, 1, false, 0), (64, .istore 4, 2, false, 0), (66, .iinc 5 1, 3, false, nI 1), (69, .goto (-38), 3, false, 0), (72, .iload_n 2, 1, false, 0), (73, .iconst (-1), 1, false, (-1)), (74, .if_icmp .eq 9, 3, false, 0), (77, .iload 4, 2, false, 0), (79, .iload_n 2, 1, false, 0), (80, .if_icmp .ge 6, 3, false, 0), (83, .iload 4, 2, false, 0), (85, .istore_n 2, 1, false, 0), (86, .iinc 3 1, 3, false, nI 1), (89, .goto (-85), 3, false, 0), (92, .iload_n 2, 1, false, 0), (93, .iconst (-1), 1, false, (-1)), (94, .if_icmp .ne 7, 3, false, 0), (97, .iconst 0, 1, false, nI 0), (98, .goto 18, 3, false, 0), (101, .iconst 0, 1, false, nI 0), (102, .aload_n 0, 1, false, 0), (103, .getfield 50, 3, false, 0), (106, .iload_n 1, 1, false, 0), (107, .iaload, 1, false, 0), (108, .bipush 30, 2, false, nI 30), (110, .iload_n 2, 1, false, 0), (111, .isub, 1, false, 0), (112, .imul, 1, false, 0), (113, .invokestatic 215, 3, false, 0), (116, .ireturn, 1, false, 0)]
set_option maxRecDepth 100000 in
theorem tk_X10_savedBy : kp_ok cX10_savedBy RX10 tb_X10_savedBy = true := by decide +kernel
def tb_X10_learn : List Ent := [(0, .aload_n 0, 1, false, 0), (1, .iconst 0, 1, false, nI 0), (2, .putfield 77, 3, false, 0), (5, .iconst 0, 1, false, nI 0), (6, .istore_n 2, 1, false, 0), (7, .iload_n 2, 1, true, 0), (8, .bipush 40, 2, false, nI 40), (10, .if_icmp .ge 85, 3, false, 0), (13, .aload_n 0, 1, false, 0), (14, .iload_n 2, 1, false, 0), (15, .invokevirtual 218, 3, false, 0), (18, .istore_n 3, 1, false, 0), (19, .iload_n 3, 1, false, 0), (20, .ifCond .ne 6, 3, false, 0), (23, .goto 66, 3, false, 0), (26, .iconst 0, 1, false, nI 0), (27, .istore 4, 2, false, 0), (29, .iconst 0, 1, false, nI 0), (30, .istore 5, 2, false, 0), (32, .iload 5, 2, true, 0), (34, .bipush 40, 2, false, nI 40), (36, .if_icmp .ge 45, 3, false, 0), (39, .iload 4, 2, false, 0), (41, .aload_n 0, 1, false, 0), (42, .iload 5, 2, false, 0), (44, .invokevirtual 218, 3, false, 0), (47, .iload_n 3, 1, false, 0), (48, .if_icmp .gt 19, 3, false, 0), (51, .aload_n 0, 1, false, 0), (52, .iload 5, 2, false, 0), (54, .invokevirtual 218, 3, false, 0), (57, .iload_n 3, 1, false, 0), (58, .if_icmp .ne 13, 3, false, 0), (61, .iload 5, 2, false, 0), (63, .iload_n 2, 1, false, 0), (64, .if_icmp .ge 7, 3, false, 0), (67, .iconst 1, 1, false, nI 1), (68, .goto 4, 3, false, 0), (71, .iconst 0, 1, false, nI 0), (72, .iadd, 1, false, 0), (73, .istore 4, 2, false, 0), (75, .iinc 5 1, 3, false, nI 1), (78, .goto (-46), 3, false, 0), (81, .iload 4, 2, false, 0), (83, .iload_n 1, 1, false, 0), (84, .if_icmp .ne 5, 3, false, 0), (87, .iload_n 2, 1, false, 0), (88, .ireturn, 1, false, 0), (89, .iinc 2 1, 3, false, nI 1), (92, .goto (-85), 3, false, 0), (95, .iconst (-1), 1, false, (-1)), (96, .ireturn, 1, false, 0)]
set_option maxRecDepth 100000 in
theorem tk_X10_learn : kp_ok cX10_learn RX10 tb_X10_learn = true := by decide +kernel
def tb_X10_saves : List Ent := [(0, .aload_n 0, 1, false, 0), (1, .iconst 0, 1, false, nI 0), (2, .putfield 77, 3, false, 0), (5, .iload_n 1, 1, false, 0), (6, .invokestatic 167, 3, false, 0), (9, .ifCond .eq 11, 3, false, 0), (12, .aload_n 0, 1, false, 0), (13, .iload_n 1, 1, false, 0), (14, .invokevirtual 218, 3, false, 0), (17, .goto 4, 3, false, 0), (20, .iconst 0, 1, false, nI 0), (21, .ireturn, 1, false, 0)]
set_option maxRecDepth 100000 in
theorem tk_X10_saves : kp_ok cX10_saves RX10 tb_X10_saves = true := by decide +kernel
def tb_X10_count : List Ent := [(0, .aload_n 0, 1, false, 0), (1, .iconst 0, 1, false, nI 0), (2, .putfield 77, 3, false, 0), (5, .iload_n 1, 1, false, 0), (6, .tableswitch 95 0 8 #[50, 55, 60, 65, 70, 75, 80, 85, 90], 50, false, 0), (56, .aload_n 0, 1, false, 0), (57, .getfield 13, 3, false, 0), (60, .ireturn, 1, false, 0), (61, .aload_n 0, 1, false, 0), (62, .getfield 92, 3, false, 0), (65, .ireturn, 1, false, 0), (66, .aload_n 0, 1, false, 0), (67, .getfield 130, 3, false, 0), (70, .ireturn, 1, false, 0), (71, .aload_n 0, 1, false, 0), (72, .getfield 144, 3, false, 0), (75, .ireturn, 1, false, 0), (76, .aload_n 0, 1, false, 0), (77, .getfield 150, 3, false, 0), (80, .ireturn, 1, false, 0), (81, .aload_n 0, 1, false, 0), (82, .getfield 170, 3, false, 0), (85, .ireturn, 1, false, 0), (86, .aload_n 0, 1, false, 0), (87, .getfield 173, 3, false, 0), (90, .ireturn, 1, false, 0), (91, .aload_n 0, 1, false, 0), (92, .getfield 138, 3, false, 0), (95, .ireturn, 1, false, 0), (96, .aload_n 0, 1, false, 0), (97, .invokevirtual 211, 3, false, 0), (100, .ireturn, 1, false, 0), (101, .iconst (-1), 1, false, (-1)), (102, .ireturn, 1, false, 0)]
set_option maxRecDepth 100000 in
theorem tk_X10_count : kp_ok cX10_count RX10 tb_X10_count = true := by decide +kernel
def tb_J9_max_7cf53 : List Ent := [(0, .iload_n 0, 1, false, 0), (1, .iload_n 1, 1, false, 0), (2, .if_icmp .lt 7, 3, false, 0), (5, .iload_n 0, 1, false, 0), (6, .goto 4, 3, false, 0), (9, .iload_n 1, 1, false, 0), (10, .ireturn, 1, false, 0)]
set_option maxRecDepth 100000 in
theorem tk_J9_max_7cf53 : kp_ok cJ9_max_7cf53 RJ9 tb_J9_max_7cf53 = true := by decide +kernel
def tb_J9_min_7cf53 : List Ent := [(0, .iload_n 0, 1, false, 0), (1, .iload_n 1, 1, false, 0), (2, .if_icmp .gt 7, 3, false, 0), (5, .iload_n 0, 1, false, 0), (6, .goto 4, 3, false, 0), (9, .iload_n 1, 1, false, 0), (10, .ireturn, 1, false, 0)]
set_option maxRecDepth 100000 in
theorem tk_J9_min_7cf53 : kp_ok cJ9_min_7cf53 RJ9 tb_J9_min_7cf53 = true := by decide +kernel
def gl_X0 : List Fe := [(9, 0, 0, false), (15, 0, 1, false), (18, 0, 2, false), (22, 0, 3, false), (25, 0, 4, false), (28, 0, 5, true), (32, 0, 6, false), (35, 0, 7, false), (38, 0, 8, false), (43, 0, 9, false), (46, 0, 10, false), (49, 0, 11, false)]
set_option maxRecDepth 100000 in
theorem gk_X0 : ∀ q ∈ gl_X0, kp_okG RX0 q := kp_okGs_spec gl_X0 [207, 209, 210, 212, 213, 215, 216, 218, 220, 221, 222, 223] (by decide +kernel)
def pl_X0 : List Fe := [(18, 0, 2, false), (25, 0, 4, false), (28, 0, 5, true), (32, 0, 6, false)]
set_option maxRecDepth 100000 in
theorem pk_X0 : ∀ q ∈ pl_X0, kp_okP RX0 q := kp_okPs_spec (kp_okGs_spec pl_X0 [210, 213, 215, 216] (by decide +kernel)) (by decide +kernel)
set_option maxRecDepth 100000 in
theorem lk_X0_53 : kp_lnk RX0 53 0 0 0 yX0_forget cX0_forget 1 none := kp_lnk_of 461 43 484 459 460 (by decide +kernel)
set_option maxRecDepth 100000 in
theorem lk_X0_56 : kp_lnk RX0 56 1 0 3 yX0_isAmong cX0_isAmong 4 (some .boolean) := kp_lnk_of 483 43 481 482 0 (by decide +kernel)
set_option maxRecDepth 100000 in
theorem lk_X0_60 : kp_lnk RX0 60 0 0 2 yX0_prepare cX0_prepare 6 none := kp_lnk_of 512 43 509 511 7 (by decide +kernel)
set_option maxRecDepth 100000 in
theorem lk_X0_64 : kp_lnk RX0 64 0 0 2 yX0_giveFrom cX0_giveFrom 6 none := kp_lnk_of 536 43 533 535 9 (by decide +kernel)
set_option maxRecDepth 100000 in
theorem lk_X0_68 : kp_lnk RX0 68 0 3 2 yX3_price cX3_price 4 (some .int) := kp_lnk_of 516 42 513 514 515 (by decide +kernel)
set_option maxRecDepth 100000 in
theorem lk_X0_74 : kp_lnk RX0 74 1 0 2 yJ9_min_7cf53 cJ9_min_7cf53 2 (some .int) := kp_lnk_of 523 47 521 522 0 (by decide +kernel)
set_option maxRecDepth 100000 in
theorem lk_X0_79 : kp_lnk RX0 79 0 2 2 yX2_meet cX2_meet 3 (some .boolean) := kp_lnk_of 527 38 524 525 526 (by decide +kernel)
set_option maxRecDepth 100000 in
theorem lk_X0_85 : kp_lnk RX0 85 0 0 1 yX0_remember cX0_remember 3 none := kp_lnk_of 540 43 537 539 10 (by decide +kernel)
set_option maxRecDepth 100000 in
theorem lk_X0_89 : kp_lnk RX0 89 0 0 2 yX0_isUntaken cX0_isUntaken 4 (some .boolean) := kp_lnk_of 544 43 541 543 11 (by decide +kernel)
set_option maxRecDepth 100000 in
theorem lk_X0_92 : kp_lnk RX0 92 0 3 2 yX3_breaksHabit cX3_breaksHabit 3 (some .boolean) := kp_lnk_of 520 42 557 518 519 (by decide +kernel)
set_option maxRecDepth 100000 in
theorem lk_X0_95 : kp_lnk RX0 95 1 1 2 yX1_key cX1_key 2 (some .int) := kp_lnk_of 315 39 566 314 0 (by decide +kernel)
def gl_X1 : List Fe := [(9, 1, 0, false), (15, 1, 1, false), (18, 1, 2, false)]
set_option maxRecDepth 100000 in
theorem gk_X1 : ∀ q ∈ gl_X1, kp_okG RX1 q := kp_okGs_spec gl_X1 [87, 90, 92] (by decide +kernel)
def pl_X1 : List Fe := [(18, 1, 2, false)]
set_option maxRecDepth 100000 in
theorem pk_X1 : ∀ q ∈ pl_X1, kp_okP RX1 q := kp_okPs_spec (kp_okGs_spec pl_X1 [92] (by decide +kernel)) (by decide +kernel)
set_option maxRecDepth 100000 in
theorem lk_X1_23 : kp_lnk RX1 23 0 1 1 yX1_place cX1_place 6 (some .int) := kp_lnk_of 323 39 320 322 0 (by decide +kernel)
set_option maxRecDepth 100000 in
theorem lk_X1_27 : kp_lnk RX1 27 0 1 2 yX1_isAt cX1_isAt 3 (some .boolean) := kp_lnk_of 327 39 324 326 1 (by decide +kernel)
set_option maxRecDepth 100000 in
theorem lk_X1_31 : kp_lnk RX1 31 0 1 1 yX1_closeGap cX1_closeGap 3 none := kp_lnk_of 335 39 332 334 2 (by decide +kernel)
set_option maxRecDepth 100000 in
theorem lk_X1_35 : kp_lnk RX1 35 0 1 1 yX1_openGap cX1_openGap 3 none := kp_lnk_of 339 39 336 338 3 (by decide +kernel)
def gl_X2 : List Fe := [(9, 2, 0, false), (15, 2, 1, false)]
set_option maxRecDepth 100000 in
theorem gk_X2 : ∀ q ∈ gl_X2, kp_okG RX2 q := kp_okGs_spec gl_X2 [72, 73] (by decide +kernel)
def pl_X2 : List Fe := [(15, 2, 1, false)]
set_option maxRecDepth 100000 in
theorem pk_X2 : ∀ q ∈ pl_X2, kp_okP RX2 q := kp_okPs_spec (kp_okGs_spec pl_X2 [73] (by decide +kernel)) (by decide +kernel)
set_option maxRecDepth 100000 in
theorem lk_X2_19 : kp_lnk RX2 19 0 2 1 yX2_hold cX2_hold 2 (some .boolean) := kp_lnk_of 297 38 294 295 296 (by decide +kernel)
set_option maxRecDepth 100000 in
theorem lk_X2_23 : kp_lnk RX2 23 0 2 2 yX2_isWithin cX2_isWithin 5 (some .boolean) := kp_lnk_of 531 38 528 530 8 (by decide +kernel)
set_option maxRecDepth 100000 in
theorem lk_X2_27 : kp_lnk RX2 27 0 2 1 yX2_outsideOf cX2_outsideOf 2 (some .int) := kp_lnk_of 357 38 532 355 356 (by decide +kernel)
def gl_X3 : List Fe := [(9, 3, 0, false), (15, 3, 1, false), (18, 3, 2, false), (21, 3, 3, false)]
set_option maxRecDepth 100000 in
theorem gk_X3 : ∀ q ∈ gl_X3, kp_okG RX3 q := kp_okGs_spec gl_X3 [181, 183, 186, 188] (by decide +kernel)
def pl_X3 : List Fe := []
set_option maxRecDepth 100000 in
theorem pk_X3 : ∀ q ∈ pl_X3, kp_okP RX3 q := kp_okPs_spec (kp_okGs_spec pl_X3 [] (by decide +kernel)) (by decide +kernel)
set_option maxRecDepth 100000 in
theorem lk_X3_24 : kp_lnk RX3 24 0 3 2 yX3_breaksHabit cX3_breaksHabit 3 (some .boolean) := kp_lnk_of 520 42 517 518 519 (by decide +kernel)
set_option maxRecDepth 100000 in
theorem lk_X3_28 : kp_lnk RX3 28 1 0 1 yX7_length cX7_length 2 (some .int) := kp_lnk_of 383 46 605 382 0 (by decide +kernel)
set_option maxRecDepth 100000 in
theorem lk_X3_34 : kp_lnk RX3 34 1 0 2 yX7_strokeAt cX7_strokeAt 2 (some .int) := kp_lnk_of 309 46 606 308 0 (by decide +kernel)
set_option maxRecDepth 100000 in
theorem lk_X3_38 : kp_lnk RX3 38 1 0 1 yX7_isStroke cX7_isStroke 1 (some .boolean) := kp_lnk_of 312 46 607 311 0 (by decide +kernel)
def gl_X4 : List Fe := [(9, 4, 0, false), (15, 4, 1, false), (18, 4, 2, false), (21, 4, 3, false)]
set_option maxRecDepth 100000 in
theorem gk_X4 : ∀ q ∈ gl_X4, kp_okG RX4 q := kp_okGs_spec gl_X4 [120, 121, 123, 125] (by decide +kernel)
def pl_X4 : List Fe := [(21, 4, 3, false)]
set_option maxRecDepth 100000 in
theorem pk_X4 : ∀ q ∈ pl_X4, kp_okP RX4 q := kp_okPs_spec (kp_okGs_spec pl_X4 [125] (by decide +kernel)) (by decide +kernel)
set_option maxRecDepth 100000 in
theorem lk_X4_25 : kp_lnk RX4 25 0 5 2 yX5_meaningRows cX5_meaningRows 6 (some .int) := kp_lnk_of 369 37 366 367 368 (by decide +kernel)
set_option maxRecDepth 100000 in
theorem lk_X4_31 : kp_lnk RX4 31 1 0 2 yX7_beginsWith cX7_beginsWith 2 (some .boolean) := kp_lnk_of 380 46 378 379 0 (by decide +kernel)
set_option maxRecDepth 100000 in
theorem lk_X4_37 : kp_lnk RX4 37 0 4 2 yX4_add cX4_add 3 none := kp_lnk_of 390 40 387 389 4 (by decide +kernel)
def gl_X5 : List Fe := [(12, 5, 0, false), (21, 5, 1, false), (43, 1, 2, false), (47, 1, 0, false)]
set_option maxRecDepth 100000 in
theorem gk_X5 : ∀ q ∈ gl_X5, kp_okG RX5 q := kp_okGs_spec gl_X5 [103, 105, 95, 89] (by decide +kernel)
def pl_X5 : List Fe := []
set_option maxRecDepth 100000 in
theorem pk_X5 : ∀ q ∈ pl_X5, kp_okP RX5 q := kp_okPs_spec (kp_okGs_spec pl_X5 [] (by decide +kernel)) (by decide +kernel)
set_option maxRecDepth 100000 in
theorem lk_X5_25 : kp_lnk RX5 25 1 1 2 yX1_key cX1_key 2 (some .int) := kp_lnk_of 315 39 352 314 0 (by decide +kernel)
set_option maxRecDepth 100000 in
theorem lk_X5_29 : kp_lnk RX5 29 0 1 1 yX1_at cX1_at 3 (some .int) := kp_lnk_of 319 39 353 317 318 (by decide +kernel)
set_option maxRecDepth 100000 in
theorem lk_X5_33 : kp_lnk RX5 33 0 2 1 yX2_outsideOf cX2_outsideOf 2 (some .int) := kp_lnk_of 357 38 354 355 356 (by decide +kernel)
set_option maxRecDepth 100000 in
theorem lk_X5_36 : kp_lnk RX5 36 0 5 2 yX5_meaning cX5_meaning 6 (some .int) := kp_lnk_of 351 37 374 349 350 (by decide +kernel)
set_option maxRecDepth 100000 in
theorem lk_X5_39 : kp_lnk RX5 39 0 5 2 yX5_opensLonger cX5_opensLonger 5 (some .boolean) := kp_lnk_of 446 37 443 444 445 (by decide +kernel)
set_option maxRecDepth 100000 in
theorem lk_X5_51 : kp_lnk RX5 51 1 1 1 yX1_rowOf cX1_rowOf 1 (some .int) := kp_lnk_of 372 39 370 371 0 (by decide +kernel)
set_option maxRecDepth 100000 in
theorem lk_X5_54 : kp_lnk RX5 54 1 0 2 yX7_beginsWith cX7_beginsWith 2 (some .boolean) := kp_lnk_of 380 46 447 379 0 (by decide +kernel)
set_option maxRecDepth 100000 in
theorem lk_X5_59 : kp_lnk RX5 59 1 5 3 yX5_insertOnce cX5_insertOnce 6 (some .int) := kp_lnk_of 377 37 375 376 0 (by decide +kernel)
def gl_X6 : List Fe := [(9, 6, 0, false), (15, 1, 2, false), (21, 1, 1, false), (28, 1, 0, false), (40, 3, 1, false)]
set_option maxRecDepth 100000 in
theorem gk_X6 : ∀ q ∈ gl_X6, kp_okG RX6 q := kp_okGs_spec gl_X6 [256, 93, 91, 88, 184] (by decide +kernel)
def pl_X6 : List Fe := []
set_option maxRecDepth 100000 in
theorem pk_X6 : ∀ q ∈ pl_X6, kp_okP RX6 q := kp_okPs_spec (kp_okGs_spec pl_X6 [] (by decide +kernel)) (by decide +kernel)
set_option maxRecDepth 100000 in
theorem lk_X6_24 : kp_lnk RX6 24 2 8 1 yX9_isCommand cX9_isCommand 1 (some .boolean) := kp_lnk_of 468 36 599 467 0 (by decide +kernel)
set_option maxRecDepth 100000 in
theorem lk_X6_31 : kp_lnk RX6 31 1 1 1 yX1_rowOf cX1_rowOf 1 (some .int) := kp_lnk_of 372 39 600 371 0 (by decide +kernel)
set_option maxRecDepth 100000 in
theorem lk_X6_35 : kp_lnk RX6 35 0 3 1 yX3_rowStretch cX3_rowStretch 5 (some .int) := kp_lnk_of 604 42 601 602 603 (by decide +kernel)
set_option maxRecDepth 100000 in
theorem lk_X6_43 : kp_lnk RX6 43 1 0 2 yJ9_max_7cf53 cJ9_max_7cf53 2 (some .int) := kp_lnk_of 610 47 608 609 0 (by decide +kernel)
set_option maxRecDepth 100000 in
theorem lk_X6_49 : kp_lnk RX6 49 0 6 1 yX6_countAhead cX6_countAhead 5 (some .int) := kp_lnk_of 618 44 615 617 12 (by decide +kernel)
def gl_X7 : List Fe := []
set_option maxRecDepth 100000 in
theorem gk_X7 : ∀ q ∈ gl_X7, kp_okG RX7 q := kp_okGs_spec gl_X7 [] (by decide +kernel)
def pl_X7 : List Fe := []
set_option maxRecDepth 100000 in
theorem pk_X7 : ∀ q ∈ pl_X7, kp_okP RX7 q := kp_okPs_spec (kp_okGs_spec pl_X7 [] (by decide +kernel)) (by decide +kernel)
set_option maxRecDepth 100000 in
theorem lk_X7_10 : kp_lnk RX7 10 1 0 2 yX7_strokeAt cX7_strokeAt 2 (some .int) := kp_lnk_of 309 46 307 308 0 (by decide +kernel)
set_option maxRecDepth 100000 in
theorem lk_X7_16 : kp_lnk RX7 16 1 0 1 yX7_isStroke cX7_isStroke 1 (some .boolean) := kp_lnk_of 312 46 310 311 0 (by decide +kernel)
set_option maxRecDepth 100000 in
theorem lk_X7_20 : kp_lnk RX7 20 1 0 1 yX7_length cX7_length 2 (some .int) := kp_lnk_of 383 46 381 382 0 (by decide +kernel)
set_option maxRecDepth 100000 in
theorem lk_X7_24 : kp_lnk RX7 24 1 0 2 yX7_beginning cX7_beginning 2 (some .int) := kp_lnk_of 386 46 384 385 0 (by decide +kernel)
def gl_X8 : List Fe := [(9, 7, 0, false), (15, 7, 1, false), (18, 7, 2, false), (22, 7, 3, false), (25, 7, 4, false), (28, 7, 5, false), (31, 7, 6, false), (34, 7, 7, false)]
set_option maxRecDepth 100000 in
theorem gk_X8 : ∀ q ∈ gl_X8, kp_okG RX8 q := kp_okGs_spec gl_X8 [142, 144, 146, 148, 150, 152, 154, 156] (by decide +kernel)
def pl_X8 : List Fe := [(18, 7, 2, false), (22, 7, 3, false), (31, 7, 6, false), (34, 7, 7, false)]
set_option maxRecDepth 100000 in
theorem pk_X8 : ∀ q ∈ pl_X8, kp_okP RX8 q := kp_okPs_spec (kp_okGs_spec pl_X8 [146, 148, 154, 156] (by decide +kernel)) (by decide +kernel)
set_option maxRecDepth 100000 in
theorem lk_X8_38 : kp_lnk RX8 38 0 7 2 yX8_settleAll cX8_settleAll 4 none := kp_lnk_of 406 41 435 404 405 (by decide +kernel)
set_option maxRecDepth 100000 in
theorem lk_X8_42 : kp_lnk RX8 42 1 0 2 yX7_withStroke cX7_withStroke 2 (some .int) := kp_lnk_of 438 46 436 437 0 (by decide +kernel)
set_option maxRecDepth 100000 in
theorem lk_X8_48 : kp_lnk RX8 48 0 5 2 yX5_isLive cX5_isLive 3 (some .boolean) := kp_lnk_of 442 37 439 440 441 (by decide +kernel)
set_option maxRecDepth 100000 in
theorem lk_X8_54 : kp_lnk RX8 54 0 7 2 yX8_settleOne cX8_settleOne 5 none := kp_lnk_of 410 41 407 409 5 (by decide +kernel)
set_option maxRecDepth 100000 in
theorem lk_X8_57 : kp_lnk RX8 57 0 5 2 yX5_meaning cX5_meaning 6 (some .int) := kp_lnk_of 351 37 413 349 350 (by decide +kernel)
set_option maxRecDepth 100000 in
theorem lk_X8_60 : kp_lnk RX8 60 0 5 2 yX5_opensLonger cX5_opensLonger 5 (some .boolean) := kp_lnk_of 446 37 448 444 445 (by decide +kernel)
set_option maxRecDepth 100000 in
theorem lk_X8_63 : kp_lnk RX8 63 1 0 1 yX7_length cX7_length 2 (some .int) := kp_lnk_of 383 46 411 382 0 (by decide +kernel)
set_option maxRecDepth 100000 in
theorem lk_X8_67 : kp_lnk RX8 67 1 0 2 yX7_beginning cX7_beginning 2 (some .int) := kp_lnk_of 386 46 412 385 0 (by decide +kernel)
set_option maxRecDepth 100000 in
theorem lk_X8_70 : kp_lnk RX8 70 0 7 2 yX8_send cX8_send 3 none := kp_lnk_of 417 41 414 416 6 (by decide +kernel)
set_option maxRecDepth 100000 in
theorem lk_X8_74 : kp_lnk RX8 74 1 0 2 yX7_withoutBeginning cX7_withoutBeginning 2 (some .int) := kp_lnk_of 420 46 418 419 0 (by decide +kernel)
def gl_X9 : List Fe := [(12, 8, 0, false), (19, 8, 1, false), (23, 8, 2, false), (30, 8, 3, false), (37, 8, 4, false), (44, 8, 5, false), (51, 8, 6, false), (58, 8, 7, false), (62, 5, 0, false), (85, 5, 1, false), (91, 1, 2, false), (106, 4, 3, false), (107, 4, 1, false), (110, 4, 2, false), (116, 7, 6, false), (122, 7, 4, false), (135, 7, 7, false), (141, 7, 2, false), (159, 3, 0, false), (168, 3, 1, false), (171, 3, 2, false), (174, 3, 3, false), (190, 0, 6, false), (193, 0, 2, false), (196, 0, 7, false), (206, 0, 0, false), (230, 6, 0, false), (233, 2, 1, false), (234, 7, 3, false), (237, 0, 4, false)]
set_option maxRecDepth 100000 in
theorem gk_X9 : ∀ q ∈ gl_X9, kp_okG RX9 q := kp_okGs_spec gl_X9 [261, 262, 263, 264, 265, 266, 267, 268, 104, 106, 94, 126, 122, 124, 155, 151, 157, 147, 182, 185, 187, 189, 217, 211, 219, 208, 257, 74, 149, 214] (by decide +kernel)
def pl_X9 : List Fe := [(113, 7, 5, false), (122, 7, 4, false)]
set_option maxRecDepth 100000 in
theorem pk_X9 : ∀ q ∈ pl_X9, kp_okP RX9 q := kp_okPs_spec (kp_okGs_spec pl_X9 [153, 151] (by decide +kernel)) (by decide +kernel)
set_option maxRecDepth 100000 in
theorem lk_X9_66 : kp_lnk RX9 66 0 2 1 yX2_add cX2_add 2 (some .int) := kp_lnk_of 293 38 290 291 292 (by decide +kernel)
set_option maxRecDepth 100000 in
theorem lk_X9_72 : kp_lnk RX9 72 0 2 1 yX2_hold cX2_hold 2 (some .boolean) := kp_lnk_of 297 38 302 295 296 (by decide +kernel)
set_option maxRecDepth 100000 in
theorem lk_X9_76 : kp_lnk RX9 76 1 0 1 yX7_isRow cX7_isRow 4 (some .boolean) := kp_lnk_of 305 46 303 304 0 (by decide +kernel)
set_option maxRecDepth 100000 in
theorem lk_X9_81 : kp_lnk RX9 81 1 1 2 yX1_key cX1_key 2 (some .int) := kp_lnk_of 315 39 313 314 0 (by decide +kernel)
set_option maxRecDepth 100000 in
theorem lk_X9_88 : kp_lnk RX9 88 0 1 1 yX1_at cX1_at 3 (some .int) := kp_lnk_of 319 39 316 317 318 (by decide +kernel)
set_option maxRecDepth 100000 in
theorem lk_X9_95 : kp_lnk RX9 95 0 1 2 yX1_put cX1_put 5 none := kp_lnk_of 331 39 328 329 330 (by decide +kernel)
set_option maxRecDepth 100000 in
theorem lk_X9_99 : kp_lnk RX9 99 0 5 2 yX5_meaning cX5_meaning 6 (some .int) := kp_lnk_of 351 37 348 349 350 (by decide +kernel)
set_option maxRecDepth 100000 in
theorem lk_X9_102 : kp_lnk RX9 102 0 4 2 yX4_collect cX4_collect 6 none := kp_lnk_of 365 40 362 363 364 (by decide +kernel)
set_option maxRecDepth 100000 in
theorem lk_X9_119 : kp_lnk RX9 119 0 7 2 yX8_settleAll cX8_settleAll 4 none := kp_lnk_of 406 41 403 404 405 (by decide +kernel)
set_option maxRecDepth 100000 in
theorem lk_X9_125 : kp_lnk RX9 125 1 0 1 yX7_isStroke cX7_isStroke 1 (some .boolean) := kp_lnk_of 312 46 425 311 0 (by decide +kernel)
set_option maxRecDepth 100000 in
theorem lk_X9_128 : kp_lnk RX9 128 0 7 1 yX8_mayComeAt cX8_mayComeAt 2 (some .boolean) := kp_lnk_of 429 41 426 427 428 (by decide +kernel)
set_option maxRecDepth 100000 in
theorem lk_X9_131 : kp_lnk RX9 131 0 7 3 yX8_press cX8_press 5 none := kp_lnk_of 434 41 431 432 433 (by decide +kernel)
set_option maxRecDepth 100000 in
theorem lk_X9_138 : kp_lnk RX9 138 1 0 1 yX7_length cX7_length 2 (some .int) := kp_lnk_of 383 46 449 382 0 (by decide +kernel)
set_option maxRecDepth 100000 in
theorem lk_X9_162 : kp_lnk RX9 162 0 0 0 yX0_forget cX0_forget 1 none := kp_lnk_of 461 43 458 459 460 (by decide +kernel)
set_option maxRecDepth 100000 in
theorem lk_X9_165 : kp_lnk RX9 165 1 8 1 yX9_isCommand cX9_isCommand 1 (some .boolean) := kp_lnk_of 468 36 466 467 0 (by decide +kernel)
set_option maxRecDepth 100000 in
theorem lk_X9_177 : kp_lnk RX9 177 0 0 2 yX0_addWanted cX0_addWanted 3 (some .int) := kp_lnk_of 480 43 477 478 479 (by decide +kernel)
set_option maxRecDepth 100000 in
theorem lk_X9_180 : kp_lnk RX9 180 0 0 1 yX0_addOffered cX0_addOffered 2 (some .int) := kp_lnk_of 492 43 489 490 491 (by decide +kernel)
set_option maxRecDepth 100000 in
theorem lk_X9_183 : kp_lnk RX9 183 0 0 0 yX0_empty cX0_empty 1 none := kp_lnk_of 500 43 497 498 499 (by decide +kernel)
set_option maxRecDepth 100000 in
theorem lk_X9_186 : kp_lnk RX9 186 0 0 2 yX0_solve cX0_solve 3 none := kp_lnk_of 508 43 505 506 507 (by decide +kernel)
set_option maxRecDepth 100000 in
theorem lk_X9_199 : kp_lnk RX9 199 0 0 1 yX0_brokenHabits cX0_brokenHabits 4 (some .int) := kp_lnk_of 556 43 553 554 555 (by decide +kernel)
set_option maxRecDepth 100000 in
theorem lk_X9_203 : kp_lnk RX9 203 0 0 1 yX0_bestKey cX0_bestKey 2 (some .int) := kp_lnk_of 565 43 562 563 564 (by decide +kernel)
set_option maxRecDepth 100000 in
theorem lk_X9_209 : kp_lnk RX9 209 0 1 1 yX1_copyFrom cX1_copyFrom 3 none := kp_lnk_of 574 39 571 572 573 (by decide +kernel)
set_option maxRecDepth 100000 in
theorem lk_X9_213 : kp_lnk RX9 213 0 1 2 yX1_differences cX1_differences 11 (some .int) := kp_lnk_of 582 39 579 580 581 (by decide +kernel)
set_option maxRecDepth 100000 in
theorem lk_X9_217 : kp_lnk RX9 217 1 1 1 yX1_contextOf cX1_contextOf 1 (some .int) := kp_lnk_of 585 39 583 584 0 (by decide +kernel)
set_option maxRecDepth 100000 in
theorem lk_X9_220 : kp_lnk RX9 220 1 1 1 yX1_rowOf cX1_rowOf 1 (some .int) := kp_lnk_of 372 39 586 371 0 (by decide +kernel)
set_option maxRecDepth 100000 in
theorem lk_X9_223 : kp_lnk RX9 223 0 6 2 yX6_weigh cX6_weigh 6 none := kp_lnk_of 598 44 595 596 597 (by decide +kernel)
set_option maxRecDepth 100000 in
theorem lk_X9_227 : kp_lnk RX9 227 0 6 1 yX6_ranked cX6_ranked 3 (some .int) := kp_lnk_of 614 44 611 612 613 (by decide +kernel)
def gl_X10 : List Fe := [(9, 9, 1, false), (13, 9, 2, false), (17, 9, 4, false), (20, 9, 12, false), (23, 9, 13, false), (26, 9, 14, false), (29, 9, 15, false), (32, 9, 16, false), (35, 9, 17, false), (38, 9, 18, false), (41, 9, 19, false), (44, 9, 20, false), (47, 9, 22, false), (50, 9, 23, false), (53, 9, 24, false), (56, 9, 25, false), (59, 9, 26, false), (62, 9, 27, false), (65, 9, 28, false), (68, 9, 29, false), (71, 9, 31, false), (74, 9, 32, false), (77, 9, 0, false), (92, 9, 8, false), (115, 9, 30, false), (130, 9, 21, false), (138, 9, 3, false), (144, 9, 6, false), (150, 9, 7, false), (156, 9, 5, false), (170, 9, 10, false), (173, 9, 11, false), (179, 9, 33, false), (196, 9, 9, false), (199, 9, 34, false), (202, 9, 35, false)]
set_option maxRecDepth 100000 in
theorem gk_X10 : ∀ q ∈ gl_X10, kp_okG RX10 q := kp_okGs_spec gl_X10 [709, 710, 712, 720, 721, 722, 723, 724, 725, 726, 727, 728, 730, 731, 732, 733, 734, 735, 736, 737, 739, 740, 708, 716, 738, 729, 711, 714, 715, 713, 718, 719, 741, 717, 742, 743] (by decide +kernel)
def pl_X10 : List Fe := [(13, 9, 2, false), (17, 9, 4, false), (77, 9, 0, false), (92, 9, 8, false), (115, 9, 30, false), (130, 9, 21, false), (138, 9, 3, false), (144, 9, 6, false), (150, 9, 7, false), (156, 9, 5, false), (170, 9, 10, false), (173, 9, 11, false), (179, 9, 33, false), (196, 9, 9, false), (199, 9, 34, false), (202, 9, 35, false)]
set_option maxRecDepth 100000 in
theorem pk_X10 : ∀ q ∈ pl_X10, kp_okP RX10 q := kp_okPs_spec (kp_okGs_spec pl_X10 [710, 712, 708, 716, 738, 729, 711, 714, 715, 713, 718, 719, 741, 717, 742, 743] (by decide +kernel)) (by decide +kernel)
set_option maxRecDepth 100000 in
theorem lk_X10_80 : kp_lnk RX10 80 1 9 2 yX10_stroke cX10_stroke 2 (some .int) := kp_lnk_of 838 45 836 837 0 (by decide +kernel)
set_option maxRecDepth 100000 in
theorem lk_X10_84 : kp_lnk RX10 84 1 9 3 yX10_isIn cX10_isIn 3 (some .boolean) := kp_lnk_of 841 45 839 840 0 (by decide +kernel)
set_option maxRecDepth 100000 in
theorem lk_X10_88 : kp_lnk RX10 88 0 9 1 yX10_isContext cX10_isContext 2 (some .boolean) := kp_lnk_of 828 45 825 827 14 (by decide +kernel)
set_option maxRecDepth 100000 in
theorem lk_X10_95 : kp_lnk RX10 95 0 9 2 yX10_entry cX10_entry 4 (some .int) := kp_lnk_of 849 45 846 848 16 (by decide +kernel)
set_option maxRecDepth 100000 in
theorem lk_X10_98 : kp_lnk RX10 98 1 9 1 yX10_isRow cX10_isRow 4 (some .boolean) := kp_lnk_of 835 45 833 834 0 (by decide +kernel)
set_option maxRecDepth 100000 in
theorem lk_X10_101 : kp_lnk RX10 101 0 9 2 yX10_hasFor cX10_hasFor 4 (some .int) := kp_lnk_of 845 45 842 844 15 (by decide +kernel)
set_option maxRecDepth 100000 in
theorem lk_X10_104 : kp_lnk RX10 104 0 9 3 yX10_set cX10_set 6 none := kp_lnk_of 853 45 850 852 17 (by decide +kernel)
set_option maxRecDepth 100000 in
theorem lk_X10_108 : kp_lnk RX10 108 0 9 2 yX10_meaning cX10_meaning 5 (some .int) := kp_lnk_of 865 45 862 864 18 (by decide +kernel)
set_option maxRecDepth 100000 in
theorem lk_X10_111 : kp_lnk RX10 111 1 9 1 yX10_length cX10_length 1 (some .int) := kp_lnk_of 883 45 881 882 0 (by decide +kernel)
set_option maxRecDepth 100000 in
theorem lk_X10_118 : kp_lnk RX10 118 0 9 1 yX10_findRows cX10_findRows 5 none := kp_lnk_of 877 45 874 876 20 (by decide +kernel)
set_option maxRecDepth 100000 in
theorem lk_X10_122 : kp_lnk RX10 122 1 9 2 yX10_begins cX10_begins 2 (some .boolean) := kp_lnk_of 880 45 878 879 0 (by decide +kernel)
set_option maxRecDepth 100000 in
theorem lk_X10_126 : kp_lnk RX10 126 0 9 3 yX10_fightOf cX10_fightOf 7 (some .int) := kp_lnk_of 873 45 870 872 19 (by decide +kernel)
set_option maxRecDepth 100000 in
theorem lk_X10_133 : kp_lnk RX10 133 1 0 2 yJ9_min_7cf53 cJ9_min_7cf53 2 (some .int) := kp_lnk_of 523 47 904 522 0 (by decide +kernel)
set_option maxRecDepth 100000 in
theorem lk_X10_141 : kp_lnk RX10 141 0 9 1 yX10_ahead cX10_ahead 4 (some .int) := kp_lnk_of 908 45 905 907 23 (by decide +kernel)
set_option maxRecDepth 100000 in
theorem lk_X10_147 : kp_lnk RX10 147 0 9 1 yX10_goes cX10_goes 3 none := kp_lnk_of 912 45 909 911 24 (by decide +kernel)
set_option maxRecDepth 100000 in
theorem lk_X10_153 : kp_lnk RX10 153 0 9 1 yX10_one cX10_one 4 none := kp_lnk_of 903 45 900 902 22 (by decide +kernel)
set_option maxRecDepth 100000 in
theorem lk_X10_159 : kp_lnk RX10 159 0 9 1 yX10_settles cX10_settles 2 none := kp_lnk_of 899 45 896 898 21 (by decide +kernel)
set_option maxRecDepth 100000 in
theorem lk_X10_163 : kp_lnk RX10 163 0 9 1 yX10_leads cX10_leads 4 (some .boolean) := kp_lnk_of 921 45 918 920 25 (by decide +kernel)
set_option maxRecDepth 100000 in
theorem lk_X10_167 : kp_lnk RX10 167 1 9 1 yX10_isCommand cX10_isCommand 1 (some .boolean) := kp_lnk_of 940 45 938 939 0 (by decide +kernel)
set_option maxRecDepth 100000 in
theorem lk_X10_176 : kp_lnk RX10 176 0 9 2 yX10_stands cX10_stands 4 (some .boolean) := kp_lnk_of 976 45 973 975 29 (by decide +kernel)
set_option maxRecDepth 100000 in
theorem lk_X10_182 : kp_lnk RX10 182 0 9 2 yX10_meet cX10_meet 3 (some .boolean) := kp_lnk_of 972 45 969 971 28 (by decide +kernel)
set_option maxRecDepth 100000 in
theorem lk_X10_185 : kp_lnk RX10 185 0 9 2 yX10_breaks cX10_breaks 3 (some .boolean) := kp_lnk_of 980 45 977 979 30 (by decide +kernel)
set_option maxRecDepth 100000 in
theorem lk_X10_188 : kp_lnk RX10 188 0 9 2 yX10_gives cX10_gives 6 none := kp_lnk_of 968 45 965 967 27 (by decide +kernel)
set_option maxRecDepth 100000 in
theorem lk_X10_192 : kp_lnk RX10 192 0 9 0 yX10_assigns cX10_assigns 1 (some .boolean) := kp_lnk_of 964 45 961 963 26 (by decide +kernel)
set_option maxRecDepth 100000 in
theorem lk_X10_205 : kp_lnk RX10 205 0 9 2 yX10_keptFor cX10_keptFor 4 (some .int) := kp_lnk_of 1008 45 1005 1007 32 (by decide +kernel)
set_option maxRecDepth 100000 in
theorem lk_X10_208 : kp_lnk RX10 208 0 9 2 yX10_nextChange cX10_nextChange 9 (some .boolean) := kp_lnk_of 1004 45 1001 1003 31 (by decide +kernel)
set_option maxRecDepth 100000 in
theorem lk_X10_211 : kp_lnk RX10 211 0 9 0 yX10_changes cX10_changes 3 (some .int) := kp_lnk_of 1016 45 1013 1015 33 (by decide +kernel)
set_option maxRecDepth 100000 in
theorem lk_X10_215 : kp_lnk RX10 215 1 0 2 yJ9_max_7cf53 cJ9_max_7cf53 2 (some .int) := kp_lnk_of 610 47 1025 609 0 (by decide +kernel)
set_option maxRecDepth 100000 in
theorem lk_X10_218 : kp_lnk RX10 218 0 9 1 yX10_savedBy cX10_savedBy 6 (some .int) := kp_lnk_of 1024 45 1021 1023 34 (by decide +kernel)
def gl_J9 : List Fe := []
set_option maxRecDepth 100000 in
theorem gk_J9 : ∀ q ∈ gl_J9, kp_okG RJ9 q := kp_okGs_spec gl_J9 [] (by decide +kernel)
def pl_J9 : List Fe := []
set_option maxRecDepth 100000 in
theorem pk_J9 : ∀ q ∈ pl_J9, kp_okP RJ9 q := kp_okPs_spec (kp_okGs_spec pl_J9 [] (by decide +kernel)) (by decide +kernel)
end
section
/-! numbers, rows and maps: what both classes speak of -/
def layC : List Ds := [.inl (8, [some 1, some 7, some 10, some 11, some 15, some 18, some 23, some 38]), .inl (5, [some 2, some 4]), .inl (2, [some 3, none]), .inr (0, 12, []), .inl (1, [some 5, some 6, none]), .inr (0, 120, []), .inr (0, 120, []), .inl (1, [some 8, some 9, none]), .inr (0, 120, []), .inr (0, 120, []), .inr (0, 240, []), .inl (4, [some 12, some 13, some 14, none]), .inr (0, 120, []), .inr (0, 240, []), .inr (0, 240, []), .inl (7, [some 16, some 17, none, none, none, none, none, none]), .inr (0, 400, []), .inr (0, 400, []), .inl (3, [some 19, some 20, some 21, some 22]), .inr (0, 241, []), .inr (0, 40, []), .inr (0, 40, []), .inr (0, 40, []), .inl (0, [some 24, some 25, none, some 26, none, none, none, some 27, some 28, some 29, some 36, some 37]), .inr (0, 6, []), .inr (0, 6, []), .inr (0, 8, []), .inr (0, 6, []), .inr (0, 6, []), .inr (2, 6, [30, 31, 32, 33, 34, 35]), .inr (0, 8, []), .inr (0, 8, []), .inr (0, 8, []), .inr (0, 8, []), .inr (0, 8, []), .inr (0, 8, []), .inr (0, 7, []), .inr (1, 36, []), .inl (6, [some 39]), .inr (0, 40, [])]
def layM : List Ds := [.inl (9, [none, some 1, none, none, none, none, none, none, none, none, none, none, some 2, some 3, some 4, some 5, some 6, some 7, some 8, some 9, some 10, none, some 11, some 12, some 13, some 14, some 15, some 16, some 17, some 18, none, some 19, some 20, none, none, none]), .inr (0, 12, []), .inr (0, 120, []), .inr (0, 120, []), .inr (0, 120, []), .inr (0, 120, []), .inr (0, 120, []), .inr (0, 120, []), .inr (0, 8, []), .inr (0, 400, []), .inr (0, 400, []), .inr (0, 241, []), .inr (0, 40, []), .inr (0, 40, []), .inr (0, 40, []), .inr (0, 6, []), .inr (0, 6, []), .inr (0, 8, []), .inr (0, 120, []), .inr (0, 6, []), .inr (0, 6, [])]
def tn (x : Int32) : Nat := x.toNatClampNeg
def bI (b : Bool) : Int32 := if b = true then nI 1 else nI 0
theorem bI_t : bI true = nI 1 := rfl
theorem bI_f : bI false = nI 0 := rfl
theorem bI_01 (b : Bool) : bI b = nI 0 ∨ bI b = nI 1 := by cases b <;> simp [bI]
theorem bI_0 {b : Bool} : bI b = nI 0 ↔ b = false := by cases b <;> decide
theorem bI_1 {b : Bool} : bI b = nI 1 ↔ b = true := by cases b <;> decide
theorem kp_in {a n : Nat} (h : a < 2 ^ 31) : vp_in (nI a) n ↔ a < n := by
  rw [vp_in_iff, nI_toInt h]; omega
theorem tn_nI {a : Nat} (h : a < 2 ^ 31) : tn (nI a) = a := nI_clamp h
theorem nI_tn {x : Int32} (h : ¬ x < nI 0) : nI (tn x) = x := by
  obtain ⟨j, hj, rfl⟩ := nI_of (show ¬ x < 0 from h)
  rw [tn_nI hj]
theorem tn_lt (x : Int32) : tn x < 2 ^ 31 := by
  unfold tn Int32.toNatClampNeg
  have := x.toInt_lt
  omega
theorem lt_I {x y : Int32} : x < y ↔ x.toInt < y.toInt := Int32.lt_iff_toInt_lt
theorem le_I {x y : Int32} : x ≤ y ↔ x.toInt ≤ y.toInt := Int32.le_iff_toInt_le
theorem eq_I {x y : Int32} : x = y ↔ x.toInt = y.toInt := Int32.toInt_inj.symm
theorem up_s {σ : Sg} {c k : Nat} {x : Int32} : kp_up σ c k x c k = x := by simp [kp_up, upd]
theorem up_n {σ : Sg} {c k : Nat} {x : Int32} {j : Nat} (h : j ≠ k) : kp_up σ c k x c j = σ c j := by simp [kp_up, upd, h]
theorem up_c {σ : Sg} {c k : Nat} {x : Int32} {a : Nat} (h : a ≠ c) : kp_up σ c k x a = σ a := if_neg h
theorem up_g {σ : Sg} {c k : Nat} {x : Int32} {a j : Nat} : kp_up σ c k x a j = if a = c ∧ j = k then x else σ a j := by
  unfold kp_up upd
  by_cases h1 : a = c
  · subst h1
    by_cases h2 : j = k <;> simp [h2]
  · simp [h1]
/-- all cells but those stay -/
def fr (l : List Nat) (σ τ : Sg) : Prop := ∀ c, c ∉ l → τ c = σ c
theorem fr_rf {l : List Nat} {σ : Sg} : fr l σ σ := fun _ _ => rfl
theorem fr_up {l : List Nat} {σ τ : Sg} {c k : Nat} {x : Int32} (h : fr l σ τ) (hc : c ∈ l) : fr l σ (kp_up τ c k x) := fun a ha => by
  have hne : a ≠ c := fun e => ha (by rw [e]; exact hc)
  rw [up_c hne]
  exact h a ha
theorem fr_tr {l : List Nat} {σ τ υ : Sg} (h : fr l σ τ) (h2 : fr l τ υ) : fr l σ υ := fun a ha => (h2 a ha).trans (h a ha)
theorem fr_mono {l l' : List Nat} {σ τ : Sg} (h : fr l σ τ) (hs : ∀ c ∈ l, c ∈ l') : fr l' σ τ := fun a ha => h a (fun q => ha (hs a q))
end
section
/-! rows: KeyPlan$Row, and what a row is -/
def rowOK (r : Nat) : Bool := decide (1 ≤ r % 256 ∧ r % 256 ≤ 240 ∧ r / 256 % 256 ≤ 240 ∧ r / 65536 ≤ 240 ∧ (r / 256 % 256 = 0 → r / 65536 = 0))
def rlen (r : Nat) : Nat := if r % 256 = 0 then 0 else if r / 256 % 256 = 0 then 1 else if r / 65536 % 256 = 0 then 2 else 3
def isRw (x : Int32) : Bool := !decide (x < nI 1) && rowOK (tn x)
def isSt (x : Int32) : Bool := !decide (x < nI 1) && !decide (nI 240 < x)
theorem rowOK_iff {r : Nat} : rowOK r = true ↔ 1 ≤ r % 256 ∧ r % 256 ≤ 240 ∧ r / 256 % 256 ≤ 240 ∧ r / 65536 ≤ 240 ∧ (r / 256 % 256 = 0 → r / 65536 = 0) := decide_eq_true_iff
theorem rowOK_lt {r : Nat} (h : rowOK r = true) : r < 16777216 := by have := rowOK_iff.mp h; omega
theorem rlen_le (r : Nat) : rlen r ≤ 3 := by unfold rlen; split <;> (try split) <;> (try split) <;> omega
def pr_X7_isStroke : SPre := fun As σ => ∃ x : Int32, As = [.int x] ∧ (True)
def po_X7_isStroke : SPost := fun As σ r τ => match As with
  | [.int x] => (τ = σ ∧ r = bI (isSt x))
  | _ => True
def ms_X7_isStroke : List Me := []
theorem mk_X7_isStroke : ∀ q ∈ ms_X7_isStroke, kp_okM layC RX7 0 q := fun _ h => absurd h List.not_mem_nil
set_option maxRecDepth 100000 in
theorem v_X7_isStroke {J : Nat → Lcl → List Value → Sg → Prop} {Q : Int32 → Sg → Prop} (x : Int32) (σ : Sg) (h : (x < (nI 1) → ((nI 0) = nI 0 ∨ (nI 0) = nI 1) ∧ Q (nI 0) σ) ∧ (¬ x < (nI 1) → ((nI 240) < x → ((nI 0) = nI 0 ∨ (nI 0) = nI 1) ∧ Q (nI 0) σ) ∧ (¬ (nI 240) < x → ((nI 1) = nI 0 ∨ (nI 1) = nI 1) ∧ Q (nI 1) σ))) : kp_T layC gl_X7 pl_X7 (ms_X7_isStroke) tb_X7_isStroke (kp_rk (some .boolean)) J Q 30 tb_X7_isStroke (kp_en [.int x] 1) [] σ := h
set_option maxRecDepth 100000 in
set_option maxHeartbeats 4000000 in
theorem c_X7_isStroke : kp_Met layC 0 yX7_isStroke cX7_isStroke 1 (some .boolean) (pr_X7_isStroke) (po_X7_isStroke) := by
  refine kp_met (N := 30) (by decide) tk_X7_isStroke gk_X7 pk_X7 (mk_X7_isStroke) rfl (fun _ _ _ _ _ _ _ => False) ?_ (fun _ _ _ _ _ _ _ _ h => h.elim)
  rintro As σ ⟨x, rfl, hp⟩
  refine ⟨⟨rfl, Nat.le_of_ble_eq_true rfl⟩, v_X7_isStroke x σ ?_⟩
  refine ⟨fun h1 => ⟨Or.inl rfl, rfl, ?_⟩, fun h1 => ⟨fun h2 => ⟨Or.inl rfl, rfl, ?_⟩, fun h2 => ⟨Or.inr rfl, rfl, ?_⟩⟩⟩
  · simp [isSt, h1, bI]
  · simp [isSt, h1, h2, bI]
  · simp [isSt, h1, h2, bI]
def pr_X7_strokeAt : SPre := fun As σ => ∃ row : Int32, ∃ i : Int32, As = [.int row, .int i] ∧ (∃ r k : Nat, row = nI r ∧ r < 16777216 ∧ i = nI k ∧ k < 3)
def po_X7_strokeAt : SPost := fun As σ r τ => match As with
  | [.int row, .int i] => (τ = σ ∧ r = nI (tn row / 256 ^ tn i % 256))
  | _ => True
def ms_X7_strokeAt : List Me := []
theorem mk_X7_strokeAt : ∀ q ∈ ms_X7_strokeAt, kp_okM layC RX7 0 q := fun _ h => absurd h List.not_mem_nil
set_option maxRecDepth 100000 in
theorem v_X7_strokeAt {J : Nat → Lcl → List Value → Sg → Prop} {Q : Int32 → Sg → Prop} (row i : Int32) (σ : Sg) (h : Q (((Int32.toUInt32 row >>> (Int32.toUInt32 ((nI 8) * i) &&& Int32.toUInt32 31)).toInt32) &&& (nI 255)) σ) : kp_T layC gl_X7 pl_X7 (ms_X7_strokeAt) tb_X7_strokeAt (kp_rk (some .int)) J Q 30 tb_X7_strokeAt (kp_en [.int row, .int i] 2) [] σ := h
set_option maxRecDepth 100000 in
set_option maxHeartbeats 4000000 in
theorem c_X7_strokeAt : kp_Met layC 0 yX7_strokeAt cX7_strokeAt 2 (some .int) (pr_X7_strokeAt) (po_X7_strokeAt) := by
  refine kp_met (N := 30) (by decide) tk_X7_strokeAt gk_X7 pk_X7 (mk_X7_strokeAt) rfl (fun _ _ _ _ _ _ _ => False) ?_ (fun _ _ _ _ _ _ _ _ h => h.elim)
  rintro As σ ⟨row, i, rfl, hp⟩
  refine ⟨⟨rfl, Nat.le_of_ble_eq_true rfl⟩, v_X7_strokeAt row i σ ?_⟩
  obtain ⟨r, k, rfl, hr, rfl, hk⟩ := hp
  refine ⟨rfl, ?_⟩
  rw [tn_nI (by omega), tn_nI (by omega), pk_mul]
  rcases (show k = 0 ∨ k = 1 ∨ k = 2 by omega) with rfl | rfl | rfl
  · rw [pk_ushrN (by omega) _ 0 rfl, pk_andN (by omega) 8 rfl]
  · rw [pk_ushrN (by omega) _ 8 rfl, pk_andN (by omega) 8 rfl]
  · rw [pk_ushrN (by omega) _ 16 rfl, pk_andN (by omega) 8 rfl]
def pr_X7_length : SPre := fun As σ => ∃ row : Int32, As = [.int row] ∧ (∃ r : Nat, row = nI r ∧ r < 16777216)
def po_X7_length : SPost := fun As σ r τ => match As with
  | [.int row] => (τ = σ ∧ r = nI (rlen (tn row)))
  | _ => True
def ms_X7_length : List Me := [(10, 1, 0, 2, true, pr_X7_strokeAt, po_X7_strokeAt)]
theorem mk_X7_length : ∀ q ∈ ms_X7_length, kp_okM layC RX7 1 q := List.forall_mem_cons.mpr ⟨Or.inl ⟨0, yX7_strokeAt, cX7_strokeAt, 2, (some .int), c_X7_strokeAt, by omega, by decide, rfl, lk_X7_10⟩, fun _ h => absurd h List.not_mem_nil⟩
set_option maxRecDepth 100000 in
theorem v_X7_length {J : Nat → Lcl → List Value → Sg → Prop} {Q : Int32 → Sg → Prop} (row : Int32) (σ : Sg) (h : J 2 [some (.int row), some (.int (nI 0))] [] σ) : kp_T layC gl_X7 pl_X7 (ms_X7_length) tb_X7_length (kp_rk (some .int)) J Q 30 tb_X7_length (kp_en [.int row] 2) [] σ := h
set_option maxRecDepth 100000 in
theorem v_X7_length_2 {J : Nat → Lcl → List Value → Sg → Prop} {Q : Int32 → Sg → Prop} (row k : Int32) (σ : Sg) (h : (¬ k < (nI 3) → Q k σ) ∧ (k < (nI 3) → pr_X7_strokeAt [.int row, .int k] σ ∧ ∀ (x2 : Int32) (τ1 : Sg), po_X7_strokeAt [.int row, .int k] σ x2 τ1 → ((x2 = (nI 0) → Q k τ1) ∧ (¬ x2 = (nI 0) → J 2 [some (.int row), some (.int (k + nI 1))] [] τ1)))) : kp_T1 layC gl_X7 pl_X7 (ms_X7_length) tb_X7_length (kp_rk (some .int)) J Q 30 2 [some (.int row), some (.int k)] [] σ := h
abbrev iv_X7_length : List Value → Sg → Nat → Nat → Lcl → List Value → Sg → Prop := fun As σ n pc ls st τ => pc = 2 ∧ st = [] ∧ τ = σ ∧ ∃ (r k : Nat), r < 16777216 ∧ As = [.int (nI r)] ∧ ls = [some (.int (nI r)), some (.int (nI k))] ∧ k ≤ 3 ∧ n = 3 - k ∧ (∀ j, j < k → ¬ r / 256 ^ j % 256 = 0)
set_option maxRecDepth 100000 in
set_option maxHeartbeats 4000000 in
theorem c_X7_length : kp_Met layC 1 yX7_length cX7_length 2 (some .int) (pr_X7_length) (po_X7_length) := by
  refine kp_met (N := 30) (by decide) tk_X7_length gk_X7 pk_X7 (mk_X7_length) rfl (iv_X7_length) ?_ ?_
  · rintro As σ ⟨row, rfl, hp⟩
    refine ⟨⟨rfl, Nat.le_of_ble_eq_true rfl⟩, v_X7_length row σ ?_⟩
    obtain ⟨r, rfl, hr⟩ := hp
    exact ⟨3, rfl, rfl, rfl, r, 0, hr, rfl, rfl, by omega, rfl, fun j hj => by omega⟩
  · rintro As σ ⟨row, rfl, hp⟩ n pc ls st τ hI
    obtain ⟨rfl, rfl, rfl, r, k, hr, hAs, rfl, hk, rfl, hj⟩ := hI
    cases hAs
    refine v_X7_length_2 _ _ τ ⟨fun h1 => ⟨rfl, ?_⟩, fun h1 => ⟨⟨_, _, rfl, r, k, rfl, hr, rfl, ?_⟩, ?_⟩⟩
    · rw [nI_ltI (by omega) (by omega)] at h1
      have h3 : k = 3 := by omega
      subst h3
      have a0 := hj 0 (by omega)
      have a1 := hj 1 (by omega)
      have a2 := hj 2 (by omega)
      rw [tn_nI (by omega)]
      unfold rlen
      simp only [Nat.pow_zero, Nat.div_one, Nat.reducePow] at a0 a1 a2
      rw [if_neg a0, if_neg a1, if_neg a2]
    · rw [nI_ltI (by omega) (by omega)] at h1
      omega
    · rw [nI_ltI (by omega) (by omega)] at h1
      rintro x τ1 ⟨rfl, rfl⟩
      rw [tn_nI (by omega), tn_nI (by omega), nI_eq (by omega) (by omega)]
      refine ⟨fun h2 => ⟨rfl, ?_⟩, fun h2 => ⟨3 - (k + 1), by omega, rfl, rfl, rfl, r, k + 1, hr, rfl, by rw [nI_add], by omega, rfl, fun j hj2 => ?_⟩⟩
      · rw [tn_nI (by omega)]
        unfold rlen
        rcases (show k = 0 ∨ k = 1 ∨ k = 2 by omega) with rfl | rfl | rfl
        · simp only [Nat.pow_zero, Nat.div_one] at h2
          rw [if_pos h2]
        · have a0 := hj 0 (by omega)
          simp only [Nat.pow_zero, Nat.div_one, Nat.reducePow] at a0 h2
          rw [if_neg a0, if_pos h2]
        · have a0 := hj 0 (by omega)
          have a1 := hj 1 (by omega)
          simp only [Nat.pow_zero, Nat.div_one, Nat.reducePow] at a0 a1 h2
          rw [if_neg a0, if_neg a1, if_pos h2]
      · by_cases hjk : j = k
        · subst hjk; exact h2
        · exact hj j (by omega)
def pr_X7_beginning : SPre := fun As σ => ∃ row : Int32, ∃ len : Int32, As = [.int row, .int len] ∧ (∃ r k : Nat, row = nI r ∧ r < 16777216 ∧ len = nI k ∧ k ≤ 3)
def po_X7_beginning : SPost := fun As σ r τ => match As with
  | [.int row, .int len] => (τ = σ ∧ r = nI (tn row % 256 ^ tn len))
  | _ => True
def ms_X7_beginning : List Me := []
theorem mk_X7_beginning : ∀ q ∈ ms_X7_beginning, kp_okM layC RX7 0 q := fun _ h => absurd h List.not_mem_nil
set_option maxRecDepth 100000 in
theorem v_X7_beginning {J : Nat → Lcl → List Value → Sg → Prop} {Q : Int32 → Sg → Prop} (row len : Int32) (σ : Sg) (h : Q (row &&& (((nI 1) <<< (((nI 8) * len) &&& 31)) - (nI 1))) σ) : kp_T layC gl_X7 pl_X7 (ms_X7_beginning) tb_X7_beginning (kp_rk (some .int)) J Q 30 tb_X7_beginning (kp_en [.int row, .int len] 2) [] σ := h
set_option maxRecDepth 100000 in
set_option maxHeartbeats 4000000 in
theorem c_X7_beginning : kp_Met layC 0 yX7_beginning cX7_beginning 2 (some .int) (pr_X7_beginning) (po_X7_beginning) := by
  refine kp_met (N := 30) (by decide) tk_X7_beginning gk_X7 pk_X7 (mk_X7_beginning) rfl (fun _ _ _ _ _ _ _ => False) ?_ (fun _ _ _ _ _ _ _ _ h => h.elim)
  rintro As σ ⟨row, len, rfl, hp⟩
  refine ⟨⟨rfl, Nat.le_of_ble_eq_true rfl⟩, v_X7_beginning row len σ ?_⟩
  obtain ⟨r, k, rfl, hr, rfl, hk⟩ := hp
  refine ⟨rfl, ?_⟩
  rw [tn_nI (by omega), tn_nI (by omega)]
  rcases (show k = 0 ∨ k = 1 ∨ k = 2 ∨ k = 3 by omega) with rfl | rfl | rfl | rfl
  · exact pk_andN (by omega) 0 (by decide)
  · exact pk_andN (by omega) 8 (by decide)
  · exact pk_andN (by omega) 16 (by decide)
  · exact pk_andN (by omega) 24 (by decide)
def pr_X7_withoutBeginning : SPre := fun As σ => ∃ row : Int32, ∃ len : Int32, As = [.int row, .int len] ∧ (∃ r k : Nat, row = nI r ∧ r < 16777216 ∧ len = nI k ∧ k ≤ 3)
def po_X7_withoutBeginning : SPost := fun As σ r τ => match As with
  | [.int row, .int len] => (τ = σ ∧ r = nI (tn row / 256 ^ tn len))
  | _ => True
def ms_X7_withoutBeginning : List Me := []
theorem mk_X7_withoutBeginning : ∀ q ∈ ms_X7_withoutBeginning, kp_okM layC RX7 0 q := fun _ h => absurd h List.not_mem_nil
set_option maxRecDepth 100000 in
theorem v_X7_withoutBeginning {J : Nat → Lcl → List Value → Sg → Prop} {Q : Int32 → Sg → Prop} (row len : Int32) (σ : Sg) (h : Q ((Int32.toUInt32 row >>> (Int32.toUInt32 ((nI 8) * len) &&& Int32.toUInt32 31)).toInt32) σ) : kp_T layC gl_X7 pl_X7 (ms_X7_withoutBeginning) tb_X7_withoutBeginning (kp_rk (some .int)) J Q 30 tb_X7_withoutBeginning (kp_en [.int row, .int len] 2) [] σ := h
set_option maxRecDepth 100000 in
set_option maxHeartbeats 4000000 in
theorem c_X7_withoutBeginning : kp_Met layC 0 yX7_withoutBeginning cX7_withoutBeginning 2 (some .int) (pr_X7_withoutBeginning) (po_X7_withoutBeginning) := by
  refine kp_met (N := 30) (by decide) tk_X7_withoutBeginning gk_X7 pk_X7 (mk_X7_withoutBeginning) rfl (fun _ _ _ _ _ _ _ => False) ?_ (fun _ _ _ _ _ _ _ _ h => h.elim)
  rintro As σ ⟨row, len, rfl, hp⟩
  refine ⟨⟨rfl, Nat.le_of_ble_eq_true rfl⟩, v_X7_withoutBeginning row len σ ?_⟩
  obtain ⟨r, k, rfl, hr, rfl, hk⟩ := hp
  refine ⟨rfl, ?_⟩
  rw [tn_nI (by omega), tn_nI (by omega)]
  rcases (show k = 0 ∨ k = 1 ∨ k = 2 ∨ k = 3 by omega) with rfl | rfl | rfl | rfl
  · exact pk_ushrN (by omega) _ 0 (by decide)
  · exact pk_ushrN (by omega) _ 8 (by decide)
  · exact pk_ushrN (by omega) _ 16 (by decide)
  · exact pk_ushrN (by omega) _ 24 (by decide)
theorem nI_or (a b : Nat) (ha : a < 2 ^ 32) (hb : b < 2 ^ 32) : nI a ||| nI b = nI (a ||| b) := by
  apply Int32.toBitVec_inj.mp
  apply BitVec.eq_of_toNat_eq
  have hab : a ||| b < 2 ^ 32 := Nat.or_lt_two_pow ha hb
  rw [Int32.toBitVec_or, BitVec.toNat_or, pk_tn ha, pk_tn hb, pk_tn hab]
theorem nI_orp (a b k : Nat) (ha : a < 2 ^ k) (hk : b * 2 ^ k < 2 ^ 32) (h32 : k ≤ 32) : nI a ||| nI (b * 2 ^ k) = nI (a + b * 2 ^ k) := by
  have h1 : a < 2 ^ 32 := Nat.lt_of_lt_of_le ha (Nat.pow_le_pow_right (by decide) h32)
  rw [nI_or a _ h1 hk, Nat.or_comm, Nat.mul_comm b, ← Nat.two_pow_add_eq_or_of_lt ha, Nat.add_comm]
theorem rlen_cases (r : Nat) (h : r < 256 ^ rlen r) (h2 : r < 65536) : (rlen r = 0 ∧ r = 0) ∨ (rlen r = 1 ∧ r < 256 ∧ r ≠ 0) ∨ (rlen r = 2 ∧ 256 ≤ r ∧ r % 256 ≠ 0) := by
  unfold rlen at h ⊢
  split at h
  · rename_i h0
    rw [if_pos h0]
    left; omega
  · rename_i h0
    rw [if_neg h0]
    split at h
    · rename_i h1
      rw [if_pos h1]
      right; left; omega
    · rename_i h1
      rw [if_neg h1]
      split at h
      · rename_i h3
        rw [if_pos h3]
        right; right; omega
      · rename_i h3
        exact absurd (show r / 65536 % 256 = 0 by omega) h3
def pr_X7_withStroke : SPre := fun As σ => ∃ row : Int32, ∃ stroke : Int32, As = [.int row, .int stroke] ∧ (∃ r s : Nat, row = nI r ∧ r < 65536 ∧ r < 256 ^ rlen r ∧ stroke = nI s ∧ s < 256)
def po_X7_withStroke : SPost := fun As σ r τ => match As with
  | [.int row, .int stroke] => (τ = σ ∧ r = nI (tn row + tn stroke * 256 ^ rlen (tn row)))
  | _ => True
def ms_X7_withStroke : List Me := [(20, 1, 0, 1, true, pr_X7_length, po_X7_length)]
theorem mk_X7_withStroke : ∀ q ∈ ms_X7_withStroke, kp_okM layC RX7 2 q := List.forall_mem_cons.mpr ⟨Or.inl ⟨1, yX7_length, cX7_length, 2, (some .int), c_X7_length, by omega, by decide, rfl, lk_X7_20⟩, fun _ h => absurd h List.not_mem_nil⟩
set_option maxRecDepth 100000 in
theorem v_X7_withStroke {J : Nat → Lcl → List Value → Sg → Prop} {Q : Int32 → Sg → Prop} (row stroke : Int32) (σ : Sg) (h : pr_X7_length [.int row] σ ∧ ∀ (x2 : Int32) (τ1 : Sg), po_X7_length [.int row] σ x2 τ1 → (Q (row ||| (stroke <<< (((nI 8) * x2) &&& 31))) τ1)) : kp_T layC gl_X7 pl_X7 (ms_X7_withStroke) tb_X7_withStroke (kp_rk (some .int)) J Q 30 tb_X7_withStroke (kp_en [.int row, .int stroke] 2) [] σ := h
set_option maxRecDepth 100000 in
set_option maxHeartbeats 4000000 in
theorem c_X7_withStroke : kp_Met layC 2 yX7_withStroke cX7_withStroke 2 (some .int) (pr_X7_withStroke) (po_X7_withStroke) := by
  refine kp_met (N := 30) (by decide) tk_X7_withStroke gk_X7 pk_X7 (mk_X7_withStroke) rfl (fun _ _ _ _ _ _ _ => False) ?_ (fun _ _ _ _ _ _ _ _ h => h.elim)
  rintro As σ ⟨row, stroke, rfl, hp⟩
  refine ⟨⟨rfl, Nat.le_of_ble_eq_true rfl⟩, v_X7_withStroke row stroke σ ?_⟩
  obtain ⟨r, s, rfl, hr, hrl, rfl, hs⟩ := hp
  refine ⟨⟨_, rfl, r, rfl, by omega⟩, ?_⟩
  rintro x τ1 ⟨rfl, rfl⟩
  refine ⟨rfl, ?_⟩
  rw [tn_nI (show r < 2 ^ 31 by omega), tn_nI (show s < 2 ^ 31 by omega)]
  rcases rlen_cases r hrl hr with ⟨e, h⟩ | ⟨e, h⟩ | ⟨e, h⟩
  · rw [e, show nI s <<< (nI 8 * nI 0 &&& 31) = nI (s * 2 ^ 0) from pk_shlN _ 0 (by decide) (by omega)]
    exact nI_orp r s 0 (by omega) (by omega) (by omega)
  · rw [e, show nI s <<< (nI 8 * nI 1 &&& 31) = nI (s * 2 ^ 8) from pk_shlN _ 8 (by decide) (by omega)]
    exact nI_orp r s 8 (by omega) (by omega) (by omega)
  · rw [e, show nI s <<< (nI 8 * nI 2 &&& 31) = nI (s * 2 ^ 16) from pk_shlN _ 16 (by decide) (by omega)]
    exact nI_orp r s 16 (by omega) (by omega) (by omega)
def pr_X7_beginsWith : SPre := fun As σ => ∃ row : Int32, ∃ line : Int32, As = [.int row, .int line] ∧ (∃ r l : Nat, row = nI r ∧ r < 16777216 ∧ line = nI l ∧ l < 16777216)
def po_X7_beginsWith : SPost := fun As σ r τ => match As with
  | [.int row, .int line] => (τ = σ ∧ r = bI (decide (tn row % 256 ^ rlen (tn line) = tn line)))
  | _ => True
def ms_X7_beginsWith : List Me := [(20, 1, 0, 1, true, pr_X7_length, po_X7_length), (24, 1, 0, 2, true, pr_X7_beginning, po_X7_beginning)]
theorem mk_X7_beginsWith : ∀ q ∈ ms_X7_beginsWith, kp_okM layC RX7 2 q := List.forall_mem_cons.mpr ⟨Or.inl ⟨1, yX7_length, cX7_length, 2, (some .int), c_X7_length, by omega, by decide, rfl, lk_X7_20⟩, List.forall_mem_cons.mpr ⟨Or.inl ⟨0, yX7_beginning, cX7_beginning, 2, (some .int), c_X7_beginning, by omega, by decide, rfl, lk_X7_24⟩, fun _ h => absurd h List.not_mem_nil⟩⟩
set_option maxRecDepth 100000 in
theorem v_X7_beginsWith {J : Nat → Lcl → List Value → Sg → Prop} {Q : Int32 → Sg → Prop} (row line : Int32) (σ : Sg) (h : pr_X7_length [.int line] σ ∧ ∀ (x2 : Int32) (τ1 : Sg), po_X7_length [.int line] σ x2 τ1 → (pr_X7_beginning [.int row, .int x2] τ1 ∧ ∀ (x4 : Int32) (τ3 : Sg), po_X7_beginning [.int row, .int x2] τ1 x4 τ3 → ((¬ x4 = line → ((nI 0) = nI 0 ∨ (nI 0) = nI 1) ∧ Q (nI 0) τ3) ∧ (x4 = line → ((nI 1) = nI 0 ∨ (nI 1) = nI 1) ∧ Q (nI 1) τ3)))) : kp_T layC gl_X7 pl_X7 (ms_X7_beginsWith) tb_X7_beginsWith (kp_rk (some .boolean)) J Q 30 tb_X7_beginsWith (kp_en [.int row, .int line] 2) [] σ := h
set_option maxRecDepth 100000 in
set_option maxHeartbeats 4000000 in
theorem c_X7_beginsWith : kp_Met layC 2 yX7_beginsWith cX7_beginsWith 2 (some .boolean) (pr_X7_beginsWith) (po_X7_beginsWith) := by
  refine kp_met (N := 30) (by decide) tk_X7_beginsWith gk_X7 pk_X7 (mk_X7_beginsWith) rfl (fun _ _ _ _ _ _ _ => False) ?_ (fun _ _ _ _ _ _ _ _ h => h.elim)
  rintro As σ ⟨row, line, rfl, hp⟩
  refine ⟨⟨rfl, Nat.le_of_ble_eq_true rfl⟩, v_X7_beginsWith row line σ ?_⟩
  obtain ⟨r, l, rfl, hr, rfl, hl⟩ := hp
  refine ⟨⟨_, rfl, l, rfl, hl⟩, ?_⟩
  rintro x τ1 ⟨rfl, rfl⟩
  rw [tn_nI (show l < 2 ^ 31 by omega)]
  refine ⟨⟨_, _, rfl, r, rlen l, rfl, hr, rfl, rlen_le l⟩, ?_⟩
  rintro x τ2 ⟨rfl, rfl⟩
  rw [tn_nI (show r < 2 ^ 31 by omega), tn_nI (show rlen l < 2 ^ 31 by have := rlen_le l; omega)]
  have hlt : r % 256 ^ rlen l < 2 ^ 31 := Nat.lt_of_le_of_lt (Nat.mod_le _ _) (by omega)
  refine ⟨fun h1 => ⟨Or.inl rfl, rfl, ?_⟩, fun h1 => ⟨Or.inr rfl, rfl, ?_⟩⟩
  · rw [nI_eq hlt (by omega)] at h1
    rw [tn_nI (show l < 2 ^ 31 by omega), tn_nI (show r < 2 ^ 31 by omega), decide_eq_false h1]
    rfl
  · rw [nI_eq hlt (by omega)] at h1
    rw [tn_nI (show l < 2 ^ 31 by omega), tn_nI (show r < 2 ^ 31 by omega), decide_eq_true h1]
    rfl
theorem isRw_nI {r : Nat} (h : 1 ≤ r) (h2 : r < 2 ^ 31) : isRw (nI r) = rowOK r := by
  unfold isRw
  rw [tn_nI h2, decide_eq_false (by rw [nI_ltI h2 (by omega)]; omega)]
  rfl
theorem isSt_nI {s : Nat} (h2 : s < 2 ^ 31) : isSt (nI s) = decide (1 ≤ s ∧ s ≤ 240) := by
  unfold isSt
  rw [Bool.eq_iff_iff]
  simp only [Bool.and_eq_true, Bool.not_eq_true', decide_eq_false_iff_not, decide_eq_true_eq]
  rw [nI_ltI h2 (by omega), nI_ltI (by omega) h2]
  omega
theorem isRw_big {x : Int32} (h : nI 16777215 < x) : isRw x = false := by
  have h0 : ¬ x < nI 0 := by rw [lt_I, nI_toInt (by omega)] at h ⊢; omega
  rw [← nI_tn h0, nI_ltI (by omega) (tn_lt x)] at h
  unfold isRw
  rw [show rowOK (tn x) = false from decide_eq_false (by omega)]
  cases (!decide (x < nI 1)) <;> rfl
theorem isRw_spec {x : Int32} (h : isRw x = true) : ∃ r : Nat, x = nI r ∧ rowOK r = true := by
  unfold isRw at h
  obtain ⟨h1, h2⟩ := kp_and2 h
  have h3 : ¬ x < nI 1 := by simpa using h1
  refine ⟨tn x, (nI_tn ?_).symm, h2⟩
  rw [lt_I, nI_toInt (by omega)] at h3 ⊢
  omega
def pr_X7_isRow : SPre := fun As σ => ∃ row : Int32, As = [.int row] ∧ (True)
def po_X7_isRow : SPost := fun As σ r τ => match As with
  | [.int row] => (τ = σ ∧ r = bI (isRw row))
  | _ => True
def ms_X7_isRow : List Me := [(10, 1, 0, 2, true, pr_X7_strokeAt, po_X7_strokeAt), (16, 1, 0, 1, true, pr_X7_isStroke, po_X7_isStroke)]
theorem mk_X7_isRow : ∀ q ∈ ms_X7_isRow, kp_okM layC RX7 1 q := List.forall_mem_cons.mpr ⟨Or.inl ⟨0, yX7_strokeAt, cX7_strokeAt, 2, (some .int), c_X7_strokeAt, by omega, by decide, rfl, lk_X7_10⟩, List.forall_mem_cons.mpr ⟨Or.inl ⟨0, yX7_isStroke, cX7_isStroke, 1, (some .boolean), c_X7_isStroke, by omega, by decide, rfl, lk_X7_16⟩, fun _ h => absurd h List.not_mem_nil⟩⟩
set_option maxRecDepth 100000 in
theorem v_X7_isRow {J : Nat → Lcl → List Value → Sg → Prop} {Q : Int32 → Sg → Prop} (row : Int32) (σ : Sg) (h : (row < (nI 1) → ((nI 0) = nI 0 ∨ (nI 0) = nI 1) ∧ Q (nI 0) σ) ∧ (¬ row < (nI 1) → (¬ (nI 16777215) < row → pr_X7_strokeAt [.int row, .int (nI 1)] σ ∧ ∀ (x2 : Int32) (τ1 : Sg), po_X7_strokeAt [.int row, .int (nI 1)] σ x2 τ1 → (pr_X7_strokeAt [.int row, .int (nI 2)] τ1 ∧ ∀ (x4 : Int32) (τ3 : Sg), po_X7_strokeAt [.int row, .int (nI 2)] τ1 x4 τ3 → ((¬ x2 = (nI 0) → pr_X7_strokeAt [.int row, .int (nI 0)] τ3 ∧ ∀ (x6 : Int32) (τ5 : Sg), po_X7_strokeAt [.int row, .int (nI 0)] τ3 x6 τ5 → (pr_X7_isStroke [.int x6] τ5 ∧ ∀ (x8 : Int32) (τ7 : Sg), po_X7_isStroke [.int x6] τ5 x8 τ7 → ((x8 = (nI 0) → ((nI 0) = nI 0 ∨ (nI 0) = nI 1) ∧ Q (nI 0) τ7) ∧ (¬ x8 = (nI 0) → ((nI 240) < x2 → ((nI 0) = nI 0 ∨ (nI 0) = nI 1) ∧ Q (nI 0) τ7) ∧ (¬ (nI 240) < x2 → ((nI 240) < x4 → ((nI 0) = nI 0 ∨ (nI 0) = nI 1) ∧ Q (nI 0) τ7) ∧ (¬ (nI 240) < x4 → ((nI 1) = (nI 0) → ((nI 0) = nI 0 ∨ (nI 0) = nI 1) ∧ Q (nI 0) τ7) ∧ (¬ (nI 1) = (nI 0) → ((nI 1) = nI 0 ∨ (nI 1) = nI 1) ∧ Q (nI 1) τ7))))))) ∧ (x2 = (nI 0) → (¬ x4 = (nI 0) → pr_X7_strokeAt [.int row, .int (nI 0)] τ3 ∧ ∀ (x10 : Int32) (τ9 : Sg), po_X7_strokeAt [.int row, .int (nI 0)] τ3 x10 τ9 → (pr_X7_isStroke [.int x10] τ9 ∧ ∀ (x12 : Int32) (τ11 : Sg), po_X7_isStroke [.int x10] τ9 x12 τ11 → ((x12 = (nI 0) → ((nI 0) = nI 0 ∨ (nI 0) = nI 1) ∧ Q (nI 0) τ11) ∧ (¬ x12 = (nI 0) → ((nI 240) < x2 → ((nI 0) = nI 0 ∨ (nI 0) = nI 1) ∧ Q (nI 0) τ11) ∧ (¬ (nI 240) < x2 → ((nI 240) < x4 → ((nI 0) = nI 0 ∨ (nI 0) = nI 1) ∧ Q (nI 0) τ11) ∧ (¬ (nI 240) < x4 → ((nI 0) = (nI 0) → ((nI 0) = nI 0 ∨ (nI 0) = nI 1) ∧ Q (nI 0) τ11) ∧ (¬ (nI 0) = (nI 0) → ((nI 1) = nI 0 ∨ (nI 1) = nI 1) ∧ Q (nI 1) τ11))))))) ∧ (x4 = (nI 0) → pr_X7_strokeAt [.int row, .int (nI 0)] τ3 ∧ ∀ (x14 : Int32) (τ13 : Sg), po_X7_strokeAt [.int row, .int (nI 0)] τ3 x14 τ13 → (pr_X7_isStroke [.int x14] τ13 ∧ ∀ (x16 : Int32) (τ15 : Sg), po_X7_isStroke [.int x14] τ13 x16 τ15 → ((x16 = (nI 0) → ((nI 0) = nI 0 ∨ (nI 0) = nI 1) ∧ Q (nI 0) τ15) ∧ (¬ x16 = (nI 0) → ((nI 240) < x2 → ((nI 0) = nI 0 ∨ (nI 0) = nI 1) ∧ Q (nI 0) τ15) ∧ (¬ (nI 240) < x2 → ((nI 240) < x4 → ((nI 0) = nI 0 ∨ (nI 0) = nI 1) ∧ Q (nI 0) τ15) ∧ (¬ (nI 240) < x4 → ((nI 1) = (nI 0) → ((nI 0) = nI 0 ∨ (nI 0) = nI 1) ∧ Q (nI 0) τ15) ∧ (¬ (nI 1) = (nI 0) → ((nI 1) = nI 0 ∨ (nI 1) = nI 1) ∧ Q (nI 1) τ15))))))))))) ∧ ((nI 16777215) < row → ((nI 0) = nI 0 ∨ (nI 0) = nI 1) ∧ Q (nI 0) σ))) : kp_T layC gl_X7 pl_X7 (ms_X7_isRow) tb_X7_isRow (kp_rk (some .boolean)) J Q 46 tb_X7_isRow (kp_en [.int row] 4) [] σ := h
set_option maxRecDepth 100000 in
set_option maxHeartbeats 4000000 in
theorem c_X7_isRow : kp_Met layC 1 yX7_isRow cX7_isRow 4 (some .boolean) (pr_X7_isRow) (po_X7_isRow) := by
  refine kp_met (N := 46) (by decide) tk_X7_isRow gk_X7 pk_X7 (mk_X7_isRow) rfl (fun _ _ _ _ _ _ _ => False) ?_ (fun _ _ _ _ _ _ _ _ h => h.elim)
  rintro As σ ⟨row, rfl, hp⟩
  refine ⟨⟨rfl, Nat.le_of_ble_eq_true rfl⟩, v_X7_isRow row σ ?_⟩
  refine ⟨fun h1 => ⟨Or.inl rfl, rfl, ?_⟩, fun h1 => ⟨fun h2 => ?_, fun h2 => ⟨Or.inl rfl, rfl, ?_⟩⟩⟩
  · unfold isRw
    rw [decide_eq_true h1]
    rfl
  · have h0 : ¬ row < nI 0 := by rw [lt_I, nI_toInt (by omega)] at h1 ⊢; omega
    obtain ⟨r, hr, rfl⟩ := nI_of (show ¬ row < 0 from h0)
    rw [nI_ltI hr (by omega)] at h1
    rw [nI_ltI (by omega) hr] at h2
    refine ⟨⟨_, _, rfl, r, 1, rfl, by omega, rfl, by omega⟩, ?_⟩
    rintro x2 τ1 ⟨rfl, rfl⟩
    refine ⟨⟨_, _, rfl, r, 2, rfl, by omega, rfl, by omega⟩, ?_⟩
    rintro x4 τ3 ⟨rfl, rfl⟩
    have e0 : tn (nI r) / 256 ^ tn (nI 0) % 256 = r % 256 := by rw [tn_nI hr, tn_nI (by omega)]; simp
    have e1 : tn (nI r) / 256 ^ tn (nI 1) % 256 = r / 256 % 256 := by rw [tn_nI hr, tn_nI (by omega)]
    have e2 : tn (nI r) / 256 ^ tn (nI 2) % 256 = r / 65536 % 256 := by rw [tn_nI hr, tn_nI (by omega)]
    rw [e1, e2]
    have hfin : ∀ τ' : Sg, τ' = τ3 → (rowOK r = false → τ' = τ3 ∧ nI 0 = bI (isRw (nI r))) ∧ (rowOK r = true → τ' = τ3 ∧ nI 1 = bI (isRw (nI r))) := fun τ' e => by
      rw [isRw_nI (by omega) hr]
      exact ⟨fun h => ⟨e, by rw [h]; rfl⟩, fun h => ⟨e, by rw [h]; rfl⟩⟩
    have hall : ∀ (g : Int32), (g = nI 1 ∧ ¬ (r / 256 % 256 = 0 ∧ ¬ r / 65536 % 256 = 0)) ∨ (g = nI 0 ∧ (r / 256 % 256 = 0 ∧ ¬ r / 65536 % 256 = 0)) → pr_X7_strokeAt [.int (nI r), .int (nI 0)] τ3 ∧ ∀ (x6 : Int32) (τ5 : Sg), po_X7_strokeAt [.int (nI r), .int (nI 0)] τ3 x6 τ5 → (pr_X7_isStroke [.int x6] τ5 ∧ ∀ (x8 : Int32) (τ7 : Sg), po_X7_isStroke [.int x6] τ5 x8 τ7 →
        ((x8 = (nI 0) → ((nI 0) = nI 0 ∨ (nI 0) = nI 1) ∧ po_X7_isRow [.int (nI r)] τ3 (nI 0) τ7) ∧ (¬ x8 = (nI 0) → ((nI 240) < nI (r / 256 % 256) → ((nI 0) = nI 0 ∨ (nI 0) = nI 1) ∧ po_X7_isRow [.int (nI r)] τ3 (nI 0) τ7) ∧ (¬ (nI 240) < nI (r / 256 % 256) → ((nI 240) < nI (r / 65536 % 256) → ((nI 0) = nI 0 ∨ (nI 0) = nI 1) ∧ po_X7_isRow [.int (nI r)] τ3 (nI 0) τ7) ∧ (¬ (nI 240) < nI (r / 65536 % 256) → (g = (nI 0) → ((nI 0) = nI 0 ∨ (nI 0) = nI 1) ∧ po_X7_isRow [.int (nI r)] τ3 (nI 0) τ7) ∧ (¬ g = (nI 0) → ((nI 1) = nI 0 ∨ (nI 1) = nI 1) ∧ po_X7_isRow [.int (nI r)] τ3 (nI 1) τ7)))))) := by
      intro g hg
      refine ⟨⟨_, _, rfl, r, 0, rfl, by omega, rfl, by omega⟩, ?_⟩
      rintro x6 τ5 ⟨rfl, rfl⟩
      rw [e0]
      refine ⟨⟨_, rfl, trivial⟩, ?_⟩
      rintro x8 τ7 ⟨rfl, rfl⟩
      rw [isSt_nI (by omega), bI_0, nI_ltI (by omega) (by omega), nI_ltI (by omega) (by omega)]
      refine ⟨fun h3 => ⟨Or.inl rfl, (hfin _ rfl).1 (decide_eq_false ?_)⟩, fun h3 => ⟨fun h4 => ⟨Or.inl rfl, (hfin _ rfl).1 (decide_eq_false ?_)⟩, fun h4 => ⟨fun h5 => ⟨Or.inl rfl, (hfin _ rfl).1 (decide_eq_false ?_)⟩, fun h5 => ⟨fun h6 => ⟨Or.inl rfl, (hfin _ rfl).1 (decide_eq_false ?_)⟩, fun h6 => ⟨Or.inr rfl, (hfin _ rfl).2 (decide_eq_true ?_)⟩⟩⟩⟩⟩
      · have := of_decide_eq_false h3
        omega
      · omega
      · omega
      · rcases hg with ⟨hg, hg2⟩ | ⟨hg, hg2⟩
        · rw [hg] at h6; exact absurd h6 (by decide)
        · omega
      · rw [Bool.not_eq_false] at h3
        have := of_decide_eq_true h3
        rcases hg with ⟨hg, hg2⟩ | ⟨hg, hg2⟩
        · omega
        · exact absurd hg h6
    have k1 := nI_eq (a := r / 256 % 256) (b := 0) (by omega) (by omega)
    have k2 := nI_eq (a := r / 65536 % 256) (b := 0) (by omega) (by omega)
    exact ⟨fun h3 => hall (nI 1) (Or.inl ⟨rfl, fun q => h3 (k1.mpr q.1)⟩), fun h3 => ⟨fun h4 => hall (nI 0) (Or.inr ⟨rfl, k1.mp h3, fun q => h4 (k2.mpr q)⟩), fun h4 => hall (nI 1) (Or.inl ⟨rfl, fun q => q.2 (k2.mp h4)⟩)⟩⟩
  · rw [isRw_big h2]
    rfl
end
section
/-! contexts: KeyPlan$Contexts -/
def isCx (nn x : Int32) : Bool := !decide (x < nI 0) && decide (x < nn)
def ctxOK (o : Nat → Int32) (nn : Int32) : Prop := ∃ n : Nat, nn = nI n ∧ 1 ≤ n ∧ n ≤ 12 ∧ o 0 = -1 ∧ ∀ c, 0 < c → c < n → ∃ p, p < c ∧ o c = nI p
/-- c is d or stands in it -/
def wthn (o : Nat → Int32) : Nat → Nat → Nat → Bool
  | 0, _, _ => false
  | f + 1, c, d => if c = d then true else if o c = -1 then false else wthn o f (tn (o c)) d
theorem wthn_s (o : Nat → Int32) (f c d : Nat) : wthn o (f + 1) c d = if c = d then true else if o c = -1 then false else wthn o f (tn (o c)) d := rfl
theorem nI_m1 {a : Nat} (h : a < 2 ^ 31) : ¬ nI a = -1 := by
  rw [eq_I, nI_toInt h]
  have : (-1 : Int32).toInt = -1 := by decide
  rw [this]; omega
theorem isCx_iff {n : Nat} {x : Int32} (hn : n < 2 ^ 31) : isCx (nI n) x = true ↔ ∃ c, c < n ∧ x = nI c := by
  unfold isCx
  constructor
  · intro h
    obtain ⟨h1, h2⟩ := kp_and2 h
    have h3 : ¬ x < nI 0 := by simpa using h1
    obtain ⟨c, hc, rfl⟩ := nI_of (show ¬ x < 0 from h3)
    have h4 := of_decide_eq_true h2
    rw [nI_ltI hc hn] at h4
    exact ⟨c, h4, rfl⟩
  · rintro ⟨c, hc, rfl⟩
    rw [decide_eq_false (by rw [nI_ltI (by omega) (by omega)]; omega), decide_eq_true (by rw [nI_ltI (by omega) hn]; exact hc)]
    rfl
def pr_X2_hold : SPre := fun As σ => ∃ x : Int32, As = [.ref 2, .int x] ∧ (True)
def po_X2_hold : SPost := fun As σ r τ => match As with
  | [.ref _, .int x] => (τ = σ ∧ r = bI (isCx (σ 2 1) x))
  | _ => True
def ms_X2_hold : List Me := []
theorem mk_X2_hold : ∀ q ∈ ms_X2_hold, kp_okM layC RX2 0 q := fun _ h => absurd h List.not_mem_nil
set_option maxRecDepth 100000 in
theorem v_X2_hold {J : Nat → Lcl → List Value → Sg → Prop} {Q : Int32 → Sg → Prop} (x : Int32) (σ : Sg) (h : (x < (nI 0) → ((nI 0) = nI 0 ∨ (nI 0) = nI 1) ∧ Q (nI 0) σ) ∧ (¬ x < (nI 0) → (¬ x < (σ 2 1) → ((nI 0) = nI 0 ∨ (nI 0) = nI 1) ∧ Q (nI 0) σ) ∧ (x < (σ 2 1) → ((nI 1) = nI 0 ∨ (nI 1) = nI 1) ∧ Q (nI 1) σ))) : kp_T layC gl_X2 pl_X2 (ms_X2_hold) tb_X2_hold (kp_rk (some .boolean)) J Q 30 tb_X2_hold (kp_en [.ref 2, .int x] 2) [] σ := h
set_option maxRecDepth 100000 in
set_option maxHeartbeats 4000000 in
theorem c_X2_hold : kp_Met layC 0 yX2_hold cX2_hold 2 (some .boolean) (pr_X2_hold) (po_X2_hold) := by
  refine kp_met (N := 30) (by decide) tk_X2_hold gk_X2 pk_X2 (mk_X2_hold) rfl (fun _ _ _ _ _ _ _ => False) ?_ (fun _ _ _ _ _ _ _ _ h => h.elim)
  rintro As σ ⟨x, rfl, hp⟩
  refine ⟨⟨rfl, Nat.le_of_ble_eq_true rfl⟩, v_X2_hold x σ ?_⟩
  refine ⟨fun h1 => ⟨Or.inl rfl, rfl, ?_⟩, fun h1 => ⟨fun h2 => ⟨Or.inl rfl, rfl, ?_⟩, fun h2 => ⟨Or.inr rfl, rfl, ?_⟩⟩⟩
  · unfold isCx; rw [decide_eq_true h1]; rfl
  · unfold isCx; rw [decide_eq_false h1, decide_eq_false h2]; rfl
  · unfold isCx; rw [decide_eq_false h1, decide_eq_true h2]; rfl
def pr_X2_add : SPre := fun As σ => ∃ x : Int32, As = [.ref 2, .int x] ∧ (ctxOK (σ 3) (σ 2 1))
def po_X2_add : SPost := fun As σ r τ => match As with
  | [.ref _, .int x] => ((isCx (σ 2 1) x = true ∧ σ 2 1 < nI 12 → τ = kp_up (kp_up σ 3 (tn (σ 2 1)) x) 2 1 (σ 2 1 + nI 1) ∧ r = σ 2 1) ∧ (¬ (isCx (σ 2 1) x = true ∧ σ 2 1 < nI 12) → τ = σ ∧ r = -1))
  | _ => True
def ms_X2_add : List Me := [(19, 0, 2, 1, true, pr_X2_hold, po_X2_hold)]
theorem mk_X2_add : ∀ q ∈ ms_X2_add, kp_okM layC RX2 1 q := List.forall_mem_cons.mpr ⟨Or.inl ⟨0, yX2_hold, cX2_hold, 2, (some .boolean), c_X2_hold, by omega, by decide, rfl, lk_X2_19⟩, fun _ h => absurd h List.not_mem_nil⟩
set_option maxRecDepth 100000 in
theorem v_X2_add {J : Nat → Lcl → List Value → Sg → Prop} {Q : Int32 → Sg → Prop} (x : Int32) (σ : Sg) (h : pr_X2_hold [.ref 2, .int x] σ ∧ ∀ (x2 : Int32) (τ1 : Sg), po_X2_hold [.ref 2, .int x] σ x2 τ1 → ((x2 = (nI 0) → Q (-1) τ1) ∧ (¬ x2 = (nI 0) → ((τ1 2 1) < (nI 12) → vp_in (τ1 2 1) 12 ∧ (Q (((kp_up (kp_up τ1 3 (τ1 2 1).toNatClampNeg x) 2 1 (((kp_up τ1 3 (τ1 2 1).toNatClampNeg x) 2 1) + (nI 1))) 2 1) - (nI 1)) (kp_up (kp_up τ1 3 (τ1 2 1).toNatClampNeg x) 2 1 (((kp_up τ1 3 (τ1 2 1).toNatClampNeg x) 2 1) + (nI 1))))) ∧ (¬ (τ1 2 1) < (nI 12) → Q (-1) τ1)))) : kp_T layC gl_X2 pl_X2 (ms_X2_add) tb_X2_add (kp_rk (some .int)) J Q 32 tb_X2_add (kp_en [.ref 2, .int x] 2) [] σ := h
set_option maxRecDepth 100000 in
set_option maxHeartbeats 4000000 in
theorem c_X2_add : kp_Met layC 1 yX2_add cX2_add 2 (some .int) (pr_X2_add) (po_X2_add) := by
  refine kp_met (N := 32) (by decide) tk_X2_add gk_X2 pk_X2 (mk_X2_add) rfl (fun _ _ _ _ _ _ _ => False) ?_ (fun _ _ _ _ _ _ _ _ h => h.elim)
  rintro As σ ⟨x, rfl, hp⟩
  refine ⟨⟨rfl, Nat.le_of_ble_eq_true rfl⟩, v_X2_add x σ ?_⟩
  obtain ⟨n, hn, h1, h2, h3, h4⟩ := hp
  refine ⟨⟨_, rfl, trivial⟩, ?_⟩
  rintro x2 τ1 ⟨rfl, rfl⟩
  rw [bI_0]
  refine ⟨fun h5 => ⟨fun h => ?_, fun _ => ⟨rfl, rfl⟩⟩, fun h5 => ⟨fun h6 => ⟨?_, ⟨fun _ => ⟨?_, ?_⟩, fun h => ?_⟩⟩, fun h6 => ⟨fun h => absurd h.2 h6, fun _ => ⟨rfl, rfl⟩⟩⟩⟩
  · rw [h5] at h; cases h.1
  · rw [hn, nI_ltI (by omega) (by omega)] at h6
    rw [hn, kp_in (by omega)]; exact h6
  · rw [up_c (show (2 : Nat) ≠ 3 by decide)]; rfl
  · rw [up_s, up_c (show (2 : Nat) ≠ 3 by decide), hn, nI_add, pk_sub (by omega)]; rfl
  · exact absurd ⟨by simpa using h5, h6⟩ h
def pr_X2_outsideOf : SPre := fun As σ => ∃ x : Int32, As = [.ref 2, .int x] ∧ (ctxOK (σ 3) (σ 2 1))
def po_X2_outsideOf : SPost := fun As σ r τ => match As with
  | [.ref _, .int x] => (τ = σ ∧ r = (if isCx (σ 2 1) x = true then σ 3 (tn x) else -1))
  | _ => True
def ms_X2_outsideOf : List Me := [(19, 0, 2, 1, true, pr_X2_hold, po_X2_hold)]
theorem mk_X2_outsideOf : ∀ q ∈ ms_X2_outsideOf, kp_okM layC RX2 1 q := List.forall_mem_cons.mpr ⟨Or.inl ⟨0, yX2_hold, cX2_hold, 2, (some .boolean), c_X2_hold, by omega, by decide, rfl, lk_X2_19⟩, fun _ h => absurd h List.not_mem_nil⟩
set_option maxRecDepth 100000 in
theorem v_X2_outsideOf {J : Nat → Lcl → List Value → Sg → Prop} {Q : Int32 → Sg → Prop} (x : Int32) (σ : Sg) (h : pr_X2_hold [.ref 2, .int x] σ ∧ ∀ (x2 : Int32) (τ1 : Sg), po_X2_hold [.ref 2, .int x] σ x2 τ1 → ((x2 = (nI 0) → Q (-1) τ1) ∧ (¬ x2 = (nI 0) → vp_in x 12 ∧ (Q (τ1 3 (x).toNatClampNeg) τ1)))) : kp_T layC gl_X2 pl_X2 (ms_X2_outsideOf) tb_X2_outsideOf (kp_rk (some .int)) J Q 30 tb_X2_outsideOf (kp_en [.ref 2, .int x] 2) [] σ := h
set_option maxRecDepth 100000 in
set_option maxHeartbeats 4000000 in
theorem c_X2_outsideOf : kp_Met layC 1 yX2_outsideOf cX2_outsideOf 2 (some .int) (pr_X2_outsideOf) (po_X2_outsideOf) := by
  refine kp_met (N := 30) (by decide) tk_X2_outsideOf gk_X2 pk_X2 (mk_X2_outsideOf) rfl (fun _ _ _ _ _ _ _ => False) ?_ (fun _ _ _ _ _ _ _ _ h => h.elim)
  rintro As σ ⟨x, rfl, hp⟩
  refine ⟨⟨rfl, Nat.le_of_ble_eq_true rfl⟩, v_X2_outsideOf x σ ?_⟩
  obtain ⟨n, hn, h1, h2, h3, h4⟩ := hp
  refine ⟨⟨_, rfl, trivial⟩, ?_⟩
  rintro x2 τ1 ⟨rfl, rfl⟩
  rw [bI_0]
  refine ⟨fun h5 => ⟨rfl, by rw [if_neg (by rw [h5]; decide)]⟩, fun h5 => ?_⟩
  have h5 : isCx (τ1 2 1) x = true := by simpa using h5
  refine ⟨?_, rfl, by rw [if_pos h5]; rfl⟩
  rw [hn, isCx_iff (by omega)] at h5
  obtain ⟨c, hc, rfl⟩ := h5
  rw [kp_in (by omega)]; omega
theorem wthn_fuel {o : Nat → Int32} {nn : Int32} (h : ctxOK o nn) : ∀ (f g c d : Nat), c < tn nn → c < f → c < g → wthn o f c d = wthn o g c d
  | 0, _, _, _, _, h1, _ => absurd h1 (Nat.not_lt_zero _)
  | _, 0, _, _, _, _, h1 => absurd h1 (Nat.not_lt_zero _)
  | f + 1, g + 1, c, d, hc, h1, h2 => by
    obtain ⟨n, rfl, hn1, hn2, h3, h4⟩ := id h
    rw [tn_nI (by omega)] at hc
    unfold wthn
    by_cases hcd : c = d
    · rw [if_pos hcd, if_pos hcd]
    · rw [if_neg hcd, if_neg hcd]
      by_cases h0 : c = 0
      · subst h0; rw [h3, if_pos rfl, if_pos rfl]
      · obtain ⟨p, hp, he⟩ := h4 c (by omega) hc
        rw [he, tn_nI (by omega), wthn_fuel h f g p d (by rw [tn_nI (by omega)]; omega) (by omega) (by omega)]
def pr_X2_isWithin : SPre := fun As σ => ∃ inner : Int32, ∃ outer : Int32, As = [.ref 2, .int inner, .int outer] ∧ (ctxOK (σ 3) (σ 2 1) ∧ ∃ c d : Nat, inner = nI c ∧ outer = nI d ∧ c < tn (σ 2 1) ∧ d < tn (σ 2 1))
def po_X2_isWithin : SPost := fun As σ r τ => match As with
  | [.ref _, .int inner, .int outer] => (τ = σ ∧ r = bI (wthn (σ 3) 12 (tn inner) (tn outer)))
  | _ => True
def ms_X2_isWithin : List Me := [(27, 0, 2, 1, true, pr_X2_outsideOf, po_X2_outsideOf)]
theorem mk_X2_isWithin : ∀ q ∈ ms_X2_isWithin, kp_okM layC RX2 2 q := List.forall_mem_cons.mpr ⟨Or.inl ⟨1, yX2_outsideOf, cX2_outsideOf, 2, (some .int), c_X2_outsideOf, by omega, by decide, rfl, lk_X2_27⟩, fun _ h => absurd h List.not_mem_nil⟩
set_option maxRecDepth 100000 in
theorem v_X2_isWithin {J : Nat → Lcl → List Value → Sg → Prop} {Q : Int32 → Sg → Prop} (inner outer : Int32) (σ : Sg) (h : J 5 [some (.ref 2), some (.int inner), some (.int outer), some (.int inner), some (.int (nI 0))] [] σ) : kp_T layC gl_X2 pl_X2 (ms_X2_isWithin) tb_X2_isWithin (kp_rk (some .boolean)) J Q 30 tb_X2_isWithin (kp_en [.ref 2, .int inner, .int outer] 5) [] σ := h
set_option maxRecDepth 100000 in
theorem v_X2_isWithin_5 {J : Nat → Lcl → List Value → Sg → Prop} {Q : Int32 → Sg → Prop} (inner outer a1 steps : Int32) (σ : Sg) (h : (¬ steps < (nI 12) → ((nI 0) = nI 0 ∨ (nI 0) = nI 1) ∧ Q (nI 0) σ) ∧ (steps < (nI 12) → (a1 = (-1) → ((nI 0) = nI 0 ∨ (nI 0) = nI 1) ∧ Q (nI 0) σ) ∧ (¬ a1 = (-1) → (¬ a1 = outer → pr_X2_outsideOf [.ref 2, .int a1] σ ∧ ∀ (x2 : Int32) (τ1 : Sg), po_X2_outsideOf [.ref 2, .int a1] σ x2 τ1 → (J 5 [some (.ref 2), some (.int inner), some (.int outer), some (.int x2), some (.int (steps + nI 1))] [] τ1)) ∧ (a1 = outer → ((nI 1) = nI 0 ∨ (nI 1) = nI 1) ∧ Q (nI 1) σ)))) : kp_T1 layC gl_X2 pl_X2 (ms_X2_isWithin) tb_X2_isWithin (kp_rk (some .boolean)) J Q 30 5 [some (.ref 2), some (.int inner), some (.int outer), some (.int a1), some (.int steps)] [] σ := h
abbrev iv_X2_isWithin : List Value → Sg → Nat → Nat → Lcl → List Value → Sg → Prop := fun As σ n pc ls st τ => pc = 5 ∧ st = [] ∧ τ = σ ∧ ∃ (c0 d sp : Nat) (a1 : Int32), As = [.ref 2, .int (nI c0), .int (nI d)] ∧ ls = [some (.ref 2), some (.int (nI c0)), some (.int (nI d)), some (.int a1), some (.int (nI sp))] ∧ sp ≤ 12 ∧ n = 12 - sp ∧ ctxOK (σ 3) (σ 2 1) ∧ c0 < 2 ^ 31 ∧ d < 2 ^ 31 ∧ ((a1 = -1 ∧ wthn (σ 3) 12 c0 d = false) ∨ ∃ c, a1 = nI c ∧ c < tn (σ 2 1) ∧ wthn (σ 3) 12 c0 d = wthn (σ 3) (12 - sp) c d)
set_option maxRecDepth 100000 in
set_option maxHeartbeats 4000000 in
theorem c_X2_isWithin : kp_Met layC 2 yX2_isWithin cX2_isWithin 5 (some .boolean) (pr_X2_isWithin) (po_X2_isWithin) := by
  refine kp_met (N := 30) (by decide) tk_X2_isWithin gk_X2 pk_X2 (mk_X2_isWithin) rfl (iv_X2_isWithin) ?_ ?_
  · rintro As σ ⟨inner, outer, rfl, hp⟩
    refine ⟨⟨rfl, Nat.le_of_ble_eq_true rfl⟩, v_X2_isWithin inner outer σ ?_⟩
    obtain ⟨hc, c, d, rfl, rfl, h1, h2⟩ := hp
    have := tn_lt (σ 2 1)
    exact ⟨12, rfl, rfl, rfl, c, d, 0, nI c, rfl, rfl, by omega, rfl, hc, by omega, by omega, Or.inr ⟨c, rfl, h1, rfl⟩⟩
  · rintro As σ ⟨inner, outer, rfl, hp⟩ n pc ls st τ hI
    obtain ⟨rfl, rfl, rfl, c0, d, sp, a1, hAs, rfl, hsp, rfl, hc, hc0, hd, hw⟩ := hI
    cases hAs
    obtain ⟨nn, hn, hn1, hn2, h3, h4⟩ := id hc
    have htn : tn (τ 2 1) = nn := by rw [hn, tn_nI (by omega)]
    rw [htn] at hw
    refine v_X2_isWithin_5 _ _ _ _ τ ⟨fun h1 => ⟨Or.inl rfl, rfl, ?_⟩, fun h1 => ⟨fun h2 => ⟨Or.inl rfl, rfl, ?_⟩, fun h2 => ⟨fun h5 => ?_, fun h5 => ⟨Or.inr rfl, rfl, ?_⟩⟩⟩⟩
    · rw [nI_ltI (by omega) (by omega)] at h1
      rw [tn_nI hc0, tn_nI hd]
      rcases hw with ⟨-, hw⟩ | ⟨c, -, -, hw⟩
      · rw [hw]; rfl
      · rw [hw, show 12 - sp = 0 by omega]; rfl
    · rw [tn_nI hc0, tn_nI hd]
      rcases hw with ⟨-, hw⟩ | ⟨c, rfl, hlt, hw⟩
      · rw [hw]; rfl
      · exact absurd h2 (nI_m1 (by omega))
    · rw [nI_ltI (by omega) (by omega)] at h1
      rcases hw with ⟨e, -⟩ | ⟨c, rfl, hlt, hw⟩
      · exact absurd e h2
      · rw [nI_eq (by omega) hd] at h5
        refine ⟨⟨_, rfl, hc⟩, ?_⟩
        rintro x2 τ1 ⟨rfl, rfl⟩
        rw [if_pos (by rw [hn, isCx_iff (by omega)]; exact ⟨c, hlt, rfl⟩), tn_nI (by omega)]
        refine ⟨12 - (sp + 1), by omega, rfl, rfl, rfl, c0, d, sp + 1, _, rfl, by rw [nI_add], by omega, rfl, hc, hc0, hd, ?_⟩
        rw [htn]
        rw [show 12 - sp = (12 - (sp + 1)) + 1 by omega, wthn_s _ (12 - (sp + 1)) c d, if_neg h5] at hw
        by_cases h0 : c = 0
        · subst h0
          rw [h3, if_pos rfl] at hw
          exact Or.inl ⟨h3, hw⟩
        · obtain ⟨p, hp, he⟩ := h4 c (by omega) hlt
          rw [he, if_neg (nI_m1 (by omega)), tn_nI (by omega)] at hw
          exact Or.inr ⟨p, he, by omega, hw⟩
    · rcases hw with ⟨e, -⟩ | ⟨c, rfl, hlt, hw⟩
      · exact absurd e h2
      · rw [nI_eq (by omega) hd] at h5
        subst h5
        rw [nI_ltI (by omega) (by omega)] at h1
        rw [tn_nI hc0, tn_nI hd, hw, show 12 - sp = (12 - (sp + 1)) + 1 by omega, wthn_s _ (12 - (sp + 1)), if_pos rfl]
        rfl
def meets (o : Nat → Int32) (c d : Nat) : Bool := wthn o 12 c d || wthn o 12 d c
def pr_X2_meet : SPre := fun As σ => ∃ a : Int32, ∃ b : Int32, As = [.ref 2, .int a, .int b] ∧ (ctxOK (σ 3) (σ 2 1) ∧ ∃ c d : Nat, a = nI c ∧ b = nI d ∧ c < tn (σ 2 1) ∧ d < tn (σ 2 1))
def po_X2_meet : SPost := fun As σ r τ => match As with
  | [.ref _, .int a, .int b] => (τ = σ ∧ r = bI (meets (σ 3) (tn a) (tn b)))
  | _ => True
def ms_X2_meet : List Me := [(23, 0, 2, 2, true, pr_X2_isWithin, po_X2_isWithin)]
theorem mk_X2_meet : ∀ q ∈ ms_X2_meet, kp_okM layC RX2 3 q := List.forall_mem_cons.mpr ⟨Or.inl ⟨2, yX2_isWithin, cX2_isWithin, 5, (some .boolean), c_X2_isWithin, by omega, by decide, rfl, lk_X2_23⟩, fun _ h => absurd h List.not_mem_nil⟩
set_option maxRecDepth 100000 in
theorem v_X2_meet {J : Nat → Lcl → List Value → Sg → Prop} {Q : Int32 → Sg → Prop} (a b : Int32) (σ : Sg) (h : pr_X2_isWithin [.ref 2, .int a, .int b] σ ∧ ∀ (x2 : Int32) (τ1 : Sg), po_X2_isWithin [.ref 2, .int a, .int b] σ x2 τ1 → ((¬ x2 = (nI 0) → ((nI 1) = nI 0 ∨ (nI 1) = nI 1) ∧ Q (nI 1) τ1) ∧ (x2 = (nI 0) → pr_X2_isWithin [.ref 2, .int b, .int a] τ1 ∧ ∀ (x4 : Int32) (τ3 : Sg), po_X2_isWithin [.ref 2, .int b, .int a] τ1 x4 τ3 → ((x4 = (nI 0) → ((nI 0) = nI 0 ∨ (nI 0) = nI 1) ∧ Q (nI 0) τ3) ∧ (¬ x4 = (nI 0) → ((nI 1) = nI 0 ∨ (nI 1) = nI 1) ∧ Q (nI 1) τ3))))) : kp_T layC gl_X2 pl_X2 (ms_X2_meet) tb_X2_meet (kp_rk (some .boolean)) J Q 30 tb_X2_meet (kp_en [.ref 2, .int a, .int b] 3) [] σ := h
set_option maxRecDepth 100000 in
set_option maxHeartbeats 4000000 in
theorem c_X2_meet : kp_Met layC 3 yX2_meet cX2_meet 3 (some .boolean) (pr_X2_meet) (po_X2_meet) := by
  refine kp_met (N := 30) (by decide) tk_X2_meet gk_X2 pk_X2 (mk_X2_meet) rfl (fun _ _ _ _ _ _ _ => False) ?_ (fun _ _ _ _ _ _ _ _ h => h.elim)
  rintro As σ ⟨a, b, rfl, hp⟩
  refine ⟨⟨rfl, Nat.le_of_ble_eq_true rfl⟩, v_X2_meet a b σ ?_⟩
  obtain ⟨hc, c, d, rfl, rfl, h1, h2⟩ := hp
  refine ⟨⟨_, _, rfl, hc, c, d, rfl, rfl, h1, h2⟩, ?_⟩
  rintro x2 τ1 ⟨rfl, rfl⟩
  rw [bI_0]
  refine ⟨fun h3 => ⟨Or.inr rfl, rfl, ?_⟩, fun h3 => ⟨⟨_, _, rfl, hc, d, c, rfl, rfl, h2, h1⟩, ?_⟩⟩
  · unfold meets; rw [show wthn (τ1 3) 12 (tn (nI c)) (tn (nI d)) = true by simpa using h3]; rfl
  · rintro x4 τ3 ⟨rfl, rfl⟩
    rw [bI_0]
    refine ⟨fun h4 => ⟨Or.inl rfl, rfl, ?_⟩, fun h4 => ⟨Or.inr rfl, rfl, ?_⟩⟩
    · unfold meets; rw [h3, h4]; rfl
    · unfold meets; rw [h3, show wthn (τ3 3) 12 (tn (nI d)) (tn (nI c)) = true by simpa using h4]; rfl
end
section
/-! a map: KeyPlan$Bindings -/
/-- what a row of pairs has for a key -/
def lk (ks : Nat → Nat) (cs : Nat → Int32) : Nat → Nat → Int32
  | 0, _ => -1
  | z + 1, k => if ks z = k then cs z else lk ks cs z k
theorem lk_none {ks : Nat → Nat} {cs : Nat → Int32} : ∀ {z k : Nat}, (∀ i, i < z → ks i ≠ k) → lk ks cs z k = -1
  | 0, _, _ => rfl
  | z + 1, k, h => by
    unfold lk
    rw [if_neg (h z (by omega))]
    exact lk_none (fun i hi => h i (by omega))
theorem lk_at {ks : Nat → Nat} {cs : Nat → Int32} : ∀ {z i : Nat}, (∀ a b, a < z → b < z → ks a = ks b → a = b) → i < z → lk ks cs z (ks i) = cs i
  | 0, _, _, h => absurd h (Nat.not_lt_zero _)
  | z + 1, i, hj, h => by
    unfold lk
    by_cases e : ks z = ks i
    · rw [if_pos e, hj z i (by omega) h e]
    · rw [if_neg e]
      have hi : i ≠ z := fun q => e (by rw [q])
      exact lk_at (fun a b ha hb => hj a b (by omega) (by omega)) (by omega)
theorem lk_some {ks : Nat → Nat} {cs : Nat → Int32} : ∀ {z k : Nat}, lk ks cs z k ≠ -1 → ∃ i, i < z ∧ ks i = k
  | 0, _, h => absurd rfl h
  | z + 1, k, h => by
    unfold lk at h
    by_cases e : ks z = k
    · exact ⟨z, by omega, e⟩
    · rw [if_neg e] at h
      obtain ⟨i, h1, h2⟩ := lk_some h
      exact ⟨i, by omega, h2⟩
theorem lk_congr {ks ks' : Nat → Nat} {cs cs' : Nat → Int32} : ∀ {z k : Nat}, (∀ i, i < z → ks i = ks' i ∧ cs i = cs' i) → lk ks cs z k = lk ks' cs' z k
  | 0, _, _ => rfl
  | z + 1, k, h => by
    unfold lk
    rw [(h z (by omega)).1, (h z (by omega)).2, lk_congr (fun i hi => h i (by omega))]
/-- two rows of pairs that have the same pairs have the same for each key -/
theorem lk_ext {ks ks' : Nat → Nat} {cs cs' : Nat → Int32} {z z' : Nat} (hj : ∀ a b, a < z → b < z → ks a = ks b → a = b) (hj' : ∀ a b, a < z' → b < z' → ks' a = ks' b → a = b) (h1 : ∀ i, i < z → ∃ j, j < z' ∧ ks' j = ks i ∧ cs' j = cs i) (h2 : ∀ j, j < z' → ∃ i, i < z ∧ ks i = ks' j) (k : Nat) : lk ks cs z k = lk ks' cs' z' k := by
  by_cases h : ∃ i, i < z ∧ ks i = k
  · obtain ⟨i, hi, rfl⟩ := h
    obtain ⟨j, a, b, c⟩ := h1 i hi
    rw [lk_at hj hi, ← b, lk_at hj' a, c]
  · rw [lk_none (fun i hi e => h ⟨i, hi, e⟩), lk_none (fun j hj e => h (by
      obtain ⟨i, a, b⟩ := h2 j hj
      exact ⟨i, a, b.trans e⟩))]
def keyOK (k : Nat) : Prop := k / 16777216 < 12 ∧ rowOK (k % 16777216) = true
theorem keyOK_lt {k : Nat} (h : keyOK k) : k < 201326592 := by have := h.1; omega
def bOK (ks cs : Nat → Int32) (nz : Int32) : Prop := ∃ z : Nat, nz = nI z ∧ z ≤ 120 ∧ (∀ i, i < z → ks i = nI (tn (ks i)) ∧ keyOK (tn (ks i)) ∧ ∃ v : Nat, v ≤ 40 ∧ cs i = nI v) ∧ ∀ i j, i < j → j < z → tn (ks i) < tn (ks j)
def mpC (ks cs : Nat → Int32) (nz : Int32) (k : Nat) : Int32 := lk (fun i => tn (ks i)) cs (tn nz) k
theorem srt_inj {f : Nat → Nat} {z : Nat} (h : ∀ i j, i < j → j < z → f i < f j) : ∀ a b, a < z → b < z → f a = f b → a = b := by
  intro a b ha hb e
  rcases Nat.lt_trichotomy a b with q | q | q
  · have := h a b q hb; omega
  · exact q
  · have := h b a q ha; omega
theorem mpC_at {ks cs : Nat → Int32} {z i : Nat} (h : bOK ks cs (nI z)) (hz : z ≤ 120) (hi : i < z) : mpC ks cs (nI z) (tn (ks i)) = cs i := by
  obtain ⟨z', e, h1, h2, h3⟩ := h
  have : z = z' := (nI_eq (by omega) (by omega)).mp e
  subst this
  unfold mpC
  rw [tn_nI (by omega)]
  exact lk_at (ks := fun i => tn (ks i)) (srt_inj h3) hi
theorem mpC_none {ks cs : Nat → Int32} {z k : Nat} (hz : z ≤ 120) (h : ∀ i, i < z → tn (ks i) ≠ k) : mpC ks cs (nI z) k = -1 := by
  unfold mpC
  rw [tn_nI (by omega)]
  exact lk_none h
theorem mpC_some {ks cs : Nat → Int32} {z k : Nat} (hz : z ≤ 120) (h : mpC ks cs (nI z) k ≠ -1) : ∃ i, i < z ∧ tn (ks i) = k := by
  unfold mpC at h
  rw [tn_nI (by omega)] at h
  exact lk_some h
theorem mpC_val {ks cs : Nat → Int32} {nz : Int32} (h : bOK ks cs nz) (k : Nat) : mpC ks cs nz k = -1 ∨ (keyOK k ∧ ∃ v : Nat, v ≤ 40 ∧ mpC ks cs nz k = nI v) := by
  obtain ⟨z, rfl, h1, h2, h3⟩ := id h
  by_cases hh : mpC ks cs (nI z) k = -1
  · exact Or.inl hh
  · obtain ⟨i, hi, rfl⟩ := mpC_some h1 hh
    rw [mpC_at h h1 hi]
    exact Or.inr ⟨(h2 i hi).2.1, (h2 i hi).2.2⟩
def pr_X1_key : SPre := fun As σ => ∃ context : Int32, ∃ row : Int32, As = [.int context, .int row] ∧ (∃ c r : Nat, context = nI c ∧ c < 12 ∧ row = nI r ∧ r < 16777216)
def po_X1_key : SPost := fun As σ r τ => match As with
  | [.int context, .int row] => (τ = σ ∧ r = nI (tn context * 16777216 + tn row))
  | _ => True
def ms_X1_key : List Me := []
theorem mk_X1_key : ∀ q ∈ ms_X1_key, kp_okM layC RX1 0 q := fun _ h => absurd h List.not_mem_nil
set_option maxRecDepth 100000 in
theorem v_X1_key {J : Nat → Lcl → List Value → Sg → Prop} {Q : Int32 → Sg → Prop} (context row : Int32) (σ : Sg) (h : Q ((context <<< ((nI 24) &&& 31)) ||| row) σ) : kp_T layC gl_X1 pl_X1 (ms_X1_key) tb_X1_key (kp_rk (some .int)) J Q 30 tb_X1_key (kp_en [.int context, .int row] 2) [] σ := h
set_option maxRecDepth 100000 in
set_option maxHeartbeats 4000000 in
theorem c_X1_key : kp_Met layC 0 yX1_key cX1_key 2 (some .int) (pr_X1_key) (po_X1_key) := by
  refine kp_met (N := 30) (by decide) tk_X1_key gk_X1 pk_X1 (mk_X1_key) rfl (fun _ _ _ _ _ _ _ => False) ?_ (fun _ _ _ _ _ _ _ _ h => h.elim)
  rintro As σ ⟨context, row, rfl, hp⟩
  refine ⟨⟨rfl, Nat.le_of_ble_eq_true rfl⟩, v_X1_key context row σ ?_⟩
  obtain ⟨c, r, rfl, hc, rfl, hr⟩ := hp
  refine ⟨rfl, ?_⟩
  rw [tn_nI (by omega), tn_nI (by omega), show nI c <<< (nI 24 &&& 31) = nI (c * 2 ^ 24) from pk_shlN _ 24 (by decide) (by omega)]
  rw [nI_or _ _ (by omega) (by omega), Nat.mul_comm c, ← Nat.two_pow_add_eq_or_of_lt (by omega), Nat.mul_comm]
def pr_X1_contextOf : SPre := fun As σ => ∃ key : Int32, As = [.int key] ∧ (∃ k : Nat, key = nI k ∧ k < 2 ^ 31)
def po_X1_contextOf : SPost := fun As σ r τ => match As with
  | [.int key] => (τ = σ ∧ r = nI (tn key / 16777216))
  | _ => True
def ms_X1_contextOf : List Me := []
theorem mk_X1_contextOf : ∀ q ∈ ms_X1_contextOf, kp_okM layC RX1 0 q := fun _ h => absurd h List.not_mem_nil
set_option maxRecDepth 100000 in
theorem v_X1_contextOf {J : Nat → Lcl → List Value → Sg → Prop} {Q : Int32 → Sg → Prop} (key : Int32) (σ : Sg) (h : Q ((Int32.toUInt32 key >>> (Int32.toUInt32 (nI 24) &&& Int32.toUInt32 31)).toInt32) σ) : kp_T layC gl_X1 pl_X1 (ms_X1_contextOf) tb_X1_contextOf (kp_rk (some .int)) J Q 30 tb_X1_contextOf (kp_en [.int key] 1) [] σ := h
set_option maxRecDepth 100000 in
set_option maxHeartbeats 4000000 in
theorem c_X1_contextOf : kp_Met layC 0 yX1_contextOf cX1_contextOf 1 (some .int) (pr_X1_contextOf) (po_X1_contextOf) := by
  refine kp_met (N := 30) (by decide) tk_X1_contextOf gk_X1 pk_X1 (mk_X1_contextOf) rfl (fun _ _ _ _ _ _ _ => False) ?_ (fun _ _ _ _ _ _ _ _ h => h.elim)
  rintro As σ ⟨key, rfl, hp⟩
  refine ⟨⟨rfl, Nat.le_of_ble_eq_true rfl⟩, v_X1_contextOf key σ ?_⟩
  obtain ⟨k, rfl, hk⟩ := hp
  exact ⟨rfl, by rw [tn_nI hk]; exact pk_ushrN (by omega) _ 24 (by decide)⟩
def pr_X1_rowOf : SPre := fun As σ => ∃ key : Int32, As = [.int key] ∧ (∃ k : Nat, key = nI k ∧ k < 2 ^ 31)
def po_X1_rowOf : SPost := fun As σ r τ => match As with
  | [.int key] => (τ = σ ∧ r = nI (tn key % 16777216))
  | _ => True
def ms_X1_rowOf : List Me := []
theorem mk_X1_rowOf : ∀ q ∈ ms_X1_rowOf, kp_okM layC RX1 0 q := fun _ h => absurd h List.not_mem_nil
set_option maxRecDepth 100000 in
theorem v_X1_rowOf {J : Nat → Lcl → List Value → Sg → Prop} {Q : Int32 → Sg → Prop} (key : Int32) (σ : Sg) (h : Q (key &&& (nI 16777215)) σ) : kp_T layC gl_X1 pl_X1 (ms_X1_rowOf) tb_X1_rowOf (kp_rk (some .int)) J Q 30 tb_X1_rowOf (kp_en [.int key] 1) [] σ := h
set_option maxRecDepth 100000 in
set_option maxHeartbeats 4000000 in
theorem c_X1_rowOf : kp_Met layC 0 yX1_rowOf cX1_rowOf 1 (some .int) (pr_X1_rowOf) (po_X1_rowOf) := by
  refine kp_met (N := 30) (by decide) tk_X1_rowOf gk_X1 pk_X1 (mk_X1_rowOf) rfl (fun _ _ _ _ _ _ _ => False) ?_ (fun _ _ _ _ _ _ _ _ h => h.elim)
  rintro As σ ⟨key, rfl, hp⟩
  refine ⟨⟨rfl, Nat.le_of_ble_eq_true rfl⟩, v_X1_rowOf key σ ?_⟩
  obtain ⟨k, rfl, hk⟩ := hp
  exact ⟨rfl, by rw [tn_nI hk]; exact pk_andN (by omega) 24 (by decide)⟩
def pr_X1_place : SPre := fun As σ => ∃ b : Nat, ∃ key : Int32, As = [.ref b, .int key] ∧ (b = 4 ∨ b = 7) ∧ (bOK (σ (b + 1)) (σ (b + 2)) (σ b 2) ∧ ∃ k : Nat, key = nI k ∧ k < 2 ^ 31)
def po_X1_place : SPost := fun As σ r τ => match As with
  | [.ref b, .int key] => (τ = σ ∧ ∃ p : Nat, r = nI p ∧ p ≤ tn (σ b 2) ∧ (∀ i, i < p → tn (σ (b + 1) i) < tn key) ∧ (∀ i, p ≤ i → i < tn (σ b 2) → tn key ≤ tn (σ (b + 1) i)))
  | _ => True
def ms_X1_place : List Me := []
theorem mk_X1_place : ∀ q ∈ ms_X1_place, kp_okM layC RX1 0 q := fun _ h => absurd h List.not_mem_nil
set_option maxRecDepth 100000 in
theorem v_X1_place {J : Nat → Lcl → List Value → Sg → Prop} {Q : Int32 → Sg → Prop} (b : Nat) (hb : b = 4 ∨ b = 7) (key : Int32) (σ : Sg) (h : J 10 [some (.ref b), some (.int key), some (.int (nI 0)), some (.int (σ b 2)), some (.int (nI 0)), none] [] σ) : kp_T layC gl_X1 pl_X1 (ms_X1_place) tb_X1_place (kp_rk (some .int)) J Q 41 tb_X1_place (kp_en [.ref b, .int key] 6) [] σ := by rcases hb with rfl | rfl <;> exact h
set_option maxRecDepth 100000 in
theorem v_X1_place_10 {J : Nat → Lcl → List Value → Sg → Prop} {Q : Int32 → Sg → Prop} (b : Nat) (hb : b = 4 ∨ b = 7) (key low high steps : Int32) (o5 : Option Value) (σ : Sg) (h : (¬ steps < (nI 120) → Q low σ) ∧ (steps < (nI 120) → (¬ low < high → Q low σ) ∧ (low < high → vp_in ((Int32.toUInt32 (low + high) >>> (Int32.toUInt32 (nI 1) &&& Int32.toUInt32 31)).toInt32) 120 ∧ ((¬ (σ (b + 1) ((Int32.toUInt32 (low + high) >>> (Int32.toUInt32 (nI 1) &&& Int32.toUInt32 31)).toInt32).toNatClampNeg) < key → J 10 [some (.ref b), some (.int key), some (.int low), some (.int ((Int32.toUInt32 (low + high) >>> (Int32.toUInt32 (nI 1) &&& Int32.toUInt32 31)).toInt32)), some (.int (steps + nI 1)), some (.int ((Int32.toUInt32 (low + high) >>> (Int32.toUInt32 (nI 1) &&& Int32.toUInt32 31)).toInt32))] [] σ) ∧ ((σ (b + 1) ((Int32.toUInt32 (low + high) >>> (Int32.toUInt32 (nI 1) &&& Int32.toUInt32 31)).toInt32).toNatClampNeg) < key → J 10 [some (.ref b), some (.int key), some (.int (((Int32.toUInt32 (low + high) >>> (Int32.toUInt32 (nI 1) &&& Int32.toUInt32 31)).toInt32) + (nI 1))), some (.int high), some (.int (steps + nI 1)), some (.int ((Int32.toUInt32 (low + high) >>> (Int32.toUInt32 (nI 1) &&& Int32.toUInt32 31)).toInt32))] [] σ))))) : kp_T1 layC gl_X1 pl_X1 (ms_X1_place) tb_X1_place (kp_rk (some .int)) J Q 41 10 [some (.ref b), some (.int key), some (.int low), some (.int high), some (.int steps), o5] [] σ := by rcases hb with rfl | rfl <;> exact h
abbrev iv_X1_place : List Value → Sg → Nat → Nat → Lcl → List Value → Sg → Prop := fun As σ n pc ls st τ => pc = 10 ∧ st = [] ∧ τ = σ ∧ ∃ (b k lo hi sp z : Nat) (o5 : Option Value), (b = 4 ∨ b = 7) ∧ As = [.ref b, .int (nI k)] ∧ ls = [some (.ref b), some (.int (nI k)), some (.int (nI lo)), some (.int (nI hi)), some (.int (nI sp)), o5] ∧ k < 2 ^ 31 ∧ σ b 2 = nI z ∧ z ≤ 120 ∧ (∀ i, i < z → σ (b + 1) i = nI (tn (σ (b + 1) i))) ∧ (∀ i j, i < j → j < z → tn (σ (b + 1) i) < tn (σ (b + 1) j)) ∧ lo ≤ hi ∧ hi ≤ z ∧ sp + (hi - lo) ≤ 120 ∧ n = hi - lo ∧ (∀ i, i < lo → tn (σ (b + 1) i) < k) ∧ (∀ i, hi ≤ i → i < z → k ≤ tn (σ (b + 1) i))
set_option maxRecDepth 100000 in
set_option maxHeartbeats 4000000 in
theorem c_X1_place : kp_Met layC 0 yX1_place cX1_place 6 (some .int) (pr_X1_place) (po_X1_place) := by
  refine kp_met (N := 41) (by decide) tk_X1_place gk_X1 pk_X1 (mk_X1_place) rfl (iv_X1_place) ?_ ?_
  · rintro As σ ⟨b, key, rfl, hb, hp⟩
    refine ⟨⟨rfl, Nat.le_of_ble_eq_true rfl⟩, v_X1_place b hb key σ ?_⟩
    obtain ⟨⟨z, hz, h1, h2, h3⟩, k, rfl, hk⟩ := hp
    exact ⟨z, rfl, rfl, rfl, b, k, 0, z, 0, z, none, hb, rfl, by rw [hz], hk, hz, h1, fun i hi => (h2 i hi).1, h3, by omega, by omega, by omega, by omega, fun i hi => by omega, fun i hi hj => by omega⟩
  · rintro As σ ⟨b, key, rfl, hb, hp⟩ n pc ls st τ hI
    obtain ⟨rfl, rfl, rfl, b', k, lo, hi, sp, z, o5, hb', hAs, rfl, hk, hz, h1, h2, h3, h4, h5, h6, rfl, h7, h8⟩ := hI
    cases hAs
    have hmid : (Int32.toUInt32 (nI lo + nI hi) >>> (Int32.toUInt32 (nI 1) &&& Int32.toUInt32 31)).toInt32 = nI ((lo + hi) / 2) := by
      rw [nI_add]; exact pk_ushrN (by omega) _ 1 (by decide)
    refine v_X1_place_10 b hb _ _ _ _ o5 τ ?_
    rw [hmid]
    rw [nI_ltI (by omega) (by omega), nI_ltI (by omega) (by omega)]
    have hfin : lo = hi → po_X1_place [.ref b, .int (nI k)] τ (nI lo) τ := by
      rintro rfl
      refine ⟨rfl, lo, rfl, ?_, ?_, ?_⟩
      · rw [hz, tn_nI (by omega)]; exact h5
      · rw [tn_nI hk]; exact h7
      · rw [hz, tn_nI (by omega), tn_nI hk]; exact h8
    refine ⟨fun q1 => hfin (by omega), fun q1 => ⟨fun q2 => hfin (by omega), fun q2 => ?_⟩⟩
    have hm1 : (lo + hi) / 2 < hi := by omega
    have hm2 : lo ≤ (lo + hi) / 2 := by omega
    refine ⟨(kp_in (by omega)).mpr (by omega), ?_⟩
    rw [nI_clamp (show (lo + hi) / 2 < 2 ^ 31 by omega), h2 _ (show (lo + hi) / 2 < z by omega), nI_ltI (tn_lt _) hk]
    refine ⟨fun q3 => ⟨(lo + hi) / 2 - lo, by omega, rfl, rfl, rfl, b, k, lo, (lo + hi) / 2, sp + 1, z, _, hb, rfl, by rw [nI_add], hk, hz, h1, h2, h3, hm2, by omega, by omega, rfl, h7, fun i a1 a2 => ?_⟩, fun q3 => ⟨hi - ((lo + hi) / 2 + 1), by omega, rfl, rfl, rfl, b, k, (lo + hi) / 2 + 1, hi, sp + 1, z, _, hb, rfl, by rw [nI_add, nI_add], hk, hz, h1, h2, h3, by omega, h5, by omega, rfl, fun i a1 => ?_, h8⟩⟩
    · by_cases e : i = (lo + hi) / 2
      · subst e; omega
      · have := h3 ((lo + hi) / 2) i (by omega) a2; omega
    · by_cases e : i = (lo + hi) / 2
      · subst e; omega
      · have := h3 i ((lo + hi) / 2) (by omega) (by omega); omega
def pr_X1_isAt : SPre := fun As σ => ∃ b : Nat, ∃ p : Int32, ∃ k : Int32, As = [.ref b, .int p, .int k] ∧ (b = 4 ∨ b = 7) ∧ ((∃ z : Nat, σ b 2 = nI z ∧ z ≤ 120) ∧ ∃ q : Nat, p = nI q ∧ q ≤ 120)
def po_X1_isAt : SPost := fun As σ r τ => match As with
  | [.ref b, .int p, .int k] => (τ = σ ∧ r = bI (decide (tn p < tn (σ b 2) ∧ σ (b + 1) (tn p) = k)))
  | _ => True
def ms_X1_isAt : List Me := []
theorem mk_X1_isAt : ∀ q ∈ ms_X1_isAt, kp_okM layC RX1 0 q := fun _ h => absurd h List.not_mem_nil
set_option maxRecDepth 100000 in
theorem v_X1_isAt {J : Nat → Lcl → List Value → Sg → Prop} {Q : Int32 → Sg → Prop} (b : Nat) (hb : b = 4 ∨ b = 7) (p k : Int32) (σ : Sg) (h : (¬ p < (σ b 2) → ((nI 0) = nI 0 ∨ (nI 0) = nI 1) ∧ Q (nI 0) σ) ∧ (p < (σ b 2) → vp_in p 120 ∧ ((¬ (σ (b + 1) (p).toNatClampNeg) = k → ((nI 0) = nI 0 ∨ (nI 0) = nI 1) ∧ Q (nI 0) σ) ∧ ((σ (b + 1) (p).toNatClampNeg) = k → ((nI 1) = nI 0 ∨ (nI 1) = nI 1) ∧ Q (nI 1) σ)))) : kp_T layC gl_X1 pl_X1 (ms_X1_isAt) tb_X1_isAt (kp_rk (some .boolean)) J Q 30 tb_X1_isAt (kp_en [.ref b, .int p, .int k] 3) [] σ := by rcases hb with rfl | rfl <;> exact h
set_option maxRecDepth 100000 in
set_option maxHeartbeats 4000000 in
theorem c_X1_isAt : kp_Met layC 0 yX1_isAt cX1_isAt 3 (some .boolean) (pr_X1_isAt) (po_X1_isAt) := by
  refine kp_met (N := 30) (by decide) tk_X1_isAt gk_X1 pk_X1 (mk_X1_isAt) rfl (fun _ _ _ _ _ _ _ => False) ?_ (fun _ _ _ _ _ _ _ _ h => h.elim)
  rintro As σ ⟨b, p, k, rfl, hb, hp⟩
  refine ⟨⟨rfl, Nat.le_of_ble_eq_true rfl⟩, v_X1_isAt b hb p k σ ?_⟩
  obtain ⟨⟨z, hz, hz1⟩, q, rfl, hq⟩ := hp
  have e1 : tn (σ b 2) = z := by rw [hz, tn_nI (by omega)]
  have e2 : tn (nI q) = q := tn_nI (by omega)
  refine ⟨fun h1 => ⟨Or.inl rfl, rfl, ?_⟩, fun h1 => ⟨?_, fun h2 => ⟨Or.inl rfl, rfl, ?_⟩, fun h2 => ⟨Or.inr rfl, rfl, ?_⟩⟩⟩
  · rw [hz, nI_ltI (by omega) (by omega)] at h1
    rw [e1, e2, decide_eq_false (fun h => h1 h.1)]; rfl
  · rw [hz, nI_ltI (by omega) (by omega)] at h1
    rw [kp_in (by omega)]; omega
  · rw [decide_eq_false (fun h => h2 h.2)]; rfl
  · rw [hz, nI_ltI (by omega) (by omega)] at h1
    rw [e1, decide_eq_true ⟨by rw [e2]; exact h1, h2⟩]; rfl
def pr_X1_at : SPre := fun As σ => ∃ b : Nat, ∃ key : Int32, As = [.ref b, .int key] ∧ (b = 4 ∨ b = 7) ∧ (bOK (σ (b + 1)) (σ (b + 2)) (σ b 2) ∧ ∃ k : Nat, key = nI k ∧ k < 2 ^ 31)
def po_X1_at : SPost := fun As σ r τ => match As with
  | [.ref b, .int key] => (τ = σ ∧ r = mpC (σ (b + 1)) (σ (b + 2)) (σ b 2) (tn key))
  | _ => True
def ms_X1_at : List Me := [(23, 0, 1, 1, true, pr_X1_place, po_X1_place), (27, 0, 1, 2, true, pr_X1_isAt, po_X1_isAt)]
theorem mk_X1_at : ∀ q ∈ ms_X1_at, kp_okM layC RX1 1 q := List.forall_mem_cons.mpr ⟨Or.inl ⟨0, yX1_place, cX1_place, 6, (some .int), c_X1_place, by omega, by decide, rfl, lk_X1_23⟩, List.forall_mem_cons.mpr ⟨Or.inl ⟨0, yX1_isAt, cX1_isAt, 3, (some .boolean), c_X1_isAt, by omega, by decide, rfl, lk_X1_27⟩, fun _ h => absurd h List.not_mem_nil⟩⟩
set_option maxRecDepth 100000 in
theorem v_X1_at {J : Nat → Lcl → List Value → Sg → Prop} {Q : Int32 → Sg → Prop} (b : Nat) (hb : b = 4 ∨ b = 7) (key : Int32) (σ : Sg) (h : pr_X1_place [.ref b, .int key] σ ∧ ∀ (x2 : Int32) (τ1 : Sg), po_X1_place [.ref b, .int key] σ x2 τ1 → (pr_X1_isAt [.ref b, .int x2, .int key] τ1 ∧ ∀ (x4 : Int32) (τ3 : Sg), po_X1_isAt [.ref b, .int x2, .int key] τ1 x4 τ3 → ((x4 = (nI 0) → Q (-1) τ3) ∧ (¬ x4 = (nI 0) → vp_in x2 120 ∧ (Q (τ3 (b + 2) (x2).toNatClampNeg) τ3))))) : kp_T layC gl_X1 pl_X1 (ms_X1_at) tb_X1_at (kp_rk (some .int)) J Q 30 tb_X1_at (kp_en [.ref b, .int key] 3) [] σ := by rcases hb with rfl | rfl <;> exact h
set_option maxRecDepth 100000 in
set_option maxHeartbeats 4000000 in
theorem c_X1_at : kp_Met layC 1 yX1_at cX1_at 3 (some .int) (pr_X1_at) (po_X1_at) := by
  refine kp_met (N := 30) (by decide) tk_X1_at gk_X1 pk_X1 (mk_X1_at) rfl (fun _ _ _ _ _ _ _ => False) ?_ (fun _ _ _ _ _ _ _ _ h => h.elim)
  rintro As σ ⟨b, key, rfl, hb, hp⟩
  refine ⟨⟨rfl, Nat.le_of_ble_eq_true rfl⟩, v_X1_at b hb key σ ?_⟩
  obtain ⟨hbo, k, rfl, hk⟩ := hp
  obtain ⟨z, hz, h1, h2, h3⟩ := id hbo
  have e1 : tn (σ b 2) = z := by rw [hz, tn_nI (by omega)]
  refine ⟨⟨b, _, rfl, hb, hbo, k, rfl, hk⟩, ?_⟩
  rintro x2 τ1 ⟨rfl, p, rfl, h4, h5, h6⟩
  rw [tn_nI hk] at h5 h6
  rw [e1] at h4 h6
  refine ⟨⟨b, _, _, rfl, hb, ⟨z, hz, h1⟩, p, rfl, by omega⟩, ?_⟩
  rintro x4 τ3 ⟨rfl, rfl⟩
  rw [bI_0, e1, tn_nI (show p < 2 ^ 31 by omega)]
  refine ⟨fun q1 => ⟨rfl, ?_⟩, fun q1 => ⟨?_, rfl, ?_⟩⟩
  · have q1 := of_decide_eq_false q1
    rw [hz, tn_nI hk]
    refine (mpC_none h1 (fun i hi e => ?_)).symm
    by_cases hip : i < p
    · have := h5 i hip; omega
    · by_cases hi2 : i = p
      · subst hi2
        exact q1 ⟨hi, by rw [(h2 i hi).1, e]⟩
      · have a1 := h6 p (by omega) (by omega)
        have a2 := h3 p i (by omega) hi
        omega
  · have q1 := of_decide_eq_true (by simpa using q1)
    rw [kp_in (by omega)]; omega
  · have q1 := of_decide_eq_true (show decide _ = true by simpa using q1)
    have hkp : tn (τ3 (b + 1) p) = k := by rw [q1.2, tn_nI hk]
    rw [hz] at hbo
    rw [nI_clamp (show p < 2 ^ 31 by omega), hz, tn_nI hk, ← hkp, mpC_at hbo h1 q1.1]
end
section
/-! a map's writes -/
theorem lk_ins {ks ks' : Nat → Nat} {cs cs' : Nat → Int32} {z p k : Nat} {c : Int32} (hp : p ≤ z) (hj : ∀ a b, a < z → b < z → ks a = ks b → a = b) (hj' : ∀ a b, a < z + 1 → b < z + 1 → ks' a = ks' b → a = b) (h1 : ∀ i, i < p → ks' i = ks i ∧ cs' i = cs i) (h2 : ks' p = k ∧ cs' p = c) (h3 : ∀ i, p ≤ i → i < z → ks' (i + 1) = ks i ∧ cs' (i + 1) = cs i) (k' : Nat) : lk ks' cs' (z + 1) k' = if k' = k then c else lk ks cs z k' := by
  by_cases hk : k' = k
  · rw [if_pos hk, hk, ← h2.1, lk_at hj' (by omega), h2.2]
  · rw [if_neg hk]
    by_cases he : ∃ i, i < z ∧ ks i = k'
    · obtain ⟨i, hi, rfl⟩ := he
      rw [lk_at hj hi]
      by_cases hip : i < p
      · rw [← (h1 i hip).1, lk_at hj' (by omega), (h1 i hip).2]
      · rw [← (h3 i (by omega) hi).1, lk_at hj' (by omega), (h3 i (by omega) hi).2]
    · rw [lk_none (fun i hi e => he ⟨i, hi, e⟩)]
      refine lk_none (fun i hi e => ?_)
      rcases Nat.lt_trichotomy i p with q | q | q
      · exact he ⟨i, by omega, by rw [← (h1 i q).1]; exact e⟩
      · subst q; exact hk (by rw [← e, h2.1])
      · obtain ⟨j, rfl⟩ : ∃ j, i = j + 1 := ⟨i - 1, by omega⟩
        exact he ⟨j, by omega, by rw [← (h3 j (by omega) (by omega)).1]; exact e⟩
theorem lk_del {ks ks' : Nat → Nat} {cs cs' : Nat → Int32} {z p : Nat} (hp : p < z) (hj : ∀ a b, a < z → b < z → ks a = ks b → a = b) (hj' : ∀ a b, a < z - 1 → b < z - 1 → ks' a = ks' b → a = b) (h1 : ∀ i, i < p → ks' i = ks i ∧ cs' i = cs i) (h3 : ∀ i, p ≤ i → i + 1 < z → ks' i = ks (i + 1) ∧ cs' i = cs (i + 1)) (k' : Nat) : lk ks' cs' (z - 1) k' = if k' = ks p then -1 else lk ks cs z k' := by
  by_cases hk : k' = ks p
  · rw [if_pos hk]
    refine lk_none (fun i hi e => ?_)
    by_cases hip : i < p
    · have := hj i p (by omega) hp (by rw [← (h1 i hip).1, e, hk]); omega
    · have := hj (i + 1) p (by omega) hp (by rw [← (h3 i (by omega) (by omega)).1, e, hk]); omega
  · rw [if_neg hk]
    by_cases he : ∃ i, i < z ∧ ks i = k'
    · obtain ⟨i, hi, rfl⟩ := he
      rw [lk_at hj hi]
      rcases Nat.lt_trichotomy i p with q | q | q
      · rw [← (h1 i q).1, lk_at hj' (by omega), (h1 i q).2]
      · subst q; exact absurd rfl hk
      · obtain ⟨j, rfl⟩ : ∃ j, i = j + 1 := ⟨i - 1, by omega⟩
        rw [← (h3 j (by omega) hi).1, lk_at hj' (by omega), (h3 j (by omega) hi).2]
    · rw [lk_none (fun i hi e => he ⟨i, hi, e⟩)]
      refine lk_none (fun i hi e => ?_)
      by_cases hip : i < p
      · exact he ⟨i, by omega, by rw [← (h1 i hip).1]; exact e⟩
      · exact he ⟨i + 1, by omega, by rw [← (h3 i (by omega) (by omega)).1]; exact e⟩
theorem lk_set {ks : Nat → Nat} {cs cs' : Nat → Int32} {z p : Nat} {c : Int32} (hp : p < z) (hj : ∀ a b, a < z → b < z → ks a = ks b → a = b) (h1 : ∀ i, i ≠ p → cs' i = cs i) (h2 : cs' p = c) (k' : Nat) : lk ks cs' z k' = if k' = ks p then c else lk ks cs z k' := by
  by_cases hk : k' = ks p
  · rw [if_pos hk, hk, lk_at hj hp, h2]
  · rw [if_neg hk]
    by_cases he : ∃ i, i < z ∧ ks i = k'
    · obtain ⟨i, hi, rfl⟩ := he
      rw [lk_at hj hi, lk_at hj hi, h1 i (fun q => hk (by rw [q]))]
    · rw [lk_none (fun i hi e => he ⟨i, hi, e⟩), lk_none (fun i hi e => he ⟨i, hi, e⟩)]
def shU (f : Nat → Int32) (i z : Nat) : Nat → Int32 := fun j => if j ≤ i then f j else if j ≤ z then f (j - 1) else f j
def shD (f : Nat → Int32) (p i : Nat) : Nat → Int32 := fun j => if p ≤ j ∧ j < i then f (j + 1) else f j
theorem shU_0 {f : Nat → Int32} {z : Nat} : shU f z z = f := by
  funext j; unfold shU; split
  · rfl
  · rfl
theorem shU_s {f : Nat → Int32} {i z : Nat} (h0 : 0 < i) (hz : i ≤ z) : upd (shU f i z) i (shU f i z (i - 1)) = shU f (i - 1) z := by
  funext j
  unfold upd shU
  by_cases e : j = i
  · subst e
    rw [if_pos rfl, if_pos (by omega), if_neg (by omega), if_pos hz]
  · rw [if_neg e]
    by_cases h1 : j ≤ i
    · rw [if_pos h1, if_pos (by omega)]
    · rw [if_neg h1]
      by_cases h2 : j ≤ z
      · rw [if_pos h2, if_neg (by omega)]
      · rw [if_neg h2, if_neg (by omega)]
theorem shD_0 {f : Nat → Int32} {p : Nat} : shD f p p = f := by
  funext j; unfold shD; rw [if_neg (by omega)]
theorem shD_s {f : Nat → Int32} {p i : Nat} (h : p ≤ i) : upd (shD f p i) i (shD f p i (i + 1)) = shD f p (i + 1) := by
  funext j
  unfold upd shD
  by_cases e : j = i
  · subst e
    rw [if_pos rfl, if_neg (by omega), if_pos (by omega)]
  · rw [if_neg e]
    by_cases h1 : p ≤ j ∧ j < i
    · rw [if_pos h1, if_pos (by omega)]
    · rw [if_neg h1, if_neg (by omega)]
def pr_X1_openGap : SPre := fun As σ => ∃ p : Int32, As = [.ref 4, .int p] ∧ (∃ z q : Nat, σ 4 2 = nI z ∧ z < 120 ∧ p = nI q ∧ q ≤ z)
def po_X1_openGap : SPost := fun As σ r τ => match As with
  | [.ref _, .int p] => (fr [4, 5, 6] σ τ ∧ τ 4 2 = σ 4 2 + nI 1 ∧ τ 5 = shU (σ 5) (tn p) (tn (σ 4 2)) ∧ τ 6 = shU (σ 6) (tn p) (tn (σ 4 2)))
  | _ => True
def ms_X1_openGap : List Me := []
theorem mk_X1_openGap : ∀ q ∈ ms_X1_openGap, kp_okM layC RX1 0 q := fun _ h => absurd h List.not_mem_nil
set_option maxRecDepth 100000 in
theorem v_X1_openGap {J : Nat → Lcl → List Value → Sg → Prop} {Q : Int32 → Sg → Prop} (p : Int32) (σ : Sg) (h : J 5 [some (.ref 4), some (.int p), some (.int (σ 4 2))] [] σ) : kp_T layC gl_X1 pl_X1 (ms_X1_openGap) tb_X1_openGap (kp_rk none) J Q 40 tb_X1_openGap (kp_en [.ref 4, .int p] 3) [] σ := h
set_option maxRecDepth 100000 in
theorem v_X1_openGap_5 {J : Nat → Lcl → List Value → Sg → Prop} {Q : Int32 → Sg → Prop} (p i : Int32) (σ : Sg) (h : (¬ p < i → Q (nI 0) (kp_up σ 4 2 ((σ 4 2) + (nI 1)))) ∧ (p < i → vp_in (i - (nI 1)) 120 ∧ (vp_in i 120 ∧ (vp_in (i - (nI 1)) 120 ∧ (vp_in i 120 ∧ (J 5 [some (.ref 4), some (.int p), some (.int (i + (-1)))] [] (kp_up (kp_up σ 5 (i).toNatClampNeg (σ 5 (i - (nI 1)).toNatClampNeg)) 6 (i).toNatClampNeg ((kp_up σ 5 (i).toNatClampNeg (σ 5 (i - (nI 1)).toNatClampNeg)) 6 (i - (nI 1)).toNatClampNeg)))))))) : kp_T1 layC gl_X1 pl_X1 (ms_X1_openGap) tb_X1_openGap (kp_rk none) J Q 40 5 [some (.ref 4), some (.int p), some (.int i)] [] σ := h
abbrev iv_X1_openGap : List Value → Sg → Nat → Nat → Lcl → List Value → Sg → Prop := fun As σ n pc ls st τ => pc = 5 ∧ st = [] ∧ ∃ z q i : Nat, σ 4 2 = nI z ∧ z < 120 ∧ As = [.ref 4, .int (nI q)] ∧ q ≤ i ∧ i ≤ z ∧ ls = [some (.ref 4), some (.int (nI q)), some (.int (nI i))] ∧ n = i ∧ fr [5, 6] σ τ ∧ τ 5 = shU (σ 5) i z ∧ τ 6 = shU (σ 6) i z
set_option maxRecDepth 100000 in
set_option maxHeartbeats 4000000 in
theorem c_X1_openGap : kp_Met layC 0 yX1_openGap cX1_openGap 3 none (pr_X1_openGap) (po_X1_openGap) := by
  refine kp_met (N := 40) (by decide) tk_X1_openGap gk_X1 pk_X1 (mk_X1_openGap) rfl (iv_X1_openGap) ?_ ?_
  · rintro As σ ⟨p, rfl, hp⟩
    refine ⟨⟨rfl, Nat.le_of_ble_eq_true rfl⟩, v_X1_openGap p σ ?_⟩
    obtain ⟨z, q, h1, h2, rfl, h3⟩ := hp
    exact ⟨z, rfl, rfl, z, q, z, h1, h2, rfl, h3, by omega, by rw [h1], rfl, fr_rf, shU_0.symm, shU_0.symm⟩
  · rintro As σ ⟨p, rfl, hp⟩ n pc ls st τ hI
    obtain ⟨rfl, rfl, z, q, i, h1, h2, hAs, h3, h4, rfl, rfl, h5, h6, h7⟩ := hI
    cases hAs
    have h42 : τ 4 = σ 4 := h5 4 (by decide)
    refine v_X1_openGap_5 _ _ τ ?_
    rw [nI_ltI (by omega) (by omega)]
    refine ⟨fun g1 => ?_, fun g1 => ?_⟩
    · have : n = q := by omega
      subst this
      refine ⟨fr_up (fr_mono h5 (by decide)) (by decide), by rw [up_s, h42], ?_, ?_⟩
      · rw [up_c (by decide), h6, tn_nI (by omega), h1, tn_nI (by omega)]
      · rw [up_c (by decide), h7, tn_nI (by omega), h1, tn_nI (by omega)]
    · rw [pk_sub (show 1 ≤ n by omega), nI_clamp (show n < 2 ^ 31 by omega), nI_clamp (show n - 1 < 2 ^ 31 by omega), kp_in (by omega), kp_in (by omega)]
      refine ⟨by omega, by omega, by omega, by omega, n - 1, by omega, rfl, rfl, z, q, n - 1, h1, h2, rfl, by omega, by omega, ?_, rfl, ?_, ?_, ?_⟩
      · rw [show nI n + (-1) = nI (n - 1) by obtain ⟨k, rfl⟩ : ∃ k, n = k + 1 := ⟨n - 1, by omega⟩; exact pk_m1 k]
      · exact fr_up (fr_up h5 (by decide)) (by decide)
      · rw [up_c (by decide), kp_up_eq, h6]; exact shU_s (by omega) h4
      · rw [kp_up_eq, up_c (by decide), h7]; exact shU_s (by omega) h4
def pr_X1_closeGap : SPre := fun As σ => ∃ p : Int32, As = [.ref 4, .int p] ∧ (∃ z q : Nat, σ 4 2 = nI z ∧ z ≤ 120 ∧ p = nI q ∧ q < z)
def po_X1_closeGap : SPost := fun As σ r τ => match As with
  | [.ref _, .int p] => (fr [4, 5, 6] σ τ ∧ τ 4 2 = σ 4 2 - nI 1 ∧ τ 5 = shD (σ 5) (tn p) (tn (σ 4 2) - 1) ∧ τ 6 = shD (σ 6) (tn p) (tn (σ 4 2) - 1))
  | _ => True
def ms_X1_closeGap : List Me := []
theorem mk_X1_closeGap : ∀ q ∈ ms_X1_closeGap, kp_okM layC RX1 0 q := fun _ h => absurd h List.not_mem_nil
set_option maxRecDepth 100000 in
theorem v_X1_closeGap {J : Nat → Lcl → List Value → Sg → Prop} {Q : Int32 → Sg → Prop} (p : Int32) (σ : Sg) (h : J 12 [some (.ref 4), some (.int p), some (.int p)] [] (kp_up σ 4 2 ((σ 4 2) - (nI 1)))) : kp_T layC gl_X1 pl_X1 (ms_X1_closeGap) tb_X1_closeGap (kp_rk none) J Q 40 tb_X1_closeGap (kp_en [.ref 4, .int p] 3) [] σ := h
set_option maxRecDepth 100000 in
theorem v_X1_closeGap_12 {J : Nat → Lcl → List Value → Sg → Prop} {Q : Int32 → Sg → Prop} (p i : Int32) (σ : Sg) (h : (¬ i < (σ 4 2) → Q (nI 0) σ) ∧ (i < (σ 4 2) → vp_in (i + (nI 1)) 120 ∧ (vp_in i 120 ∧ (vp_in (i + (nI 1)) 120 ∧ (vp_in i 120 ∧ (J 12 [some (.ref 4), some (.int p), some (.int (i + nI 1))] [] (kp_up (kp_up σ 5 (i).toNatClampNeg (σ 5 (i + (nI 1)).toNatClampNeg)) 6 (i).toNatClampNeg ((kp_up σ 5 (i).toNatClampNeg (σ 5 (i + (nI 1)).toNatClampNeg)) 6 (i + (nI 1)).toNatClampNeg)))))))) : kp_T1 layC gl_X1 pl_X1 (ms_X1_closeGap) tb_X1_closeGap (kp_rk none) J Q 40 12 [some (.ref 4), some (.int p), some (.int i)] [] σ := h
abbrev iv_X1_closeGap : List Value → Sg → Nat → Nat → Lcl → List Value → Sg → Prop := fun As σ n pc ls st τ => pc = 12 ∧ st = [] ∧ ∃ z q i : Nat, σ 4 2 = nI z ∧ z ≤ 120 ∧ As = [.ref 4, .int (nI q)] ∧ q ≤ i ∧ i < z ∧ ls = [some (.ref 4), some (.int (nI q)), some (.int (nI i))] ∧ n = z - i ∧ fr [4, 5, 6] σ τ ∧ τ 4 2 = nI (z - 1) ∧ τ 5 = shD (σ 5) q i ∧ τ 6 = shD (σ 6) q i
set_option maxRecDepth 100000 in
set_option maxHeartbeats 4000000 in
theorem c_X1_closeGap : kp_Met layC 0 yX1_closeGap cX1_closeGap 3 none (pr_X1_closeGap) (po_X1_closeGap) := by
  refine kp_met (N := 40) (by decide) tk_X1_closeGap gk_X1 pk_X1 (mk_X1_closeGap) rfl (iv_X1_closeGap) ?_ ?_
  · rintro As σ ⟨p, rfl, hp⟩
    refine ⟨⟨rfl, Nat.le_of_ble_eq_true rfl⟩, v_X1_closeGap p σ ?_⟩
    obtain ⟨z, q, h1, h2, rfl, h3⟩ := hp
    exact ⟨z - q, rfl, rfl, z, q, q, h1, h2, rfl, by omega, h3, rfl, rfl, fr_up fr_rf (by decide), by rw [up_s, h1, pk_sub (by omega)], by rw [up_c (by decide), shD_0], by rw [up_c (by decide), shD_0]⟩
  · rintro As σ ⟨p, rfl, hp⟩ n pc ls st τ hI
    obtain ⟨rfl, rfl, z, q, i, h1, h2, hAs, h3, h4, rfl, rfl, h5, h8, h6, h7⟩ := hI
    cases hAs
    refine v_X1_closeGap_12 _ _ τ ?_
    rw [h8, nI_ltI (by omega) (by omega)]
    refine ⟨fun g1 => ?_, fun g1 => ?_⟩
    · have : i = z - 1 := by omega
      subst this
      refine ⟨h5, ?_, ?_, ?_⟩
      · rw [h8, h1, pk_sub (by omega)]
      · rw [h6, tn_nI (by omega), h1, tn_nI (by omega)]
      · rw [h7, tn_nI (by omega), h1, tn_nI (by omega)]
    · rw [nI_add, nI_clamp (show i < 2 ^ 31 by omega), nI_clamp (show i + 1 < 2 ^ 31 by omega), kp_in (by omega), kp_in (by omega)]
      refine ⟨by omega, by omega, by omega, by omega, z - (i + 1), by omega, rfl, rfl, z, q, i + 1, h1, h2, rfl, by omega, by omega, rfl, rfl, ?_, ?_, ?_, ?_⟩
      · exact fr_up (fr_up h5 (by decide)) (by decide)
      · rw [up_c (by decide), up_c (by decide), h8]
      · rw [up_c (by decide), kp_up_eq, h6]; exact shD_s h3
      · rw [kp_up_eq, up_c (by decide), h7]; exact shD_s h3
def szp (z : Nat) (m0 c : Int32) : Nat := if c = -1 then (if m0 = -1 then z else z - 1) else (if m0 = -1 then z + 1 else z)
def pr_X1_put : SPre := fun As σ => ∃ key : Int32, ∃ c : Int32, As = [.ref 4, .int key, .int c] ∧ (bOK (σ 5) (σ 6) (σ 4 2) ∧ (∃ k : Nat, key = nI k ∧ keyOK k) ∧ (c = -1 ∨ ∃ v : Nat, v ≤ 40 ∧ c = nI v) ∧ (c ≠ -1 → mpC (σ 5) (σ 6) (σ 4 2) (tn key) = -1 → tn (σ 4 2) < 120))
def po_X1_put : SPost := fun As σ r τ => match As with
  | [.ref _, .int key, .int c] => (bOK (τ 5) (τ 6) (τ 4 2) ∧ fr [4, 5, 6] σ τ ∧ (∀ k, mpC (τ 5) (τ 6) (τ 4 2) k = if k = tn key then c else mpC (σ 5) (σ 6) (σ 4 2) k) ∧ tn (τ 4 2) = szp (tn (σ 4 2)) (mpC (σ 5) (σ 6) (σ 4 2) (tn key)) c)
  | _ => True
def ms_X1_put : List Me := [(23, 0, 1, 1, true, pr_X1_place, po_X1_place), (27, 0, 1, 2, true, pr_X1_isAt, po_X1_isAt), (31, 0, 1, 1, false, pr_X1_closeGap, po_X1_closeGap), (35, 0, 1, 1, false, pr_X1_openGap, po_X1_openGap)]
theorem mk_X1_put : ∀ q ∈ ms_X1_put, kp_okM layC RX1 1 q := List.forall_mem_cons.mpr ⟨Or.inl ⟨0, yX1_place, cX1_place, 6, (some .int), c_X1_place, by omega, by decide, rfl, lk_X1_23⟩, List.forall_mem_cons.mpr ⟨Or.inl ⟨0, yX1_isAt, cX1_isAt, 3, (some .boolean), c_X1_isAt, by omega, by decide, rfl, lk_X1_27⟩, List.forall_mem_cons.mpr ⟨Or.inl ⟨0, yX1_closeGap, cX1_closeGap, 3, none, c_X1_closeGap, by omega, by decide, rfl, lk_X1_31⟩, List.forall_mem_cons.mpr ⟨Or.inl ⟨0, yX1_openGap, cX1_openGap, 3, none, c_X1_openGap, by omega, by decide, rfl, lk_X1_35⟩, fun _ h => absurd h List.not_mem_nil⟩⟩⟩⟩
set_option maxRecDepth 100000 in
theorem v_X1_put {J : Nat → Lcl → List Value → Sg → Prop} {Q : Int32 → Sg → Prop} (key c : Int32) (σ : Sg) (h : pr_X1_place [.ref 4, .int key] σ ∧ ∀ (x2 : Int32) (τ1 : Sg), po_X1_place [.ref 4, .int key] σ x2 τ1 → (pr_X1_isAt [.ref 4, .int x2, .int key] τ1 ∧ ∀ (x4 : Int32) (τ3 : Sg), po_X1_isAt [.ref 4, .int x2, .int key] τ1 x4 τ3 → ((¬ c = (-1) → (¬ x4 = (nI 0) → vp_in x2 120 ∧ (Q (nI 0) (kp_up τ3 6 (x2).toNatClampNeg c))) ∧ (x4 = (nI 0) → ((τ3 4 2) < (nI 120) → pr_X1_openGap [.ref 4, .int x2] τ3 ∧ ∀ (τ5 : Sg), po_X1_openGap [.ref 4, .int x2] τ3 (nI 0) τ5 → (vp_in x2 120 ∧ (vp_in x2 120 ∧ (Q (nI 0) (kp_up (kp_up τ5 5 (x2).toNatClampNeg key) 6 (x2).toNatClampNeg c))))) ∧ (¬ (τ3 4 2) < (nI 120) → Q (nI 0) τ3))) ∧ (c = (-1) → (x4 = (nI 0) → Q (nI 0) τ3) ∧ (¬ x4 = (nI 0) → pr_X1_closeGap [.ref 4, .int x2] τ3 ∧ ∀ (τ6 : Sg), po_X1_closeGap [.ref 4, .int x2] τ3 (nI 0) τ6 → (Q (nI 0) τ6)))))) : kp_T layC gl_X1 pl_X1 (ms_X1_put) tb_X1_put (kp_rk none) J Q 44 tb_X1_put (kp_en [.ref 4, .int key, .int c] 5) [] σ := h
set_option maxRecDepth 100000 in
set_option maxHeartbeats 4000000 in
theorem c_X1_put : kp_Met layC 1 yX1_put cX1_put 5 none (pr_X1_put) (po_X1_put) := by
  refine kp_met (N := 44) (by decide) tk_X1_put gk_X1 pk_X1 (mk_X1_put) rfl (fun _ _ _ _ _ _ _ => False) ?_ (fun _ _ _ _ _ _ _ _ h => h.elim)
  rintro As σ ⟨key, c, rfl, hp⟩
  refine ⟨⟨rfl, Nat.le_of_ble_eq_true rfl⟩, v_X1_put key c σ ?_⟩
  obtain ⟨hbo, ⟨k, rfl, hk⟩, hc, hroom⟩ := hp
  have hkl := keyOK_lt hk
  obtain ⟨z, hz, h1, h2, h3⟩ := id hbo
  have e1 : tn (σ 4 2) = z := by rw [hz, tn_nI (by omega)]
  have ek : tn (nI k) = k := tn_nI (by omega)
  rw [ek, e1] at hroom
  refine ⟨⟨4, _, rfl, Or.inl rfl, hbo, k, rfl, by omega⟩, ?_⟩
  rintro x2 τ1 ⟨rfl, p, rfl, h4, h5, h6⟩
  rw [ek] at h5 h6
  rw [e1] at h4 h6
  simp only [Nat.reduceAdd] at h5 h6
  refine ⟨⟨4, _, _, rfl, Or.inl rfl, ⟨z, hz, h1⟩, p, rfl, by omega⟩, ?_⟩
  rintro x4 τ3 ⟨rfl, rfl⟩
  have ep : tn (nI p) = p := tn_nI (by omega)
  have hinj : ∀ a b, a < z → b < z → tn (τ3 5 a) = tn (τ3 5 b) → a = b := srt_inj (f := fun i => tn (τ3 5 i)) h3
  have hM : ∀ j, mpC (τ3 5) (τ3 6) (τ3 4 2) j = lk (fun i => tn (τ3 5 i)) (τ3 6) z j := fun j => by unfold mpC; rw [e1]
  have habs : ¬ (p < z ∧ τ3 5 p = nI k) → ∀ i, i < z → tn (τ3 5 i) ≠ k := by
    intro q1 i hi e
    by_cases hip : i < p
    · have := h5 i hip; omega
    · by_cases hi2 : i = p
      · subst hi2; exact q1 ⟨hi, by rw [(h2 i hi).1, e]⟩
      · have a1 := h6 p (by omega) (by omega)
        have a2 := h3 p i (by omega) hi
        omega
  rw [bI_0, e1, ep]
  show _ ∧ _
  have hcl : (nI p).toNatClampNeg = p := nI_clamp (by omega)
  rw [hcl, hz, nI_ltI (by omega) (by omega)]
  refine ⟨fun q1 => ⟨fun q2 => ?_, fun q2 => ⟨fun q3 => ?_, fun q3 => ?_⟩⟩, fun q1 => ⟨fun q2 => ?_, fun q2 => ?_⟩⟩
  · -- there, another command
    have q2 := of_decide_eq_true (show decide _ = true by simpa using q2)
    obtain ⟨v, hv, rfl⟩ := hc.resolve_left q1
    have hkp : tn (τ3 5 p) = k := by rw [q2.2, ek]
    have hset : ∀ k', lk (fun i => tn (τ3 5 i)) (upd (τ3 6) p (nI v)) z k' = if k' = k then nI v else lk (fun i => tn (τ3 5 i)) (τ3 6) z k' := by
      intro k'
      rw [lk_set (ks := fun i => tn (τ3 5 i)) (cs := τ3 6) q2.1 hinj (fun i hi => by simp [upd, hi]) (show upd (τ3 6) p (nI v) p = nI v by simp [upd])]
      simp only [hkp]
    refine ⟨(kp_in (by omega)).mpr (by omega), ?_, fr_up fr_rf (by decide), ?_, ?_⟩
    · simp (disch := decide) only [up_c, kp_up_eq, pk_us, pk_un]
      refine ⟨z, hz, h1, fun i hi => ⟨(h2 i hi).1, (h2 i hi).2.1, ?_⟩, h3⟩
      by_cases e : i = p
      · exact ⟨v, hv, by simp [upd, e]⟩
      · obtain ⟨w, hw, ew⟩ := (h2 i hi).2.2
        exact ⟨w, hw, by simp [upd, e, ew]⟩
    · intro k'
      simp (disch := decide) only [up_c, kp_up_eq, pk_us, pk_un]
      rw [ek]
      unfold mpC
      rw [e1]
      exact hset k'
    · rw [up_c (by decide), e1]
      have : mpC (τ3 5) (τ3 6) (τ3 4 2) (tn (nI k)) ≠ -1 := by
        rw [ek, hM, ← hkp, lk_at (ks := fun i => tn (τ3 5 i)) hinj q2.1]
        obtain ⟨w, hw, ew⟩ := (h2 p q2.1).2.2
        rw [ew]; exact nI_m1 (by omega)
      unfold szp
      rw [if_neg q1, if_neg this]
  · -- new
    have q2 := of_decide_eq_false q2
    have hab := habs q2
    obtain ⟨v, hv, rfl⟩ := hc.resolve_left q1
    refine ⟨⟨_, rfl, z, p, hz, q3, rfl, h4⟩, ?_⟩
    rintro τ5 ⟨f1, f2, f3, f4⟩
    rw [ep, e1] at f3 f4
    rw [hz, nI_add] at f2
    have hkb : ∀ i, i < p → upd (τ5 5) p (nI k) i = τ3 5 i := fun i hi => by simp only [upd]; rw [if_neg (by omega), f3]; simp only [shU]; rw [if_pos (by omega)]
    have hcb : ∀ i, i < p → upd (τ5 6) p (nI v) i = τ3 6 i := fun i hi => by simp only [upd]; rw [if_neg (by omega), f4]; simp only [shU]; rw [if_pos (by omega)]
    have hka : ∀ i, p ≤ i → i < z → upd (τ5 5) p (nI k) (i + 1) = τ3 5 i := fun i hi hz' => by simp only [upd]; rw [if_neg (by omega), f3]; simp only [shU]; rw [if_neg (by omega), if_pos (by omega), Nat.add_sub_cancel]
    have hca : ∀ i, p ≤ i → i < z → upd (τ5 6) p (nI v) (i + 1) = τ3 6 i := fun i hi hz' => by simp only [upd]; rw [if_neg (by omega), f4]; simp only [shU]; rw [if_neg (by omega), if_pos (by omega), Nat.add_sub_cancel]
    have hkp : upd (τ5 5) p (nI k) p = nI k := by simp [upd]
    have hcp : upd (τ5 6) p (nI v) p = nI v := by simp [upd]
    have hsrt : ∀ i j, i < j → j < z + 1 → tn (upd (τ5 5) p (nI k) i) < tn (upd (τ5 5) p (nI k) j) := by
      intro i j hij hj
      rcases Nat.lt_trichotomy j p with a | a | a
      · rw [hkb i (by omega), hkb j a]; exact h3 i j hij (by omega)
      · subst a; rw [hkb i hij, hkp, ek]; exact h5 i hij
      · obtain ⟨j, rfl⟩ : ∃ j', j = j' + 1 := ⟨j - 1, by omega⟩
        rw [hka j (by omega) (by omega)]
        rcases Nat.lt_trichotomy i p with b | b | b
        · rw [hkb i b]; exact h3 i j (by omega) (by omega)
        · subst b
          rw [hkp, ek]
          have a1 := h6 j (by omega) (by omega)
          have a2 := hab j (by omega)
          omega
        · obtain ⟨i, rfl⟩ : ∃ i', i = i' + 1 := ⟨i - 1, by omega⟩
          rw [hka i (by omega) (by omega)]; exact h3 i j (by omega) (by omega)
    have hcell : ∀ i, i < z + 1 → (upd (τ5 5) p (nI k) i = nI (tn (upd (τ5 5) p (nI k) i)) ∧ keyOK (tn (upd (τ5 5) p (nI k) i)) ∧ ∃ w : Nat, w ≤ 40 ∧ upd (τ5 6) p (nI v) i = nI w) := by
      intro i hi
      rcases Nat.lt_trichotomy i p with a | a | a
      · rw [hkb i a, hcb i a]; exact h2 i (by omega)
      · subst a; rw [hkp, hcp, ek]; exact ⟨rfl, hk, v, hv, rfl⟩
      · obtain ⟨i, rfl⟩ : ∃ i', i = i' + 1 := ⟨i - 1, by omega⟩
        rw [hka i (by omega) (by omega), hca i (by omega) (by omega)]; exact h2 i (by omega)
    have g5 : kp_up (kp_up τ5 5 p (nI k)) 6 p (nI v) 5 = upd (τ5 5) p (nI k) := by rw [up_c (by decide), kp_up_eq]
    have g6 : kp_up (kp_up τ5 5 p (nI k)) 6 p (nI v) 6 = upd (τ5 6) p (nI v) := by rw [kp_up_eq, up_c (by decide)]
    have g4 : kp_up (kp_up τ5 5 p (nI k)) 6 p (nI v) 4 2 = nI (z + 1) := by rw [up_c (by decide), up_c (by decide), f2]
    refine ⟨(kp_in (by omega)).mpr (by omega), (kp_in (by omega)).mpr (by omega), ?_, fr_up (fr_up f1 (by decide)) (by decide), ?_, ?_⟩
    · rw [g5, g6, g4]
      exact ⟨z + 1, rfl, by omega, hcell, hsrt⟩
    · intro k'
      rw [g5, g6, g4, hM, ek]
      unfold mpC
      rw [tn_nI (by omega)]
      exact lk_ins h4 hinj (srt_inj hsrt) (fun i hi => ⟨by rw [hkb i hi], hcb i hi⟩) ⟨by rw [hkp, ek], hcp⟩ (fun i a b => ⟨by rw [hka i a b], hca i a b⟩) k'
    · rw [g4, tn_nI (by omega), e1]
      have : mpC (τ3 5) (τ3 6) (τ3 4 2) (tn (nI k)) = -1 := by rw [ek, hM]; exact lk_none hab
      unfold szp
      rw [if_neg q1, if_pos this]
  · -- no room: not so
    have q2 := of_decide_eq_false q2
    exact absurd (hroom q1 (by rw [hM]; exact lk_none (habs q2))) q3
  · -- nothing there, nothing to be
    have q2 := of_decide_eq_false q2
    subst q1
    have hnone : mpC (τ3 5) (τ3 6) (τ3 4 2) k = -1 := by rw [hM]; exact lk_none (habs q2)
    refine ⟨hbo, fr_rf, fun k' => ?_, ?_⟩
    · rw [ek]
      by_cases e : k' = k
      · rw [if_pos e, e, hnone]
      · rw [if_neg e]
    · unfold szp
      rw [if_pos rfl, ek, if_pos hnone]
  · -- taken out
    have q2 := of_decide_eq_true (show decide _ = true by simpa using q2)
    subst q1
    have hkp : tn (τ3 5 p) = k := by rw [q2.2, ek]
    refine ⟨⟨_, rfl, z, p, hz, h1, rfl, q2.1⟩, ?_⟩
    rintro τ6 ⟨f1, f2, f3, f4⟩
    rw [ep, e1] at f3 f4
    rw [hz, pk_sub (by omega)] at f2
    have hb5 : ∀ i, i < p → τ6 5 i = τ3 5 i ∧ τ6 6 i = τ3 6 i := fun i hi => by rw [f3, f4]; simp only [shD]; rw [if_neg (by omega), if_neg (by omega)]; exact ⟨rfl, rfl⟩
    have ha5 : ∀ i, p ≤ i → i + 1 < z → τ6 5 i = τ3 5 (i + 1) ∧ τ6 6 i = τ3 6 (i + 1) := fun i hi hz' => by rw [f3, f4]; simp only [shD]; rw [if_pos (by omega), if_pos (by omega)]; exact ⟨rfl, rfl⟩
    have hsrt : ∀ i j, i < j → j < z - 1 → tn (τ6 5 i) < tn (τ6 5 j) := by
      intro i j hij hj
      by_cases a : j < p
      · rw [(hb5 i (by omega)).1, (hb5 j a).1]; exact h3 i j hij (by omega)
      · rw [(ha5 j (by omega) (by omega)).1]
        by_cases b : i < p
        · rw [(hb5 i b).1]; exact h3 i (j + 1) (by omega) (by omega)
        · rw [(ha5 i (by omega) (by omega)).1]; exact h3 (i + 1) (j + 1) (by omega) (by omega)
    refine ⟨?_, f1, ?_, ?_⟩
    · rw [f2]
      refine ⟨z - 1, rfl, by omega, fun i hi => ?_, hsrt⟩
      by_cases a : i < p
      · rw [(hb5 i a).1, (hb5 i a).2]; exact h2 i (by omega)
      · rw [(ha5 i (by omega) (by omega)).1, (ha5 i (by omega) (by omega)).2]; exact h2 (i + 1) (by omega)
    · intro k'
      rw [f2, hM, ek]
      unfold mpC
      rw [tn_nI (by omega)]
      have := lk_del (ks := fun i => tn (τ3 5 i)) (ks' := fun i => tn (τ6 5 i)) (cs := τ3 6) (cs' := τ6 6) q2.1 hinj (srt_inj hsrt) (fun i hi => ⟨by rw [(hb5 i hi).1], (hb5 i hi).2⟩) (fun i a b => ⟨by rw [(ha5 i a b).1], (ha5 i a b).2⟩) k'
      rw [this]
      simp only [hkp]
    · rw [f2, tn_nI (by omega)]
      have : mpC (τ3 5) (τ3 6) (τ3 4 2) (tn (nI k)) ≠ -1 := by
        rw [ek, hM, ← hkp, lk_at (ks := fun i => tn (τ3 5 i)) hinj q2.1]
        obtain ⟨w, hw, ew⟩ := (h2 p q2.1).2.2
        rw [ew]; exact nI_m1 (by omega)
      unfold szp
      rw [if_pos rfl, if_neg this, e1]
def pr_X1_copyFrom : SPre := fun As σ => ∃ b : Nat, ∃ d : Nat, As = [.ref b, .ref d] ∧ (b = 4 ∧ d = 7 ∨ b = 7 ∧ d = 4) ∧ (∃ z : Nat, σ d 2 = nI z ∧ z ≤ 120)
def po_X1_copyFrom : SPost := fun As σ r τ => match As with
  | [.ref b, .ref d] => (fr [b, b + 1, b + 2] σ τ ∧ τ b 2 = σ d 2 ∧ ∀ j, j < tn (σ d 2) → τ (b + 1) j = σ (d + 1) j ∧ τ (b + 2) j = σ (d + 2) j)
  | _ => True
def ms_X1_copyFrom : List Me := []
theorem mk_X1_copyFrom : ∀ q ∈ ms_X1_copyFrom, kp_okM layC RX1 0 q := fun _ h => absurd h List.not_mem_nil
set_option maxRecDepth 100000 in
theorem v_X1_copyFrom {J : Nat → Lcl → List Value → Sg → Prop} {Q : Int32 → Sg → Prop} (b : Nat) (d : Nat) (hb : b = 4 ∧ d = 7 ∨ b = 7 ∧ d = 4)  (σ : Sg) (h : J 2 [some (.ref b), some (.ref d), some (.int (nI 0))] [] σ) : kp_T layC gl_X1 pl_X1 (ms_X1_copyFrom) tb_X1_copyFrom (kp_rk none) J Q 34 tb_X1_copyFrom (kp_en [.ref b, .ref d] 3) [] σ := by rcases hb with ⟨rfl, rfl⟩ | ⟨rfl, rfl⟩ <;> exact h
set_option maxRecDepth 100000 in
theorem v_X1_copyFrom_2 {J : Nat → Lcl → List Value → Sg → Prop} {Q : Int32 → Sg → Prop} (b : Nat) (d : Nat) (hb : b = 4 ∧ d = 7 ∨ b = 7 ∧ d = 4) (i : Int32) (σ : Sg) (h : (¬ i < (σ d 2) → Q (nI 0) (kp_up σ b 2 (σ d 2))) ∧ (i < (σ d 2) → vp_in i 120 ∧ (vp_in i 120 ∧ (vp_in i 120 ∧ (vp_in i 120 ∧ (J 2 [some (.ref b), some (.ref d), some (.int (i + nI 1))] [] (kp_up (kp_up σ (b + 1) (i).toNatClampNeg (σ (d + 1) (i).toNatClampNeg)) (b + 2) (i).toNatClampNeg ((kp_up σ (b + 1) (i).toNatClampNeg (σ (d + 1) (i).toNatClampNeg)) (d + 2) (i).toNatClampNeg)))))))) : kp_T1 layC gl_X1 pl_X1 (ms_X1_copyFrom) tb_X1_copyFrom (kp_rk none) J Q 34 2 [some (.ref b), some (.ref d), some (.int i)] [] σ := by rcases hb with ⟨rfl, rfl⟩ | ⟨rfl, rfl⟩ <;> exact h
abbrev iv_X1_copyFrom : List Value → Sg → Nat → Nat → Lcl → List Value → Sg → Prop := fun As σ n pc ls st τ => pc = 2 ∧ st = [] ∧ ∃ b d z i : Nat, (b = 4 ∧ d = 7 ∨ b = 7 ∧ d = 4) ∧ As = [.ref b, .ref d] ∧ ls = [some (.ref b), some (.ref d), some (.int (nI i))] ∧ σ d 2 = nI z ∧ z ≤ 120 ∧ i ≤ z ∧ n = z - i ∧ fr [b + 1, b + 2] σ τ ∧ (∀ j, j < i → τ (b + 1) j = σ (d + 1) j ∧ τ (b + 2) j = σ (d + 2) j)
set_option maxRecDepth 100000 in
set_option maxHeartbeats 4000000 in
theorem c_X1_copyFrom : kp_Met layC 0 yX1_copyFrom cX1_copyFrom 3 none (pr_X1_copyFrom) (po_X1_copyFrom) := by
  refine kp_met (N := 34) (by decide) tk_X1_copyFrom gk_X1 pk_X1 (mk_X1_copyFrom) rfl (iv_X1_copyFrom) ?_ ?_
  · rintro As σ ⟨b, d, rfl, hb, hp⟩
    refine ⟨⟨rfl, Nat.le_of_ble_eq_true rfl⟩, v_X1_copyFrom b d hb σ ?_⟩
    obtain ⟨z, h1, h2⟩ := hp
    exact ⟨z, rfl, rfl, b, d, z, 0, hb, rfl, rfl, h1, h2, by omega, by omega, fr_rf, fun j hj => by omega⟩
  · rintro As σ ⟨b, d, rfl, hb, hp⟩ n pc ls st τ hI
    obtain ⟨rfl, rfl, b', d', z, i, hb', hAs, rfl, h1, h2, h3, rfl, h5, h6⟩ := hI
    cases hAs
    have gd : τ d = σ d := h5 d (by simp; omega)
    have gd1 : τ (d + 1) = σ (d + 1) := h5 (d + 1) (by simp; omega)
    have gd2 : τ (d + 2) = σ (d + 2) := h5 (d + 2) (by simp; omega)
    refine v_X1_copyFrom_2 b d hb _ τ ?_
    rw [gd, h1, nI_ltI (by omega) (by omega)]
    refine ⟨fun g1 => ?_, fun g1 => ?_⟩
    · have : i = z := by omega
      subst this
      refine ⟨?_, ?_, fun j hj => ?_⟩
      · exact fr_up (fr_mono h5 (by simp)) (by simp)
      · rw [up_s, h1]
      · rw [h1, tn_nI (by omega)] at hj
        rw [up_c (by omega), up_c (by omega)]
        exact h6 j hj
    · rw [nI_clamp (show i < 2 ^ 31 by omega), kp_in (by omega), nI_add]
      refine ⟨by omega, by omega, by omega, by omega, z - (i + 1), by omega, rfl, rfl, b, d, z, i + 1, hb, rfl, rfl, h1, h2, by omega, rfl, ?_, fun j hj => ?_⟩
      · exact fr_up (fr_up h5 (by simp)) (by simp)
      · rw [up_c (show b + 1 ≠ b + 2 by omega), up_c (show d + 2 ≠ b + 1 by omega), gd1, gd2]
        by_cases e : j = i
        · subst e
          rw [up_s, up_s]
          exact ⟨rfl, rfl⟩
        · rw [up_n e, up_n e, up_c (show b + 2 ≠ b + 1 by omega)]
          exact h6 j (by omega)
end
section
/-! what two maps have otherwise: KeyPlan$Bindings.differences -/
/-- the keys g 0 .. g (f - 1), rising, are just those that M and K have otherwise -/
def isD (g : Nat → Int32) (f : Nat) (M K : Nat → Int32) : Prop := (∀ i, i < f → g i = nI (tn (g i))) ∧ (∀ i j, i < j → j < f → tn (g i) < tn (g j)) ∧ ∀ k, M k ≠ K k ↔ ∃ i, i < f ∧ tn (g i) = k
def df_P (a : Nat → Nat) (m : Nat) (b : Nat → Nat) (t : Nat) (k : Nat) : Prop := (∃ p, p < m ∧ a p = k) ∨ ∃ q, q < t ∧ b q = k
def df_I (a : Nat → Nat) (zA : Nat) (b : Nat → Nat) (zB : Nat) (M K g : Nat → Int32) (f m t : Nat) : Prop :=
  m ≤ zA ∧ t ≤ zB ∧ (∀ i j, i < m → t ≤ j → j < zB → a i < b j) ∧ (∀ i j, m ≤ i → i < zA → j < t → b j < a i) ∧
  (∀ i, i < f → g i = nI (tn (g i)) ∧ df_P a m b t (tn (g i))) ∧ (∀ i j, i < j → j < f → tn (g i) < tn (g j)) ∧ ∀ k, df_P a m b t k → (M k ≠ K k ↔ ∃ i, i < f ∧ tn (g i) = k)
def df_hm (a : Nat → Nat) (zA : Nat) (b : Nat → Nat) (zB m t : Nat) : Bool := decide (m < zA ∧ (zB ≤ t ∨ a m ≤ b t))
def df_ht (a : Nat → Nat) (zA : Nat) (b : Nat → Nat) (zB m t : Nat) : Bool := decide (t < zB ∧ (zA ≤ m ∨ b t ≤ a m))
/-- one step of the walk over both -/
theorem df_step {a : Nat → Nat} {zA : Nat} {b : Nat → Nat} {zB : Nat} {M K g g' : Nat → Int32} {f f' m t m' t' k0 : Nat} (hA : ∀ i j, i < j → j < zA → a i < a j) (hB : ∀ i j, i < j → j < zB → b i < b j)
    (h : df_I a zA b zB M K g f m t) (hm' : m ≤ m') (ht' : t ≤ t') (hmA : m' ≤ zA) (htB : t' ≤ zB)
    (hlo : ∀ k, df_P a m b t k → k < k0) (hP : ∀ k, df_P a m' b t' k ↔ df_P a m b t k ∨ k = k0)
    (hs1 : ∀ i j, i < m' → t' ≤ j → j < zB → a i < b j) (hs2 : ∀ i j, m' ≤ i → i < zA → j < t' → b j < a i) (hk0 : k0 < 2 ^ 31)
    (hg : (M k0 = K k0 ∧ f' = f ∧ g' = g) ∨ (M k0 ≠ K k0 ∧ f' = f + 1 ∧ g' = upd g f (nI k0))) : df_I a zA b zB M K g' f' m' t' := by
  obtain ⟨h1, h2, h3, h4, h5, h6, h7⟩ := h
  rcases hg with ⟨e, rfl, rfl⟩ | ⟨e, rfl, rfl⟩
  · refine ⟨hmA, htB, hs1, hs2, fun i hi => ⟨(h5 i hi).1, (hP _).mpr (Or.inl (h5 i hi).2)⟩, h6, fun k hk => ?_⟩
    rcases (hP k).mp hk with q | q
    · exact h7 k q
    · subst q
      refine ⟨fun z => absurd e z, fun ⟨i, hi, ei⟩ => ?_⟩
      have := hlo _ (h5 i hi).2
      omega
  · have gn : ∀ i, i < f → upd g f (nI k0) i = g i := fun i hi => by simp only [upd]; rw [if_neg (by omega)]
    have gf : upd g f (nI k0) f = nI k0 := by simp [upd]
    refine ⟨hmA, htB, hs1, hs2, fun i hi => ?_, fun i j hij hj => ?_, fun k hk => ?_⟩
    · by_cases q : i = f
      · subst q
        rw [gf, tn_nI hk0]
        exact ⟨rfl, (hP _).mpr (Or.inr rfl)⟩
      · rw [gn i (by omega)]
        exact ⟨(h5 i (by omega)).1, (hP _).mpr (Or.inl (h5 i (by omega)).2)⟩
    · rw [gn i (by omega)]
      by_cases q : j = f
      · subst q
        rw [gf, tn_nI hk0]
        exact hlo _ (h5 i (by omega)).2
      · rw [gn j (by omega)]
        exact h6 i j hij (by omega)
    · by_cases q : k = k0
      · subst q
        exact ⟨fun _ => ⟨f, by omega, by rw [gf, tn_nI hk0]⟩, fun _ => e⟩
      · have hk := ((hP k).mp hk).resolve_right q
        rw [h7 k hk]
        constructor
        · rintro ⟨i, hi, ei⟩
          exact ⟨i, by omega, by rw [gn i hi]; exact ei⟩
        · rintro ⟨i, hi, ei⟩
          by_cases z : i = f
          · subst z
            rw [gf, tn_nI hk0] at ei
            exact absurd ei.symm q
          · rw [gn i (by omega)] at ei
            exact ⟨i, by omega, ei⟩
theorem df_P_s {a b : Nat → Nat} {m t k : Nat} : df_P a (m + 1) b t k ↔ df_P a m b t k ∨ k = a m := by
  unfold df_P
  constructor
  · rintro (⟨p, hp, e⟩ | h)
    · by_cases q : p = m
      · subst q; exact Or.inr e.symm
      · exact Or.inl (Or.inl ⟨p, by omega, e⟩)
    · exact Or.inl (Or.inr h)
  · rintro ((⟨p, hp, e⟩ | h) | h)
    · exact Or.inl ⟨p, by omega, e⟩
    · exact Or.inr h
    · exact Or.inl ⟨m, by omega, h.symm⟩
theorem df_P_t {a b : Nat → Nat} {m t k : Nat} : df_P a m b (t + 1) k ↔ df_P a m b t k ∨ k = b t := by
  unfold df_P
  constructor
  · rintro (h | ⟨p, hp, e⟩)
    · exact Or.inl (Or.inl h)
    · by_cases q : p = t
      · subst q; exact Or.inr e.symm
      · exact Or.inl (Or.inr ⟨p, by omega, e⟩)
  · rintro ((h | ⟨p, hp, e⟩) | h)
    · exact Or.inl h
    · exact Or.inr ⟨p, by omega, e⟩
    · exact Or.inr ⟨t, by omega, h.symm⟩
/-- mine alone -/
theorem df_mine {a : Nat → Nat} {zA : Nat} {b : Nat → Nat} {zB : Nat} {M K g : Nat → Int32} {f m t : Nat} (hA : ∀ i j, i < j → j < zA → a i < a j) (hB : ∀ i j, i < j → j < zB → b i < b j) (hk : a m < 2 ^ 31) (h : df_I a zA b zB M K g f m t) (h1 : df_hm a zA b zB m t = true) (h2 : df_ht a zA b zB m t = false) (hM : M (a m) ≠ K (a m)) : df_I a zA b zB M K (upd g f (nI (a m))) (f + 1) (m + 1) t := by
  have h1 := of_decide_eq_true h1
  have h2 := of_decide_eq_false h2
  obtain ⟨i1, i2, i3, i4, -⟩ := id h
  refine df_step hA hB h (by omega) (by omega) (by omega) (by omega) (fun k hk => ?_) (fun k => df_P_s) (fun i j hi hj hz => ?_) (fun i j hi hz hj => ?_) hk (Or.inr ⟨hM, rfl, rfl⟩)
  · rcases hk with ⟨p, hp, rfl⟩ | ⟨q, hq, rfl⟩
    · exact hA p m hp h1.1
    · exact i4 m q (by omega) h1.1 hq
  · by_cases q : i = m
    · subst q
      have a1 : a i < b t := by omega
      by_cases z : j = t
      · subst z; exact a1
      · have := hB t j (by omega) hz; omega
    · exact i3 i j (by omega) hj hz
  · exact i4 i j (by omega) hz hj
/-- theirs alone -/
theorem df_their {a : Nat → Nat} {zA : Nat} {b : Nat → Nat} {zB : Nat} {M K g : Nat → Int32} {f m t : Nat} (hA : ∀ i j, i < j → j < zA → a i < a j) (hB : ∀ i j, i < j → j < zB → b i < b j) (hk : b t < 2 ^ 31) (h : df_I a zA b zB M K g f m t) (h1 : df_hm a zA b zB m t = false) (h2 : df_ht a zA b zB m t = true) (hM : M (b t) ≠ K (b t)) : df_I a zA b zB M K (upd g f (nI (b t))) (f + 1) m (t + 1) := by
  have h1 := of_decide_eq_false h1
  have h2 := of_decide_eq_true h2
  obtain ⟨i1, i2, i3, i4, -⟩ := id h
  refine df_step hA hB h (by omega) (by omega) (by omega) (by omega) (fun k hk => ?_) (fun k => df_P_t) (fun i j hi hj hz => ?_) (fun i j hi hz hj => ?_) hk (Or.inr ⟨hM, rfl, rfl⟩)
  · rcases hk with ⟨p, hp, rfl⟩ | ⟨q, hq, rfl⟩
    · exact i3 p t hp (by omega) h2.1
    · exact hB q t hq h2.1
  · exact i3 i j hi (by omega) hz
  · by_cases q : j = t
    · subst q
      have a1 : b j < a m := by omega
      by_cases z : i = m
      · subst z; exact a1
      · have := hA m i (by omega) hz; omega
    · exact i4 i j hi hz (by omega)
/-- both -/
theorem df_both {a : Nat → Nat} {zA : Nat} {b : Nat → Nat} {zB : Nat} {M K g g' : Nat → Int32} {f f' m t : Nat} (hA : ∀ i j, i < j → j < zA → a i < a j) (hB : ∀ i j, i < j → j < zB → b i < b j) (hk : a m < 2 ^ 31) (h : df_I a zA b zB M K g f m t) (h1 : df_hm a zA b zB m t = true) (h2 : df_ht a zA b zB m t = true) (hg : (M (a m) = K (a m) ∧ f' = f ∧ g' = g) ∨ (M (a m) ≠ K (a m) ∧ f' = f + 1 ∧ g' = upd g f (nI (a m)))) : df_I a zA b zB M K g' f' (m + 1) (t + 1) := by
  have h1 := of_decide_eq_true h1
  have h2 := of_decide_eq_true h2
  have he : a m = b t := by omega
  obtain ⟨i1, i2, i3, i4, -⟩ := id h
  refine df_step hA hB h (by omega) (by omega) (by omega) (by omega) (fun k hk => ?_) (fun k => ?_) (fun i j hi hj hz => ?_) (fun i j hi hz hj => ?_) hk hg
  · rcases hk with ⟨p, hp, rfl⟩ | ⟨q, hq, rfl⟩
    · exact hA p m hp h1.1
    · exact i4 m q (by omega) h1.1 hq
  · rw [df_P_t, df_P_s, ← he]
    constructor
    · rintro ((h | h) | h)
      · exact Or.inl h
      · exact Or.inr h
      · exact Or.inr h
    · rintro (h | h)
      · exact Or.inl (Or.inl h)
      · exact Or.inr h
  · have := hB t j (by omega) hz
    by_cases q : i = m
    · subst q; omega
    · have := hA i m (by omega) h1.1; omega
  · have := hA m i (by omega) hz
    by_cases q : j = t
    · subst q; omega
    · have := hB j t (by omega) h2.1; omega
theorem df_one {a : Nat → Nat} {zA : Nat} {b : Nat → Nat} {zB m t : Nat} (h : m < zA ∨ t < zB) (hf : df_hm a zA b zB m t = false) : df_ht a zA b zB m t = true := by
  have := of_decide_eq_false hf
  exact decide_eq_true (by omega)
end
section
abbrev dfA (σ : Sg) : Nat → Nat := fun i => tn (σ 5 i)
abbrev dfB (σ : Sg) : Nat → Nat := fun i => tn (σ 8 i)
abbrev mC (σ : Sg) : Nat → Int32 := mpC (σ 5) (σ 6) (σ 4 2)
abbrev kC (σ : Sg) : Nat → Int32 := mpC (σ 8) (σ 9) (σ 7 2)
abbrev dfL (zA zB f m t s : Nat) (o8 o9 o10 : Option Value) : Lcl := [some (.ref 4), some (.ref 7), some (.ref 10), some (.int (nI f)), some (.int (nI m)), some (.int (nI t)), some (.int (nI (zA + zB))), some (.int (nI s)), o8, o9, o10]
def dfInv (σ : Sg) (n pc : Nat) (ls : Lcl) (τ : Sg) : Prop := ∃ (zA zB f m t s : Nat) (o8 o9 o10 : Option Value), ls = dfL zA zB f m t s o8 o9 o10 ∧ σ 4 2 = nI zA ∧ σ 7 2 = nI zB ∧ zA ≤ 120 ∧ zB ≤ 120 ∧ fr [10] σ τ ∧ s ≤ m + t ∧ m ≤ zA ∧ t ≤ zB ∧
  ((pc = 22 ∧ n = 10 * (zA + zB - s) + 9 ∧ f ≤ s ∧ df_I (dfA σ) zA (dfB σ) zB (mC σ) (kC σ) (τ 10) f m t) ∨
   (pc = 47 ∧ n = 10 * (zA + zB - s) + 8 ∧ f ≤ s ∧ s < zA + zB ∧ (m < zA ∨ t < zB) ∧ df_I (dfA σ) zA (dfB σ) zB (mC σ) (kC σ) (τ 10) f m t) ∨
   (pc = 89 ∧ n = 10 * (zA + zB - s) + 7 ∧ f ≤ s ∧ s < zA + zB ∧ (m < zA ∨ t < zB) ∧ df_I (dfA σ) zA (dfB σ) zB (mC σ) (kC σ) (τ 10) f m t ∧ o8 = some (.int (bI (df_hm (dfA σ) zA (dfB σ) zB m t)))) ∨
   (pc = 131 ∧ n = 10 * (zA + zB - s) + 6 ∧ f ≤ s ∧ s < zA + zB ∧ (m < zA ∨ t < zB) ∧ df_I (dfA σ) zA (dfB σ) zB (mC σ) (kC σ) (τ 10) f m t ∧ o8 = some (.int (bI (df_hm (dfA σ) zA (dfB σ) zB m t))) ∧ o9 = some (.int (bI (df_ht (dfA σ) zA (dfB σ) zB m t)))) ∨
   (pc = 165 ∧ n = 10 * (zA + zB - s) + 5 ∧ f ≤ s ∧ s < zA + zB ∧ (m < zA ∨ t < zB) ∧ df_I (dfA σ) zA (dfB σ) zB (mC σ) (kC σ) (τ 10) f m t ∧ o8 = some (.int (bI (df_hm (dfA σ) zA (dfB σ) zB m t))) ∧ o9 = some (.int (bI (df_ht (dfA σ) zA (dfB σ) zB m t))) ∧ o10 = some (.int (bI (df_hm (dfA σ) zA (dfB σ) zB m t && df_ht (dfA σ) zA (dfB σ) zB m t && decide (σ 6 m = σ 9 t))))) ∨
   (pc = 204 ∧ n = 10 * (zA + zB - s) + 4 ∧ f ≤ s + 1 ∧ s < zA + zB ∧ (m < zA ∨ t < zB) ∧ df_I (dfA σ) zA (dfB σ) zB (mC σ) (kC σ) (τ 10) f (if df_hm (dfA σ) zA (dfB σ) zB m t = true then m + 1 else m) (if df_ht (dfA σ) zA (dfB σ) zB m t = true then t + 1 else t) ∧ o8 = some (.int (bI (df_hm (dfA σ) zA (dfB σ) zB m t))) ∧ o9 = some (.int (bI (df_ht (dfA σ) zA (dfB σ) zB m t))) ∧ ∃ w, o10 = some (.int w)))
def pr_X1_differences : SPre := fun As σ => As = [.ref 4, .ref 7, .ref 10] ∧ (bOK (σ 5) (σ 6) (σ 4 2) ∧ bOK (σ 8) (σ 9) (σ 7 2))
def po_X1_differences : SPost := fun As σ r τ => match As with
  | [.ref _, .ref _, .ref _] => (fr [10] σ τ ∧ ∃ f : Nat, f ≤ 240 ∧ r = nI f ∧ isD (τ 10) f (mC σ) (kC σ))
  | _ => True
def ms_X1_differences : List Me := []
theorem mk_X1_differences : ∀ q ∈ ms_X1_differences, kp_okM layC RX1 0 q := fun _ h => absurd h List.not_mem_nil
def tx_X1_differences : List Ent := [(0, .iconst 0, 1, false, nI 0), (1, .istore_n 3, 1, false, 0), (2, .iconst 0, 1, false, nI 0), (3, .istore 4, 2, false, 0), (5, .iconst 0, 1, false, nI 0), (6, .istore 5, 2, false, 0), (8, .aload_n 0, 1, false, 0), (9, .getfield 18, 3, false, 0), (12, .aload_n 1, 1, false, 0), (13, .getfield 18, 3, false, 0), (16, .iadd, 1, false, 0), (17, .istore 6, 2, false, 0), (19, .iconst 0, 1, false, nI 0), (20, .istore 7, 2, false, 0), (22, .iload 7, 2, true, 0), (24, .iload 6, 2, false, 0), (26, .if_icmp .ge 214, 3, false, 0), (29, .iload 4, 2, false, 0), (31, .aload_n 0, 1, false, 0), (32, .getfield 18, 3, false, 0), (35, .if_icmp .lt 12, 3, false, 0), (38, .iload 5, 2, false, 0), (40, .aload_n 1, 1, false, 0), (41, .getfield 18, 3, false, 0), (44, .if_icmp .ge 196, 3, false, 0), (47, .iload 4, 2, true, 0), (49, .aload_n 0, 1, false, 0), (50, .getfield 18, 3, false, 0), (53, .if_icmp .ge 33, 3, false, 0), (56, .iload 5, 2, false, 0), (58, .aload_n 1, 1, false, 0), (59, .getfield 18, 3, false, 0), (62, .if_icmp .ge 20, 3, false, 0), (65, .aload_n 0, 1, false, 0), (66, .getfield 9, 3, false, 0), (69, .iload 4, 2, false, 0), (71, .iaload, 1, false, 0), (72, .aload_n 1, 1, false, 0), (73, .getfield 9, 3, false, 0), (76, .iload 5, 2, false, 0), (78, .iaload, 1, false, 0), (79, .if_icmp .gt 7, 3, false, 0), (82, .iconst 1, 1, false, nI 1), (83, .goto 4, 3, false, 0), (86, .iconst 0, 1, false, nI 0), (87, .istore 8, 2, false, 0), (89, .iload 5, 2, true, 0), (91, .aload_n 1, 1, false, 0), (92, .getfield 18, 3, false, 0), (95, .if_icmp .ge 33, 3, false, 0), (98, .iload 4, 2, false, 0), (100, .aload_n 0, 1, false, 0), (101, .getfield 18, 3, false, 0), (104, .if_icmp .ge 20, 3, false, 0), (107, .aload_n 1, 1, false, 0), (108, .getfield 9, 3, false, 0), (111, .iload 5, 2, false, 0), (113, .iaload, 1, false, 0), (114, .aload_n 0, 1, false, 0), (115, .getfield 9, 3, false, 0), (118, .iload 4, 2, false, 0), (120, .iaload, 1, false, 0), (121, .if_icmp .gt 7, 3, false, 0), (124, .iconst 1, 1, false, nI 1), (125, .goto 4, 3, false, 0), (128, .iconst 0, 1, false, nI 0), (129, .istore 9, 2, false, 0), (131, .iload 8, 2, true, 0), (133, .ifCond .eq 29, 3, false, 0), (136, .iload 9, 2, false, 0), (138, .ifCond .eq 24, 3, false, 0), (141, .aload_n 0, 1, false, 0), (142, .getfield 15, 3, false, 0), (145, .iload 4, 2, false, 0), (147, .iaload, 1, false, 0), (148, .aload_n 1, 1, false, 0), (149, .getfield 15, 3, false, 0), (152, .iload 5, 2, false, 0), (154, .iaload, 1, false, 0), (155, .if_icmp .ne 7, 3, false, 0), (158, .iconst 1, 1, false, nI 1), (159, .goto 4, 3, false, 0), (162, .iconst 0, 1, false, nI 0), (163, .istore 10, 2, false, 0), (165, .iload 10, 2, true, 0), (167, .ifCond .ne 37, 3, false, 0), (170, .iload_n 3, 1, false, 0), (171, .aload_n 2, 1, false, 0), (172, .arraylength, 1, false, 0), (173, .if_icmp .ge 31, 3, false, 0), (176, .aload_n 2, 1, false, 0), (177, .iload_n 3, 1, false, 0), (178, .iload 8, 2, false, 0), (180, .ifCond .eq 13, 3, false, 0), (183, .aload_n 0, 1, false, 0), (184, .getfield 9, 3, false, 0), (187, .iload 4, 2, false, 0), (189, .iaload, 1, false, 0), (190, .goto 10, 3, false, 0), (193, .aload_n 1, 1, false, 0), (194, .getfield 9, 3, false, 0), (197, .iload 5, 2, false, 0), (199, .iaload, 1, false, 0), (200, .iastore, 1, false, 0), (201, .iinc 3 1, 3, false, nI 1), (204, .iload 4, 2, true, 0), (206, .iload 8, 2, false, 0), (208, .ifCond .eq 7, 3, false, 0), (211, .iconst 1, 1, false, nI 1), (212, .goto 4, 3, false, 0), (215, .iconst 0, 1, false, nI 0), (216, .iadd, 1, false, 0), (217, .istore 4, 2, false, 0), (219, .iload 5, 2, false, 0), (221, .iload 9, 2, false, 0), (223, .ifCond .eq 7, 3, false, 0), (226, .iconst 1, 1, false, nI 1), (227, .goto 4, 3, false, 0), (230, .iconst 0, 1, false, nI 0), (231, .iadd, 1, false, 0), (232, .istore 5, 2, false, 0), (234, .iinc 7 1, 3, false, nI 1), (237, .goto (-215), 3, false, 0), (240, .iload_n 3, 1, false, 0), (241, .ireturn, 1, false, 0)]
set_option maxRecDepth 100000 in
theorem tkx_X1_differences : kp_ok cX1_differences RX1 tx_X1_differences = true := by decide +kernel
set_option maxRecDepth 100000 in
theorem v_X1_differences {J : Nat → Lcl → List Value → Sg → Prop} {Q : Int32 → Sg → Prop}  (σ : Sg) (h : J 22 [some (.ref 4), some (.ref 7), some (.ref 10), some (.int (nI 0)), some (.int (nI 0)), some (.int (nI 0)), some (.int ((σ 4 2) + (σ 7 2))), some (.int (nI 0)), none, none, none] [] σ) : kp_T layC gl_X1 pl_X1 (ms_X1_differences) tx_X1_differences (kp_rk (some .int)) J Q 130 tx_X1_differences (kp_en [.ref 4, .ref 7, .ref 10] 11) [] σ := h
set_option maxRecDepth 100000 in
theorem v_X1_differences_22 {J : Nat → Lcl → List Value → Sg → Prop} {Q : Int32 → Sg → Prop} (f m t most s : Int32) (o8 o9 o10 : Option Value) (σ : Sg) (h : (¬ s < most → Q f σ) ∧ (s < most → (m < (σ 4 2) → J 47 [some (.ref 4), some (.ref 7), some (.ref 10), some (.int f), some (.int m), some (.int t), some (.int most), some (.int s), o8, o9, o10] [] σ) ∧ (¬ m < (σ 4 2) → (¬ t < (σ 7 2) → Q f σ) ∧ (t < (σ 7 2) → J 47 [some (.ref 4), some (.ref 7), some (.ref 10), some (.int f), some (.int m), some (.int t), some (.int most), some (.int s), o8, o9, o10] [] σ)))) : kp_T1 layC gl_X1 pl_X1 (ms_X1_differences) tx_X1_differences (kp_rk (some .int)) J Q 130 22 [some (.ref 4), some (.ref 7), some (.ref 10), some (.int f), some (.int m), some (.int t), some (.int most), some (.int s), o8, o9, o10] [] σ := h
set_option maxRecDepth 100000 in
theorem v_X1_differences_47 {J : Nat → Lcl → List Value → Sg → Prop} {Q : Int32 → Sg → Prop} (f m t most s : Int32) (o8 o9 o10 : Option Value) (σ : Sg) (h : (¬ m < (σ 4 2) → J 89 [some (.ref 4), some (.ref 7), some (.ref 10), some (.int f), some (.int m), some (.int t), some (.int most), some (.int s), some (.int (nI 0)), o9, o10] [] σ) ∧ (m < (σ 4 2) → (¬ t < (σ 7 2) → J 89 [some (.ref 4), some (.ref 7), some (.ref 10), some (.int f), some (.int m), some (.int t), some (.int most), some (.int s), some (.int (nI 1)), o9, o10] [] σ) ∧ (t < (σ 7 2) → vp_in m 120 ∧ (vp_in t 120 ∧ (((σ 8 (t).toNatClampNeg) < (σ 5 (m).toNatClampNeg) → J 89 [some (.ref 4), some (.ref 7), some (.ref 10), some (.int f), some (.int m), some (.int t), some (.int most), some (.int s), some (.int (nI 0)), o9, o10] [] σ) ∧ (¬ (σ 8 (t).toNatClampNeg) < (σ 5 (m).toNatClampNeg) → J 89 [some (.ref 4), some (.ref 7), some (.ref 10), some (.int f), some (.int m), some (.int t), some (.int most), some (.int s), some (.int (nI 1)), o9, o10] [] σ)))))) : kp_T1 layC gl_X1 pl_X1 (ms_X1_differences) tx_X1_differences (kp_rk (some .int)) J Q 130 47 [some (.ref 4), some (.ref 7), some (.ref 10), some (.int f), some (.int m), some (.int t), some (.int most), some (.int s), o8, o9, o10] [] σ := h
set_option maxRecDepth 100000 in
theorem v_X1_differences_89 {J : Nat → Lcl → List Value → Sg → Prop} {Q : Int32 → Sg → Prop} (f m t most s hm : Int32) (o9 o10 : Option Value) (σ : Sg) (h : (¬ t < (σ 7 2) → J 131 [some (.ref 4), some (.ref 7), some (.ref 10), some (.int f), some (.int m), some (.int t), some (.int most), some (.int s), some (.int hm), some (.int (nI 0)), o10] [] σ) ∧ (t < (σ 7 2) → (¬ m < (σ 4 2) → J 131 [some (.ref 4), some (.ref 7), some (.ref 10), some (.int f), some (.int m), some (.int t), some (.int most), some (.int s), some (.int hm), some (.int (nI 1)), o10] [] σ) ∧ (m < (σ 4 2) → vp_in t 120 ∧ (vp_in m 120 ∧ (((σ 5 (m).toNatClampNeg) < (σ 8 (t).toNatClampNeg) → J 131 [some (.ref 4), some (.ref 7), some (.ref 10), some (.int f), some (.int m), some (.int t), some (.int most), some (.int s), some (.int hm), some (.int (nI 0)), o10] [] σ) ∧ (¬ (σ 5 (m).toNatClampNeg) < (σ 8 (t).toNatClampNeg) → J 131 [some (.ref 4), some (.ref 7), some (.ref 10), some (.int f), some (.int m), some (.int t), some (.int most), some (.int s), some (.int hm), some (.int (nI 1)), o10] [] σ)))))) : kp_T1 layC gl_X1 pl_X1 (ms_X1_differences) tx_X1_differences (kp_rk (some .int)) J Q 130 89 [some (.ref 4), some (.ref 7), some (.ref 10), some (.int f), some (.int m), some (.int t), some (.int most), some (.int s), some (.int hm), o9, o10] [] σ := h
set_option maxRecDepth 100000 in
theorem v_X1_differences_131 {J : Nat → Lcl → List Value → Sg → Prop} {Q : Int32 → Sg → Prop} (f m t most s hm ht : Int32) (o10 : Option Value) (σ : Sg) (h : (hm = (nI 0) → J 165 [some (.ref 4), some (.ref 7), some (.ref 10), some (.int f), some (.int m), some (.int t), some (.int most), some (.int s), some (.int hm), some (.int ht), some (.int (nI 0))] [] σ) ∧ (¬ hm = (nI 0) → (ht = (nI 0) → J 165 [some (.ref 4), some (.ref 7), some (.ref 10), some (.int f), some (.int m), some (.int t), some (.int most), some (.int s), some (.int hm), some (.int ht), some (.int (nI 0))] [] σ) ∧ (¬ ht = (nI 0) → vp_in m 120 ∧ (vp_in t 120 ∧ ((¬ (σ 6 (m).toNatClampNeg) = (σ 9 (t).toNatClampNeg) → J 165 [some (.ref 4), some (.ref 7), some (.ref 10), some (.int f), some (.int m), some (.int t), some (.int most), some (.int s), some (.int hm), some (.int ht), some (.int (nI 0))] [] σ) ∧ ((σ 6 (m).toNatClampNeg) = (σ 9 (t).toNatClampNeg) → J 165 [some (.ref 4), some (.ref 7), some (.ref 10), some (.int f), some (.int m), some (.int t), some (.int most), some (.int s), some (.int hm), some (.int ht), some (.int (nI 1))] [] σ)))))) : kp_T1 layC gl_X1 pl_X1 (ms_X1_differences) tx_X1_differences (kp_rk (some .int)) J Q 130 131 [some (.ref 4), some (.ref 7), some (.ref 10), some (.int f), some (.int m), some (.int t), some (.int most), some (.int s), some (.int hm), some (.int ht), o10] [] σ := h
set_option maxRecDepth 100000 in
theorem v_X1_differences_165 {J : Nat → Lcl → List Value → Sg → Prop} {Q : Int32 → Sg → Prop} (f m t most s hm ht al : Int32) (σ : Sg) (h : (¬ al = (nI 0) → J 204 [some (.ref 4), some (.ref 7), some (.ref 10), some (.int f), some (.int m), some (.int t), some (.int most), some (.int s), some (.int hm), some (.int ht), some (.int al)] [] σ) ∧ (al = (nI 0) → (¬ f < (nI 240) → J 204 [some (.ref 4), some (.ref 7), some (.ref 10), some (.int f), some (.int m), some (.int t), some (.int most), some (.int s), some (.int hm), some (.int ht), some (.int al)] [] σ) ∧ (f < (nI 240) → (hm = (nI 0) → vp_in t 120 ∧ (vp_in f 240 ∧ (J 204 [some (.ref 4), some (.ref 7), some (.ref 10), some (.int (f + nI 1)), some (.int m), some (.int t), some (.int most), some (.int s), some (.int hm), some (.int ht), some (.int al)] [] (kp_up σ 10 (f).toNatClampNeg (σ 8 (t).toNatClampNeg))))) ∧ (¬ hm = (nI 0) → vp_in m 120 ∧ (vp_in f 240 ∧ (J 204 [some (.ref 4), some (.ref 7), some (.ref 10), some (.int (f + nI 1)), some (.int m), some (.int t), some (.int most), some (.int s), some (.int hm), some (.int ht), some (.int al)] [] (kp_up σ 10 (f).toNatClampNeg (σ 5 (m).toNatClampNeg)))))))) : kp_T1 layC gl_X1 pl_X1 (ms_X1_differences) tx_X1_differences (kp_rk (some .int)) J Q 130 165 [some (.ref 4), some (.ref 7), some (.ref 10), some (.int f), some (.int m), some (.int t), some (.int most), some (.int s), some (.int hm), some (.int ht), some (.int al)] [] σ := h
set_option maxRecDepth 100000 in
theorem v_X1_differences_204 {J : Nat → Lcl → List Value → Sg → Prop} {Q : Int32 → Sg → Prop} (f m t most s hm ht al : Int32) (σ : Sg) (h : (hm = (nI 0) → (ht = (nI 0) → J 22 [some (.ref 4), some (.ref 7), some (.ref 10), some (.int f), some (.int (m + (nI 0))), some (.int (t + (nI 0))), some (.int most), some (.int (s + nI 1)), some (.int hm), some (.int ht), some (.int al)] [] σ) ∧ (¬ ht = (nI 0) → J 22 [some (.ref 4), some (.ref 7), some (.ref 10), some (.int f), some (.int (m + (nI 0))), some (.int (t + (nI 1))), some (.int most), some (.int (s + nI 1)), some (.int hm), some (.int ht), some (.int al)] [] σ)) ∧ (¬ hm = (nI 0) → (ht = (nI 0) → J 22 [some (.ref 4), some (.ref 7), some (.ref 10), some (.int f), some (.int (m + (nI 1))), some (.int (t + (nI 0))), some (.int most), some (.int (s + nI 1)), some (.int hm), some (.int ht), some (.int al)] [] σ) ∧ (¬ ht = (nI 0) → J 22 [some (.ref 4), some (.ref 7), some (.ref 10), some (.int f), some (.int (m + (nI 1))), some (.int (t + (nI 1))), some (.int most), some (.int (s + nI 1)), some (.int hm), some (.int ht), some (.int al)] [] σ))) : kp_T1 layC gl_X1 pl_X1 (ms_X1_differences) tx_X1_differences (kp_rk (some .int)) J Q 130 204 [some (.ref 4), some (.ref 7), some (.ref 10), some (.int f), some (.int m), some (.int t), some (.int most), some (.int s), some (.int hm), some (.int ht), some (.int al)] [] σ := h
abbrev iv_X1_differences : List Value → Sg → Nat → Nat → Lcl → List Value → Sg → Prop := fun As σ n pc ls st τ => st = [] ∧ As = [.ref 4, .ref 7, .ref 10] ∧ dfInv σ n pc ls τ
set_option maxRecDepth 100000 in
set_option maxHeartbeats 4000000 in
theorem c_X1_differences : kp_Met layC 0 yX1_differences cX1_differences 11 (some .int) (pr_X1_differences) (po_X1_differences) := by
  refine kp_met (N := 130) (by decide) tkx_X1_differences gk_X1 pk_X1 (mk_X1_differences) rfl (iv_X1_differences) ?_ ?_
  · rintro As σ ⟨rfl, hp⟩
    refine ⟨⟨rfl, Nat.le_of_ble_eq_true rfl⟩, v_X1_differences σ ?_⟩
    obtain ⟨⟨zA, hA, h1, h2, h3⟩, ⟨zB, hB, g1, g2, g3⟩⟩ := hp
    refine ⟨10 * (zA + zB - 0) + 9, rfl, rfl, zA, zB, 0, 0, 0, 0, none, none, none, by rw [hA, hB, nI_add], hA, hB, h1, g1, fr_rf, by omega, by omega, by omega, Or.inl ⟨rfl, rfl, by omega, by omega, by omega, fun i j hi => by omega, fun i j _ _ hj => by omega, fun i hi => by omega, fun i j _ hj => by omega, fun k hk => ?_⟩⟩
    rcases hk with ⟨p, hp, -⟩ | ⟨p, hp, -⟩ <;> omega
  · rintro As σ ⟨rfl, hp⟩ n pc ls st τ hI
    obtain ⟨hbA, hbB⟩ := hp
    obtain ⟨rfl, hAs, zA, zB, f, m, t, s, o8, o9, o10, rfl, hA, hB, hzA, hzB, hfr, hs, hm, ht, hI⟩ := hI
    clear hAs
    have q4 : τ 4 = σ 4 := hfr 4 (by decide)
    have q5 : τ 5 = σ 5 := hfr 5 (by decide)
    have q6 : τ 6 = σ 6 := hfr 6 (by decide)
    have q7 : τ 7 = σ 7 := hfr 7 (by decide)
    have q8 : τ 8 = σ 8 := hfr 8 (by decide)
    have q9 : τ 9 = σ 9 := hfr 9 (by decide)
    obtain ⟨zA', eA, hzA', hcA, hsA⟩ := id hbA
    obtain ⟨zB', eB, hzB', hcB, hsB⟩ := id hbB
    have : zA' = zA := (nI_eq (by omega) (by omega)).mp (eA.symm.trans hA)
    subst this
    have : zB' = zB := (nI_eq (by omega) (by omega)).mp (eB.symm.trans hB)
    subst this
    have hAm : ∀ i, i < zA' → (mC σ (dfA σ i) = σ 6 i ∧ mC σ (dfA σ i) ≠ -1) := fun i hi => by
      have e : mC σ (dfA σ i) = σ 6 i := by
        have hb2 := hbA
        rw [hA] at hb2
        show mpC (σ 5) (σ 6) (σ 4 2) (tn (σ 5 i)) = σ 6 i
        rw [hA]
        exact mpC_at hb2 hzA hi
      obtain ⟨v, hv, ev⟩ := (hcA i hi).2.2
      exact ⟨e, by rw [e, ev]; exact nI_m1 (by omega)⟩
    have hBm : ∀ i, i < zB' → (kC σ (dfB σ i) = σ 9 i ∧ kC σ (dfB σ i) ≠ -1) := fun i hi => by
      have e : kC σ (dfB σ i) = σ 9 i := by
        have hb2 := hbB
        rw [hB] at hb2
        show mpC (σ 8) (σ 9) (σ 7 2) (tn (σ 8 i)) = σ 9 i
        rw [hB]
        exact mpC_at hb2 hzB hi
      obtain ⟨v, hv, ev⟩ := (hcB i hi).2.2
      exact ⟨e, by rw [e, ev]; exact nI_m1 (by omega)⟩
    have hMn : ∀ k, (∀ i, i < zA' → dfA σ i ≠ k) → mC σ k = -1 := fun k h => by
      show mpC (σ 5) (σ 6) (σ 4 2) k = -1
      rw [hA]; exact mpC_none hzA h
    have hKn : ∀ k, (∀ i, i < zB' → dfB σ i ≠ k) → kC σ k = -1 := fun k h => by
      show mpC (σ 8) (σ 9) (σ 7 2) k = -1
      rw [hB]; exact mpC_none hzB h
    have ea : dfA σ m = tn (σ 5 m) := rfl
    have eb : dfB σ t = tn (σ 8 t) := rfl
    rcases hI with ⟨rfl, rfl, hfs, hdf⟩ | ⟨rfl, rfl, hfs, hsz, hmt, hdf⟩ | ⟨rfl, rfl, hfs, hsz, hmt, hdf, rfl⟩ | ⟨rfl, rfl, hfs, hsz, hmt, hdf, rfl, rfl⟩ | ⟨rfl, rfl, hfs, hsz, hmt, hdf, rfl, rfl, rfl⟩ | ⟨rfl, rfl, hfs, hsz, hmt, hdf, rfl, rfl, w, rfl⟩
    · refine v_X1_differences_22 _ _ _ _ _ o8 o9 o10 τ ?_
      rw [q4, q7, hA, hB, nI_ltI (by omega) (by omega), nI_ltI (by omega) (by omega), nI_ltI (by omega) (by omega)]
      have hfin : zA' ≤ m → zB' ≤ t → po_X1_differences [.ref 4, .ref 7, .ref 10] σ (nI f) τ := by
        intro a1 a2
        obtain ⟨-, -, -, -, d5, d6, d7⟩ := hdf
        refine ⟨hfr, f, by omega, rfl, fun i hi => (d5 i hi).1, d6, fun k => ?_⟩
        by_cases hk : df_P (dfA σ) m (dfB σ) t k
        · exact d7 k hk
        · have e1 : mC σ k = -1 := hMn k (fun i hi e => hk (Or.inl ⟨i, by omega, e⟩))
          have e2 : kC σ k = -1 := hKn k (fun i hi e => hk (Or.inr ⟨i, by omega, e⟩))
          refine ⟨fun z => absurd (e1.trans e2.symm) z, fun ⟨i, hi, e⟩ => absurd ?_ hk⟩
          rw [← e]; exact (d5 i hi).2
      refine ⟨fun a1 => hfin (by omega) (by omega), fun a1 => ⟨fun a2 => ⟨10 * (zA' + zB' - s) + 8, by omega, rfl, rfl, zA', zB', f, m, t, s, o8, o9, o10, rfl, hA, hB, hzA, hzB, hfr, hs, hm, ht, Or.inr (Or.inl ⟨rfl, rfl, hfs, a1, Or.inl a2, hdf⟩)⟩, fun a2 => ⟨fun a3 => hfin (by omega) (by omega), fun a3 => ⟨10 * (zA' + zB' - s) + 8, by omega, rfl, rfl, zA', zB', f, m, t, s, o8, o9, o10, rfl, hA, hB, hzA, hzB, hfr, hs, hm, ht, Or.inr (Or.inl ⟨rfl, rfl, hfs, a1, Or.inr a3, hdf⟩)⟩⟩⟩⟩
    · refine v_X1_differences_47 _ _ _ _ _ o8 o9 o10 τ ?_
      have hgo : ∀ b : Bool, b = df_hm (dfA σ) zA' (dfB σ) zB' m t → ∃ n', n' < 10 * (zA' + zB' - s) + 8 ∧ ([] : List Value) = [] ∧ ([.ref 4, .ref 7, .ref 10] : List Value) = [.ref 4, .ref 7, .ref 10] ∧ dfInv σ n' 89 (dfL zA' zB' f m t s (some (.int (bI b))) o9 o10) τ := by
        rintro b rfl
        exact ⟨10 * (zA' + zB' - s) + 7, by omega, rfl, rfl, zA', zB', f, m, t, s, _, o9, o10, rfl, hA, hB, hzA, hzB, hfr, hs, hm, ht, Or.inr (Or.inr (Or.inl ⟨rfl, rfl, hfs, hsz, hmt, hdf, rfl⟩))⟩
      rw [q4, q7, hA, hB, nI_ltI (by omega) (by omega), nI_ltI (by omega) (by omega)]
      refine ⟨fun a1 => hgo false (decide_eq_false (by omega)).symm, fun a1 => ⟨fun a2 => hgo true (decide_eq_true (by omega)).symm, fun a2 => ⟨(kp_in (by omega)).mpr (by omega), (kp_in (by omega)).mpr (by omega), ?_⟩⟩⟩
      rw [nI_clamp (show m < 2 ^ 31 by omega), nI_clamp (show t < 2 ^ 31 by omega), q5, q8, (hcA m a1).1, (hcB t a2).1, nI_ltI (tn_lt _) (tn_lt _)]
      exact ⟨fun a3 => hgo false (decide_eq_false (fun z => by have := z.2.resolve_left (by omega); omega)).symm, fun a3 => hgo true (decide_eq_true ⟨a1, Or.inr (by omega)⟩).symm⟩
    · refine v_X1_differences_89 _ _ _ _ _ _ o9 o10 τ ?_
      have hgo : ∀ b : Bool, b = df_ht (dfA σ) zA' (dfB σ) zB' m t → ∃ n', n' < 10 * (zA' + zB' - s) + 7 ∧ ([] : List Value) = [] ∧ ([.ref 4, .ref 7, .ref 10] : List Value) = [.ref 4, .ref 7, .ref 10] ∧ dfInv σ n' 131 (dfL zA' zB' f m t s (some (.int (bI (df_hm (dfA σ) zA' (dfB σ) zB' m t)))) (some (.int (bI b))) o10) τ := by
        rintro b rfl
        exact ⟨10 * (zA' + zB' - s) + 6, by omega, rfl, rfl, zA', zB', f, m, t, s, _, _, o10, rfl, hA, hB, hzA, hzB, hfr, hs, hm, ht, Or.inr (Or.inr (Or.inr (Or.inl ⟨rfl, rfl, hfs, hsz, hmt, hdf, rfl, rfl⟩)))⟩
      rw [q4, q7, hA, hB, nI_ltI (by omega) (by omega), nI_ltI (by omega) (by omega)]
      refine ⟨fun a1 => hgo false (decide_eq_false (by omega)).symm, fun a1 => ⟨fun a2 => hgo true (decide_eq_true (by omega)).symm, fun a2 => ⟨(kp_in (by omega)).mpr (by omega), (kp_in (by omega)).mpr (by omega), ?_⟩⟩⟩
      rw [nI_clamp (show m < 2 ^ 31 by omega), nI_clamp (show t < 2 ^ 31 by omega), q5, q8, (hcA m a2).1, (hcB t a1).1, nI_ltI (tn_lt _) (tn_lt _)]
      exact ⟨fun a3 => hgo false (decide_eq_false (fun z => by have := z.2.resolve_left (by omega); omega)).symm, fun a3 => hgo true (decide_eq_true ⟨a1, Or.inr (by omega)⟩).symm⟩
    · refine v_X1_differences_131 _ _ _ _ _ _ _ o10 τ ?_
      have hgo : ∀ b : Bool, b = (df_hm (dfA σ) zA' (dfB σ) zB' m t && df_ht (dfA σ) zA' (dfB σ) zB' m t && decide (σ 6 m = σ 9 t)) → ∃ n', n' < 10 * (zA' + zB' - s) + 6 ∧ ([] : List Value) = [] ∧ ([.ref 4, .ref 7, .ref 10] : List Value) = [.ref 4, .ref 7, .ref 10] ∧ dfInv σ n' 165 (dfL zA' zB' f m t s (some (.int (bI (df_hm (dfA σ) zA' (dfB σ) zB' m t)))) (some (.int (bI (df_ht (dfA σ) zA' (dfB σ) zB' m t)))) (some (.int (bI b)))) τ := by
        rintro b rfl
        exact ⟨10 * (zA' + zB' - s) + 5, by omega, rfl, rfl, zA', zB', f, m, t, s, _, _, _, rfl, hA, hB, hzA, hzB, hfr, hs, hm, ht, Or.inr (Or.inr (Or.inr (Or.inr (Or.inl ⟨rfl, rfl, hfs, hsz, hmt, hdf, rfl, rfl, rfl⟩))))⟩
      rw [bI_0, bI_0]
      refine ⟨fun a1 => hgo false (by rw [a1]; rfl), fun a1 => ⟨fun a2 => hgo false (by rw [a2]; simp), fun a2 => ?_⟩⟩
      have a1 : df_hm (dfA σ) zA' (dfB σ) zB' m t = true := by simpa using a1
      have a2 : df_ht (dfA σ) zA' (dfB σ) zB' m t = true := by simpa using a2
      have b1 := of_decide_eq_true a1
      have b2 := of_decide_eq_true a2
      refine ⟨(kp_in (by omega)).mpr (by omega), (kp_in (by omega)).mpr (by omega), ?_⟩
      rw [nI_clamp (show m < 2 ^ 31 by omega), nI_clamp (show t < 2 ^ 31 by omega), q6, q9]
      exact ⟨fun a3 => hgo false (by rw [decide_eq_false a3]; simp), fun a3 => hgo true (by rw [a1, a2, decide_eq_true a3]; rfl)⟩
    · refine v_X1_differences_165 _ _ _ _ _ _ _ _ τ ?_
      have hgo : ∀ (f' : Nat) (τ' : Sg) (b : Int32), fr [10] σ τ' → f' ≤ s + 1 → df_I (dfA σ) zA' (dfB σ) zB' (mC σ) (kC σ) (τ' 10) f' (if df_hm (dfA σ) zA' (dfB σ) zB' m t = true then m + 1 else m) (if df_ht (dfA σ) zA' (dfB σ) zB' m t = true then t + 1 else t) → ∃ n', n' < 10 * (zA' + zB' - s) + 5 ∧ ([] : List Value) = [] ∧ ([.ref 4, .ref 7, .ref 10] : List Value) = [.ref 4, .ref 7, .ref 10] ∧ dfInv σ n' 204 (dfL zA' zB' f' m t s (some (.int (bI (df_hm (dfA σ) zA' (dfB σ) zB' m t)))) (some (.int (bI (df_ht (dfA σ) zA' (dfB σ) zB' m t)))) (some (.int b))) τ' := by
        intro f' τ' b hfr' hf' hd'
        exact ⟨10 * (zA' + zB' - s) + 4, by omega, rfl, rfl, zA', zB', f', m, t, s, _, _, _, rfl, hA, hB, hzA, hzB, hfr', hs, hm, ht, Or.inr (Or.inr (Or.inr (Or.inr (Or.inr ⟨rfl, rfl, hf', hsz, hmt, hd', rfl, rfl, b, rfl⟩))))⟩
      rw [bI_0, bI_0, nI_ltI (by omega) (by omega)]
      refine ⟨fun a1 => ?_, fun a1 => ⟨fun a2 => by omega, fun a2 => ⟨fun a3 => ?_, fun a3 => ?_⟩⟩⟩
      · have a1 : (df_hm (dfA σ) zA' (dfB σ) zB' m t && df_ht (dfA σ) zA' (dfB σ) zB' m t && decide (σ 6 m = σ 9 t)) = true := by rw [Bool.not_eq_false] at a1; exact a1
        obtain ⟨a1, a4⟩ := kp_and2 a1
        obtain ⟨a1, a2⟩ := kp_and2 a1
        have b1 := of_decide_eq_true a1
        have b2 := of_decide_eq_true a2
        have he : dfA σ m = dfB σ t := by omega
        refine hgo f τ _ hfr (by omega) ?_
        rw [if_pos a1, if_pos a2]
        exact df_both hsA hsB (tn_lt _) hdf a1 a2 (Or.inl ⟨by rw [(hAm m b1.1).1, he, (hBm t b2.1).1]; exact of_decide_eq_true a4, rfl, rfl⟩)
      · have a2' := df_one hmt a3
        have b2 := of_decide_eq_true a2'
        have b3 := of_decide_eq_false a3
        refine ⟨(kp_in (by omega)).mpr (by omega), (kp_in (by omega)).mpr a2, ?_⟩
        rw [nI_clamp (show t < 2 ^ 31 by omega), nI_clamp (show f < 2 ^ 31 by omega), nI_add, q8, (hcB t b2.1).1]
        refine hgo (f + 1) _ _ (fr_up hfr (by decide)) (by omega) ?_
        rw [if_neg (by rw [a3]; decide), if_pos a2', kp_up_eq]
        refine df_their hsA hsB (tn_lt _) hdf a3 a2' ?_
        have e1 : mC σ (dfB σ t) = -1 := hMn _ (fun i hi e => by
          by_cases z : i < m
          · have := hdf.2.2.1 i t z (by omega) b2.1; omega
          · have z1 : dfB σ t < dfA σ m := by omega
            by_cases z2 : i = m
            · subst z2; omega
            · have := hsA m i (by omega) hi; have ei : dfA σ i = tn (σ 5 i) := rfl; omega)
        rw [e1]
        exact fun z => (hBm t b2.1).2 z.symm
      · have a3 : df_hm (dfA σ) zA' (dfB σ) zB' m t = true := by simpa using a3
        have b3 := of_decide_eq_true a3
        refine ⟨(kp_in (by omega)).mpr (by omega), (kp_in (by omega)).mpr a2, ?_⟩
        rw [nI_clamp (show m < 2 ^ 31 by omega), nI_clamp (show f < 2 ^ 31 by omega), nI_add, q5, (hcA m b3.1).1]
        refine hgo (f + 1) _ _ (fr_up hfr (by decide)) (by omega) ?_
        rw [if_pos a3, kp_up_eq]
        by_cases a4 : df_ht (dfA σ) zA' (dfB σ) zB' m t = true
        · rw [if_pos a4]
          have b4 := of_decide_eq_true a4
          have he : dfA σ m = dfB σ t := by omega
          refine df_both hsA hsB (tn_lt _) hdf a3 a4 (Or.inr ⟨?_, rfl, rfl⟩)
          rw [(hAm m b3.1).1, he, (hBm t b4.1).1]
          rw [a3, a4] at a1
          exact of_decide_eq_false (by simpa using a1)
        · rw [if_neg a4]
          have a4 : df_ht (dfA σ) zA' (dfB σ) zB' m t = false := by simpa using a4
          have b4 := of_decide_eq_false a4
          refine df_mine hsA hsB (tn_lt _) hdf a3 a4 ?_
          have e1 : kC σ (dfA σ m) = -1 := hKn _ (fun i hi e => by
            by_cases z : i < t
            · have := hdf.2.2.2.1 m i (by omega) b3.1 z; omega
            · have z1 : dfA σ m < dfB σ t := by omega
              by_cases z2 : i = t
              · subst z2; omega
              · have := hsB t i (by omega) hi; have ei : dfB σ i = tn (σ 8 i) := rfl; omega)
          rw [e1]
          exact (hAm m b3.1).2
    · refine v_X1_differences_204 _ _ _ _ _ _ _ _ τ ?_
      have hgo : ∀ (m' t' : Nat), m' ≤ zA' → t' ≤ zB' → s + 1 ≤ m' + t' → df_I (dfA σ) zA' (dfB σ) zB' (mC σ) (kC σ) (τ 10) f m' t' → ∃ n', n' < 10 * (zA' + zB' - s) + 4 ∧ ([] : List Value) = [] ∧ ([.ref 4, .ref 7, .ref 10] : List Value) = [.ref 4, .ref 7, .ref 10] ∧ dfInv σ n' 22 (dfL zA' zB' f m' t' (s + 1) (some (.int (bI (df_hm (dfA σ) zA' (dfB σ) zB' m t)))) (some (.int (bI (df_ht (dfA σ) zA' (dfB σ) zB' m t)))) (some (.int w))) τ := by
        intro m' t' h1 h2 h3 h4
        exact ⟨10 * (zA' + zB' - (s + 1)) + 9, by omega, rfl, rfl, zA', zB', f, m', t', s + 1, _, _, _, rfl, hA, hB, hzA, hzB, hfr, h3, h1, h2, Or.inl ⟨rfl, rfl, hfs, h4⟩⟩
      rw [bI_0, bI_0, nI_add, nI_add, nI_add, nI_add, nI_add]
      refine ⟨fun a1 => ⟨fun a2 => ?_, fun a2 => ?_⟩, fun a1 => ⟨fun a2 => ?_, fun a2 => ?_⟩⟩
      · have := df_one hmt a1
        rw [a2] at this; cases this
      · have a2 : df_ht (dfA σ) zA' (dfB σ) zB' m t = true := by simpa using a2
        have b2 := of_decide_eq_true a2
        rw [if_neg (by rw [a1]; decide), if_pos a2] at hdf
        exact hgo m (t + 1) (by omega) (by omega) (by omega) hdf
      · have a1 : df_hm (dfA σ) zA' (dfB σ) zB' m t = true := by simpa using a1
        have b1 := of_decide_eq_true a1
        rw [if_pos a1, if_neg (by rw [a2]; decide)] at hdf
        exact hgo (m + 1) t (by omega) (by omega) (by omega) hdf
      · have a1 : df_hm (dfA σ) zA' (dfB σ) zB' m t = true := by simpa using a1
        have a2 : df_ht (dfA σ) zA' (dfB σ) zB' m t = true := by simpa using a2
        have b1 := of_decide_eq_true a1
        have b2 := of_decide_eq_true a2
        rw [if_pos a1, if_pos a2] at hdf
        exact hgo (m + 1) (t + 1) (by omega) (by omega) (by omega) hdf
end
section
/-! what rows mean: KeyPlan$Layout -/
noncomputable def dc (P : Prop) : Bool := @decide P (Classical.propDecidable P)
theorem dc_t {P : Prop} (h : P) : dc P = true := @decide_eq_true P (Classical.propDecidable P) h
theorem dc_f {P : Prop} (h : ¬ P) : dc P = false := @decide_eq_false P (Classical.propDecidable P) h
theorem dc_iff {P : Prop} : dc P = true ↔ P := ⟨fun h => @of_decide_eq_true P (Classical.propDecidable P) h, dc_t⟩
theorem dc_iff0 {P : Prop} : dc P = false ↔ ¬ P := ⟨fun h => @of_decide_eq_false P (Classical.propDecidable P) h, dc_f⟩
theorem dc_congr {P Q : Prop} (h : P ↔ Q) : dc P = dc Q := by rw [propext h]
/-- what a row means in a context -/
def mean (o M : Nat → Int32) (r : Nat) : Nat → Nat → Int32
  | 0, _ => -1
  | f + 1, c => if M (c * 16777216 + r) = -1 then (if o c = -1 then -1 else mean o M r f (tn (o c))) else if M (c * 16777216 + r) = nI 40 then -1 else M (c * 16777216 + r)
theorem mean_s (o M : Nat → Int32) (r f c : Nat) : mean o M r (f + 1) c = if M (c * 16777216 + r) = -1 then (if o c = -1 then -1 else mean o M r f (tn (o c))) else if M (c * 16777216 + r) = nI 40 then -1 else M (c * 16777216 + r) := rfl
theorem mean_fuel {o M : Nat → Int32} {nn : Int32} {r : Nat} (h : ctxOK o nn) : ∀ (f g c : Nat), c < tn nn → c < f → c < g → mean o M r f c = mean o M r g c
  | 0, _, _, _, h1, _ => absurd h1 (Nat.not_lt_zero _)
  | _, 0, _, _, _, h1 => absurd h1 (Nat.not_lt_zero _)
  | f + 1, g + 1, c, hc, h1, h2 => by
    obtain ⟨n, rfl, hn1, hn2, h3, h4⟩ := id h
    rw [tn_nI (by omega)] at hc
    rw [mean_s, mean_s]
    by_cases h0 : c = 0
    · subst h0; rw [h3, if_pos rfl, if_pos rfl]
    · obtain ⟨p, hp, he⟩ := h4 c (by omega) hc
      rw [he, tn_nI (by omega), mean_fuel h f g p (by rw [tn_nI (by omega)]; omega) (by omega) (by omega)]
theorem mean_in {o M : Nat → Int32} {r : Nat} : ∀ (f c : Nat), mean o M r f c ≠ -1 → ∃ c', M (c' * 16777216 + r) ≠ -1 ∧ mean o M r f c = M (c' * 16777216 + r) ∧ M (c' * 16777216 + r) ≠ nI 40
  | 0, _, h => absurd rfl h
  | f + 1, c, h => by
    rw [mean_s] at h ⊢
    by_cases h1 : M (c * 16777216 + r) = -1
    · rw [if_pos h1] at h ⊢
      by_cases h2 : o c = -1
      · rw [if_pos h2] at h; exact absurd rfl h
      · rw [if_neg h2] at h ⊢; exact mean_in f _ h
    · rw [if_neg h1] at h ⊢
      by_cases h2 : M (c * 16777216 + r) = nI 40
      · rw [if_pos h2] at h; exact absurd rfl h
      · rw [if_neg h2] at h ⊢; exact ⟨c, h1, rfl, h2⟩
theorem mean_congr {o o' M M' : Nat → Int32} {r : Nat} {nn : Int32} (h : ctxOK o nn) (ho : ∀ c, c < tn nn → o' c = o c) (hM : ∀ k, M' k = M k) : ∀ (f c : Nat), c < tn nn → mean o' M' r f c = mean o M r f c
  | 0, _, _ => rfl
  | f + 1, c, hc => by
    rw [mean_s, mean_s, hM, ho c hc]
    obtain ⟨n, rfl, hn1, hn2, h3, h4⟩ := id h
    rw [tn_nI (by omega)] at hc
    by_cases h0 : c = 0
    · subst h0; rw [h3, if_pos rfl, if_pos rfl]
    · obtain ⟨p, hp, he⟩ := h4 c (by omega) hc
      rw [he, tn_nI (by omega), mean_congr h ho hM f p (by rw [tn_nI (by omega)]; omega)]
/-- contexts and map as they should be -/
def LI (σ : Sg) : Prop := ctxOK (σ 3) (σ 2 1) ∧ bOK (σ 5) (σ 6) (σ 4 2)
def pr_X5_meaning : SPre := fun As σ => ∃ ctx : Int32, ∃ row : Int32, As = [.ref 1, .int ctx, .int row] ∧ (LI σ ∧ ∃ c r : Nat, ctx = nI c ∧ c < tn (σ 2 1) ∧ row = nI r ∧ r < 16777216)
def po_X5_meaning : SPost := fun As σ r τ => match As with
  | [.ref _, .int ctx, .int row] => (τ = σ ∧ r = mean (σ 3) (mC σ) (tn row) 12 (tn ctx))
  | _ => True
def ms_X5_meaning : List Me := [(25, 1, 1, 2, true, pr_X1_key, po_X1_key), (29, 0, 1, 1, true, pr_X1_at, po_X1_at), (33, 0, 2, 1, true, pr_X2_outsideOf, po_X2_outsideOf)]
theorem mk_X5_meaning : ∀ q ∈ ms_X5_meaning, kp_okM layC RX5 2 q := List.forall_mem_cons.mpr ⟨Or.inl ⟨0, yX1_key, cX1_key, 2, (some .int), c_X1_key, by omega, by decide, rfl, lk_X5_25⟩, List.forall_mem_cons.mpr ⟨Or.inl ⟨1, yX1_at, cX1_at, 3, (some .int), c_X1_at, by omega, by decide, rfl, lk_X5_29⟩, List.forall_mem_cons.mpr ⟨Or.inl ⟨1, yX2_outsideOf, cX2_outsideOf, 2, (some .int), c_X2_outsideOf, by omega, by decide, rfl, lk_X5_33⟩, fun _ h => absurd h List.not_mem_nil⟩⟩⟩
set_option maxRecDepth 100000 in
theorem v_X5_meaning {J : Nat → Lcl → List Value → Sg → Prop} {Q : Int32 → Sg → Prop} (ctx row : Int32) (σ : Sg) (h : J 5 [some (.ref 1), some (.int ctx), some (.int row), some (.int ctx), some (.int (nI 0)), none] [] σ) : kp_T layC gl_X5 pl_X5 (ms_X5_meaning) tb_X5_meaning (kp_rk (some .int)) J Q 41 tb_X5_meaning (kp_en [.ref 1, .int ctx, .int row] 6) [] σ := h
set_option maxRecDepth 100000 in
theorem v_X5_meaning_5 {J : Nat → Lcl → List Value → Sg → Prop} {Q : Int32 → Sg → Prop} (ctx row a1 steps : Int32) (o5 : Option Value) (σ : Sg) (h : (¬ steps < (nI 12) → Q (-1) σ) ∧ (steps < (nI 12) → (a1 = (-1) → Q (-1) σ) ∧ (¬ a1 = (-1) → pr_X1_key [.int a1, .int row] σ ∧ ∀ (x2 : Int32) (τ1 : Sg), po_X1_key [.int a1, .int row] σ x2 τ1 → (pr_X1_at [.ref 4, .int x2] τ1 ∧ ∀ (x4 : Int32) (τ3 : Sg), po_X1_at [.ref 4, .int x2] τ1 x4 τ3 → ((x4 = (-1) → pr_X2_outsideOf [.ref 2, .int a1] τ3 ∧ ∀ (x6 : Int32) (τ5 : Sg), po_X2_outsideOf [.ref 2, .int a1] τ3 x6 τ5 → (J 5 [some (.ref 1), some (.int ctx), some (.int row), some (.int x6), some (.int (steps + nI 1)), some (.int x4)] [] τ5)) ∧ (¬ x4 = (-1) → (¬ x4 = (nI 40) → Q x4 τ3) ∧ (x4 = (nI 40) → Q (-1) τ3))))))) : kp_T1 layC gl_X5 pl_X5 (ms_X5_meaning) tb_X5_meaning (kp_rk (some .int)) J Q 41 5 [some (.ref 1), some (.int ctx), some (.int row), some (.int a1), some (.int steps), o5] [] σ := h
abbrev iv_X5_meaning : List Value → Sg → Nat → Nat → Lcl → List Value → Sg → Prop := fun As σ n pc ls st τ => pc = 5 ∧ st = [] ∧ τ = σ ∧ ∃ (c0 r sp : Nat) (a1 : Int32) (o5 : Option Value), As = [.ref 1, .int (nI c0), .int (nI r)] ∧ ls = [some (.ref 1), some (.int (nI c0)), some (.int (nI r)), some (.int a1), some (.int (nI sp)), o5] ∧ sp ≤ 12 ∧ n = 12 - sp ∧ c0 < 2 ^ 31 ∧ r < 16777216 ∧ ((a1 = -1 ∧ mean (σ 3) (mC σ) r 12 c0 = -1) ∨ ∃ c, a1 = nI c ∧ c < tn (σ 2 1) ∧ mean (σ 3) (mC σ) r 12 c0 = mean (σ 3) (mC σ) r (12 - sp) c)
set_option maxRecDepth 100000 in
set_option maxHeartbeats 4000000 in
theorem c_X5_meaning : kp_Met layC 2 yX5_meaning cX5_meaning 6 (some .int) (pr_X5_meaning) (po_X5_meaning) := by
  refine kp_met (N := 41) (by decide) tk_X5_meaning gk_X5 pk_X5 (mk_X5_meaning) rfl (iv_X5_meaning) ?_ ?_
  · rintro As σ ⟨ctx, row, rfl, hp⟩
    refine ⟨⟨rfl, Nat.le_of_ble_eq_true rfl⟩, v_X5_meaning ctx row σ ?_⟩
    obtain ⟨hL, c, r, rfl, hc, rfl, hr⟩ := hp
    have := tn_lt (σ 2 1)
    exact ⟨12, rfl, rfl, rfl, c, r, 0, nI c, none, rfl, rfl, by omega, rfl, by omega, hr, Or.inr ⟨c, rfl, hc, rfl⟩⟩
  · rintro As σ ⟨ctx, row, rfl, hp⟩ n pc ls st τ hI
    obtain ⟨⟨hc, hbo⟩, -⟩ := hp
    obtain ⟨rfl, rfl, rfl, c0, r, sp, a1, o5, hAs, rfl, hsp, rfl, hc0, hr, hw⟩ := hI
    cases hAs
    obtain ⟨nn, hn, hn1, hn2, h3, h4⟩ := id hc
    have htn : tn (τ 2 1) = nn := by rw [hn, tn_nI (by omega)]
    rw [htn] at hw
    refine v_X5_meaning_5 _ _ _ _ o5 τ ?_
    rw [nI_ltI (by omega) (by omega)]
    have hQ : ∀ x, mean (τ 3) (mC τ) r 12 c0 = x → po_X5_meaning [.ref 1, .int (nI c0), .int (nI r)] τ x τ := by
      rintro x rfl
      exact ⟨rfl, by rw [tn_nI (show r < 2 ^ 31 by omega), tn_nI hc0]⟩
    refine ⟨fun h1 => hQ _ ?_, fun h1 => ⟨fun h2 => hQ _ ?_, fun h2 => ?_⟩⟩
    · rcases hw with ⟨-, hw⟩ | ⟨c, -, -, hw⟩
      · exact hw
      · rw [hw, show 12 - sp = 0 by omega]; rfl
    · rcases hw with ⟨-, hw⟩ | ⟨c, rfl, hlt, hw⟩
      · exact hw
      · exact absurd h2 (nI_m1 (by omega))
    · rcases hw with ⟨e, -⟩ | ⟨c, rfl, hlt, hw⟩
      · exact absurd e h2
      · rw [show 12 - sp = (12 - (sp + 1)) + 1 by omega, mean_s _ _ r (12 - (sp + 1)) c] at hw
        refine ⟨⟨_, _, rfl, c, r, rfl, by omega, rfl, hr⟩, ?_⟩
        rintro x2 τ1 ⟨rfl, rfl⟩
        rw [tn_nI (show c < 2 ^ 31 by omega), tn_nI (show r < 2 ^ 31 by omega)]
        refine ⟨⟨4, _, rfl, Or.inl rfl, hbo, c * 16777216 + r, rfl, by omega⟩, ?_⟩
        rintro x4 τ3 ⟨rfl, rfl⟩
        rw [tn_nI (show c * 16777216 + r < 2 ^ 31 by omega)]
        show (mC τ3 (c * 16777216 + r) = -1 → _) ∧ (¬ mC τ3 (c * 16777216 + r) = -1 → (¬ mC τ3 (c * 16777216 + r) = nI 40 → po_X5_meaning _ _ (mC τ3 (c * 16777216 + r)) _) ∧ _)
        refine ⟨fun h5 => ⟨⟨_, rfl, hc⟩, ?_⟩, fun h5 => ⟨fun h6 => hQ _ (by rw [hw, if_neg h5, if_neg h6]), fun h6 => hQ _ (by rw [hw, if_neg h5, if_pos h6])⟩⟩
        rintro x6 τ5 ⟨rfl, rfl⟩
        rw [if_pos (by rw [hn, isCx_iff (by omega)]; exact ⟨c, hlt, rfl⟩), tn_nI (by omega), nI_add]
        refine ⟨12 - (sp + 1), by omega, rfl, rfl, rfl, c0, r, sp + 1, _, _, rfl, rfl, by omega, rfl, hc0, hr, ?_⟩
        rw [htn]
        rw [if_pos h5] at hw
        by_cases h0 : c = 0
        · subst h0
          rw [h3, if_pos rfl] at hw
          exact Or.inl ⟨h3, hw⟩
        · obtain ⟨p, hp, he⟩ := h4 c (by omega) hlt
          rw [he, if_neg (nI_m1 (by omega)), tn_nI (by omega)] at hw
          exact Or.inr ⟨p, he, by omega, hw⟩
/-- a longer row that begins so means something -/
def opensP (o M : Nat → Int32) (c line : Nat) : Prop := ∃ r, r < 16777216 ∧ r ≠ line ∧ r % 256 ^ rlen line = line ∧ mean o M r 12 c ≠ -1
theorem key_div {c r : Nat} (h : r < 16777216) : (c * 16777216 + r) / 16777216 = c ∧ (c * 16777216 + r) % 16777216 = r := by omega
theorem row_in {σ : Sg} {z r c : Nat} (hz : σ 4 2 = nI z) (h1 : z ≤ 120) (hr : r < 16777216) (h : mean (σ 3) (mC σ) r 12 c ≠ -1) : ∃ i, i < z ∧ tn (σ 5 i) % 16777216 = r := by
  obtain ⟨c', h2, -⟩ := mean_in _ _ h
  have h2 : mpC (σ 5) (σ 6) (σ 4 2) (c' * 16777216 + r) ≠ -1 := h2
  rw [hz] at h2
  obtain ⟨i, hi, e⟩ := mpC_some h1 h2
  exact ⟨i, hi, by rw [e]; omega⟩
def pr_X5_opensLonger : SPre := fun As σ => ∃ ctx : Int32, ∃ line : Int32, As = [.ref 1, .int ctx, .int line] ∧ (LI σ ∧ ∃ c l : Nat, ctx = nI c ∧ c < tn (σ 2 1) ∧ line = nI l ∧ l < 16777216)
def po_X5_opensLonger : SPost := fun As σ r τ => match As with
  | [.ref _, .int ctx, .int line] => (τ = σ ∧ r = bI (dc (opensP (σ 3) (mC σ) (tn ctx) (tn line))))
  | _ => True
def ms_X5_opensLonger : List Me := [(51, 1, 1, 1, true, pr_X1_rowOf, po_X1_rowOf), (54, 1, 0, 2, true, pr_X7_beginsWith, po_X7_beginsWith), (36, 0, 5, 2, true, pr_X5_meaning, po_X5_meaning)]
theorem mk_X5_opensLonger : ∀ q ∈ ms_X5_opensLonger, kp_okM layC RX5 3 q := List.forall_mem_cons.mpr ⟨Or.inl ⟨0, yX1_rowOf, cX1_rowOf, 1, (some .int), c_X1_rowOf, by omega, by decide, rfl, lk_X5_51⟩, List.forall_mem_cons.mpr ⟨Or.inl ⟨2, yX7_beginsWith, cX7_beginsWith, 2, (some .boolean), c_X7_beginsWith, by omega, by decide, rfl, lk_X5_54⟩, List.forall_mem_cons.mpr ⟨Or.inl ⟨2, yX5_meaning, cX5_meaning, 6, (some .int), c_X5_meaning, by omega, by decide, rfl, lk_X5_36⟩, fun _ h => absurd h List.not_mem_nil⟩⟩⟩
set_option maxRecDepth 100000 in
theorem v_X5_opensLonger {J : Nat → Lcl → List Value → Sg → Prop} {Q : Int32 → Sg → Prop} (ctx line : Int32) (σ : Sg) (h : J 2 [some (.ref 1), some (.int ctx), some (.int line), some (.int (nI 0)), none] [] σ) : kp_T layC gl_X5 pl_X5 (ms_X5_opensLonger) tb_X5_opensLonger (kp_rk (some .boolean)) J Q 38 tb_X5_opensLonger (kp_en [.ref 1, .int ctx, .int line] 5) [] σ := h
set_option maxRecDepth 100000 in
theorem v_X5_opensLonger_2 {J : Nat → Lcl → List Value → Sg → Prop} {Q : Int32 → Sg → Prop} (ctx line i : Int32) (o4 : Option Value) (σ : Sg) (h : (¬ i < (σ 4 2) → ((nI 0) = nI 0 ∨ (nI 0) = nI 1) ∧ Q (nI 0) σ) ∧ (i < (σ 4 2) → vp_in i 120 ∧ (pr_X1_rowOf [.int (σ 5 (i).toNatClampNeg)] σ ∧ ∀ (x2 : Int32) (τ1 : Sg), po_X1_rowOf [.int (σ 5 (i).toNatClampNeg)] σ x2 τ1 → ((x2 = line → J 2 [some (.ref 1), some (.int ctx), some (.int line), some (.int (i + nI 1)), some (.int x2)] [] τ1) ∧ (¬ x2 = line → pr_X7_beginsWith [.int x2, .int line] τ1 ∧ ∀ (x4 : Int32) (τ3 : Sg), po_X7_beginsWith [.int x2, .int line] τ1 x4 τ3 → ((x4 = (nI 0) → J 2 [some (.ref 1), some (.int ctx), some (.int line), some (.int (i + nI 1)), some (.int x2)] [] τ3) ∧ (¬ x4 = (nI 0) → pr_X5_meaning [.ref 1, .int ctx, .int x2] τ3 ∧ ∀ (x6 : Int32) (τ5 : Sg), po_X5_meaning [.ref 1, .int ctx, .int x2] τ3 x6 τ5 → ((x6 = (-1) → J 2 [some (.ref 1), some (.int ctx), some (.int line), some (.int (i + nI 1)), some (.int x2)] [] τ5) ∧ (¬ x6 = (-1) → ((nI 1) = nI 0 ∨ (nI 1) = nI 1) ∧ Q (nI 1) τ5))))))))) : kp_T1 layC gl_X5 pl_X5 (ms_X5_opensLonger) tb_X5_opensLonger (kp_rk (some .boolean)) J Q 38 2 [some (.ref 1), some (.int ctx), some (.int line), some (.int i), o4] [] σ := h
abbrev iv_X5_opensLonger : List Value → Sg → Nat → Nat → Lcl → List Value → Sg → Prop := fun As σ n pc ls st τ => pc = 2 ∧ st = [] ∧ τ = σ ∧ ∃ (c l i z : Nat) (o4 : Option Value), As = [.ref 1, .int (nI c), .int (nI l)] ∧ ls = [some (.ref 1), some (.int (nI c)), some (.int (nI l)), some (.int (nI i)), o4] ∧ σ 4 2 = nI z ∧ z ≤ 120 ∧ i ≤ z ∧ n = z - i ∧ c < tn (σ 2 1) ∧ l < 16777216 ∧ ∀ j, j < i → ¬ (tn (σ 5 j) % 16777216 ≠ l ∧ tn (σ 5 j) % 16777216 % 256 ^ rlen l = l ∧ mean (σ 3) (mC σ) (tn (σ 5 j) % 16777216) 12 c ≠ -1)
set_option maxRecDepth 100000 in
set_option maxHeartbeats 4000000 in
theorem c_X5_opensLonger : kp_Met layC 3 yX5_opensLonger cX5_opensLonger 5 (some .boolean) (pr_X5_opensLonger) (po_X5_opensLonger) := by
  refine kp_met (N := 38) (by decide) tk_X5_opensLonger gk_X5 pk_X5 (mk_X5_opensLonger) rfl (iv_X5_opensLonger) ?_ ?_
  · rintro As σ ⟨ctx, line, rfl, hp⟩
    refine ⟨⟨rfl, Nat.le_of_ble_eq_true rfl⟩, v_X5_opensLonger ctx line σ ?_⟩
    obtain ⟨⟨hc, z, hz, h1, h2⟩, c, l, rfl, h3, rfl, h4⟩ := hp
    exact ⟨z, rfl, rfl, rfl, c, l, 0, z, none, rfl, rfl, hz, h1, by omega, by omega, h3, h4, fun j hj => by omega⟩
  · rintro As σ ⟨ctx, line, rfl, hp⟩ n pc ls st τ hI
    obtain ⟨hL, -⟩ := hp
    obtain ⟨hc, hbo⟩ := id hL
    obtain ⟨rfl, rfl, rfl, c, l, i, z, o4, hAs, rfl, hz, h1, hi, rfl, hcn, hl, hj⟩ := hI
    cases hAs
    obtain ⟨z', hz', h1', h2, h3⟩ := id hbo
    have : z' = z := (nI_eq (by omega) (by omega)).mp (hz'.symm.trans hz)
    subst this
    have := tn_lt (τ 2 1)
    have ec : tn (nI c) = c := tn_nI (by omega)
    have el : tn (nI l) = l := tn_nI (by omega)
    refine v_X5_opensLonger_2 _ _ _ o4 τ ?_
    rw [hz, nI_ltI (by omega) (by omega)]
    refine ⟨fun g1 => ⟨Or.inl rfl, rfl, ?_⟩, fun g1 => ?_⟩
    · rw [ec, el, dc_f]
      · rfl
      · rintro ⟨r, hr, hne, hb, hm⟩
        obtain ⟨k, hk, e⟩ := row_in hz h1 hr hm
        exact hj k (by omega) (by rw [e]; exact ⟨hne, hb, hm⟩)
    · have hnext : ∀ (o : Option Value), (tn (τ 5 i) % 16777216 ≠ l → tn (τ 5 i) % 16777216 % 256 ^ rlen l = l → mean (τ 3) (mC τ) (tn (τ 5 i) % 16777216) 12 c = -1) → ∃ n', n' < z' - i ∧ iv_X5_opensLonger [.ref 1, .int (nI c), .int (nI l)] τ n' 2 [some (.ref 1), some (.int (nI c)), some (.int (nI l)), some (.int (nI (i + 1))), o] [] τ := by
        intro o hno
        refine ⟨z' - (i + 1), by omega, rfl, rfl, rfl, c, l, i + 1, z', o, rfl, rfl, hz, h1, by omega, rfl, hcn, hl, fun j hj' => ?_⟩
        by_cases e : j = i
        · subst e
          rintro ⟨a1, a2, a3⟩
          exact a3 (hno a1 a2)
        · exact hj j (by omega)
      have hkey := h2 i g1
      have hrow : tn (τ 5 i) % 16777216 < 16777216 := Nat.mod_lt _ (by decide)
      refine ⟨(kp_in (by omega)).mpr (by omega), ⟨_, rfl, tn (τ 5 i), by rw [nI_clamp (by omega)]; exact hkey.1, tn_lt _⟩, ?_⟩
      rw [nI_clamp (show i < 2 ^ 31 by omega), nI_add]
      rintro x2 τ1 ⟨rfl, rfl⟩
      rw [nI_eq (by omega) (by omega)]
      refine ⟨fun g2 => hnext _ (fun z => absurd g2 z), fun g2 => ⟨⟨_, _, rfl, _, l, rfl, hrow, rfl, hl⟩, ?_⟩⟩
      rintro x4 τ3 ⟨rfl, rfl⟩
      rw [bI_0, tn_nI (show tn (τ3 5 i) % 16777216 < 2 ^ 31 by omega), el]
      refine ⟨fun g3 => hnext _ (fun _ z => absurd z (of_decide_eq_false g3)), fun g3 => ⟨⟨_, _, rfl, hL, c, _, rfl, hcn, rfl, hrow⟩, ?_⟩⟩
      rintro x6 τ5 ⟨rfl, rfl⟩
      rw [tn_nI (show tn (τ5 5 i) % 16777216 < 2 ^ 31 by omega), ec]
      refine ⟨fun g4 => hnext _ (fun _ _ => g4), fun g4 => ⟨Or.inr rfl, rfl, ?_⟩⟩
      rw [ec, el, dc_t]
      · rfl
      · exact ⟨_, hrow, g2, of_decide_eq_true (show decide _ = true by simpa using g3), g4⟩
def pr_X5_isLive : SPre := fun As σ => ∃ ctx : Int32, ∃ line : Int32, As = [.ref 1, .int ctx, .int line] ∧ (LI σ ∧ ∃ c l : Nat, ctx = nI c ∧ c < tn (σ 2 1) ∧ line = nI l ∧ l < 16777216)
def po_X5_isLive : SPost := fun As σ r τ => match As with
  | [.ref _, .int ctx, .int line] => (τ = σ ∧ r = bI (dc (mean (σ 3) (mC σ) (tn line) 12 (tn ctx) ≠ -1 ∨ opensP (σ 3) (mC σ) (tn ctx) (tn line))))
  | _ => True
def ms_X5_isLive : List Me := [(36, 0, 5, 2, true, pr_X5_meaning, po_X5_meaning), (39, 0, 5, 2, true, pr_X5_opensLonger, po_X5_opensLonger)]
theorem mk_X5_isLive : ∀ q ∈ ms_X5_isLive, kp_okM layC RX5 4 q := List.forall_mem_cons.mpr ⟨Or.inl ⟨2, yX5_meaning, cX5_meaning, 6, (some .int), c_X5_meaning, by omega, by decide, rfl, lk_X5_36⟩, List.forall_mem_cons.mpr ⟨Or.inl ⟨3, yX5_opensLonger, cX5_opensLonger, 5, (some .boolean), c_X5_opensLonger, by omega, by decide, rfl, lk_X5_39⟩, fun _ h => absurd h List.not_mem_nil⟩⟩
set_option maxRecDepth 100000 in
theorem v_X5_isLive {J : Nat → Lcl → List Value → Sg → Prop} {Q : Int32 → Sg → Prop} (ctx line : Int32) (σ : Sg) (h : pr_X5_meaning [.ref 1, .int ctx, .int line] σ ∧ ∀ (x2 : Int32) (τ1 : Sg), po_X5_meaning [.ref 1, .int ctx, .int line] σ x2 τ1 → ((¬ x2 = (-1) → ((nI 1) = nI 0 ∨ (nI 1) = nI 1) ∧ Q (nI 1) τ1) ∧ (x2 = (-1) → pr_X5_opensLonger [.ref 1, .int ctx, .int line] τ1 ∧ ∀ (x4 : Int32) (τ3 : Sg), po_X5_opensLonger [.ref 1, .int ctx, .int line] τ1 x4 τ3 → ((x4 = (nI 0) → ((nI 0) = nI 0 ∨ (nI 0) = nI 1) ∧ Q (nI 0) τ3) ∧ (¬ x4 = (nI 0) → ((nI 1) = nI 0 ∨ (nI 1) = nI 1) ∧ Q (nI 1) τ3))))) : kp_T layC gl_X5 pl_X5 (ms_X5_isLive) tb_X5_isLive (kp_rk (some .boolean)) J Q 30 tb_X5_isLive (kp_en [.ref 1, .int ctx, .int line] 3) [] σ := h
set_option maxRecDepth 100000 in
set_option maxHeartbeats 4000000 in
theorem c_X5_isLive : kp_Met layC 4 yX5_isLive cX5_isLive 3 (some .boolean) (pr_X5_isLive) (po_X5_isLive) := by
  refine kp_met (N := 30) (by decide) tk_X5_isLive gk_X5 pk_X5 (mk_X5_isLive) rfl (fun _ _ _ _ _ _ _ => False) ?_ (fun _ _ _ _ _ _ _ _ h => h.elim)
  rintro As σ ⟨ctx, line, rfl, hp⟩
  refine ⟨⟨rfl, Nat.le_of_ble_eq_true rfl⟩, v_X5_isLive ctx line σ ?_⟩
  refine ⟨⟨_, _, rfl, hp⟩, ?_⟩
  rintro x2 τ1 ⟨rfl, rfl⟩
  refine ⟨fun h1 => ⟨Or.inr rfl, rfl, by rw [dc_t (Or.inl h1)]; rfl⟩, fun h1 => ⟨⟨_, _, rfl, hp⟩, ?_⟩⟩
  rintro x4 τ3 ⟨rfl, rfl⟩
  rw [bI_0, dc_iff0]
  refine ⟨fun h2 => ⟨Or.inl rfl, rfl, by rw [dc_f (fun h => h.elim (fun z => z h1) h2)]; rfl⟩, fun h2 => ⟨Or.inr rfl, rfl, by rw [dc_t (Or.inr (Classical.not_not.mp h2))]; rfl⟩⟩
/-- rising numbers -/
def srtA (g : Nat → Int32) (f : Nat) : Prop := (∀ i, i < f → g i = nI (tn (g i))) ∧ ∀ i j, i < j → j < f → tn (g i) < tn (g j)
theorem srtA_ins {g : Nat → Int32} {f p r : Nat} (h : srtA g f) (hp : p ≤ f) (hr : r < 2 ^ 31) (h1 : ∀ i, i < p → tn (g i) < r) (h2 : ∀ i, p ≤ i → i < f → r < tn (g i)) : srtA (upd (shU g p f) p (nI r)) (f + 1) ∧ ∀ k, (∃ i, i < f + 1 ∧ tn (upd (shU g p f) p (nI r) i) = k) ↔ (∃ i, i < f ∧ tn (g i) = k) ∨ k = r := by
  have hb : ∀ i, i < p → upd (shU g p f) p (nI r) i = g i := fun i hi => by simp only [upd, shU]; rw [if_neg (by omega), if_pos (by omega)]
  have hm : upd (shU g p f) p (nI r) p = nI r := by simp [upd]
  have ha : ∀ i, p ≤ i → i < f → upd (shU g p f) p (nI r) (i + 1) = g i := fun i hi hz' => by simp only [upd, shU]; rw [if_neg (by omega), if_neg (by omega), if_pos (by omega), Nat.add_sub_cancel]
  refine ⟨⟨fun i hi => ?_, fun i j hij hj => ?_⟩, fun k => ⟨?_, ?_⟩⟩
  · rcases Nat.lt_trichotomy i p with a | a | a
    · rw [hb i a]; exact h.1 i (by omega)
    · subst a; rw [hm, tn_nI hr]
    · obtain ⟨i, rfl⟩ : ∃ i', i = i' + 1 := ⟨i - 1, by omega⟩
      rw [ha i (by omega) (by omega)]; exact h.1 i (by omega)
  · rcases Nat.lt_trichotomy j p with a | a | a
    · rw [hb i (by omega), hb j a]; exact h.2 i j hij (by omega)
    · subst a; rw [hb i hij, hm, tn_nI hr]; exact h1 i hij
    · obtain ⟨j, rfl⟩ : ∃ j', j = j' + 1 := ⟨j - 1, by omega⟩
      rw [ha j (by omega) (by omega)]
      rcases Nat.lt_trichotomy i p with b | b | b
      · rw [hb i b]; exact h.2 i j (by omega) (by omega)
      · subst b; rw [hm, tn_nI hr]; exact h2 j (by omega) (by omega)
      · obtain ⟨i, rfl⟩ : ∃ i', i = i' + 1 := ⟨i - 1, by omega⟩
        rw [ha i (by omega) (by omega)]; exact h.2 i j (by omega) (by omega)
  · rintro ⟨i, hi, rfl⟩
    rcases Nat.lt_trichotomy i p with a | a | a
    · exact Or.inl ⟨i, by omega, by rw [hb i a]⟩
    · subst a; exact Or.inr (by rw [hm, tn_nI hr])
    · obtain ⟨i, rfl⟩ : ∃ i', i = i' + 1 := ⟨i - 1, by omega⟩
      exact Or.inl ⟨i, by omega, by rw [ha i (by omega) (by omega)]⟩
  · rintro (⟨i, hi, rfl⟩ | rfl)
    · by_cases a : i < p
      · exact ⟨i, by omega, by rw [hb i a]⟩
      · exact ⟨i + 1, by omega, by rw [ha i (by omega) hi]⟩
    · exact ⟨p, by omega, by rw [hm, tn_nI hr]⟩
def pr_X5_insertOnce : SPre := fun As σ => ∃ filled : Int32, ∃ row : Int32, As = [.ref 12, .int filled, .int row] ∧ (∃ f r : Nat, filled = nI f ∧ f < 120 ∧ row = nI r ∧ r < 2 ^ 31 ∧ srtA (σ 12) f)
def po_X5_insertOnce : SPost := fun As σ r τ => match As with
  | [.ref _, .int filled, .int row] => (fr [12] σ τ ∧ ∃ f' : Nat, r = nI f' ∧ f' ≤ tn filled + 1 ∧ srtA (τ 12) f' ∧ ∀ k, (∃ i, i < f' ∧ tn (τ 12 i) = k) ↔ (∃ i, i < tn filled ∧ tn (σ 12 i) = k) ∨ k = tn row)
  | _ => True
def ms_X5_insertOnce : List Me := []
theorem mk_X5_insertOnce : ∀ q ∈ ms_X5_insertOnce, kp_okM layC RX5 0 q := fun _ h => absurd h List.not_mem_nil
set_option maxRecDepth 100000 in
theorem v_X5_insertOnce {J : Nat → Lcl → List Value → Sg → Prop} {Q : Int32 → Sg → Prop} (filled row : Int32) (σ : Sg) (h : J 2 [some (.ref 12), some (.int filled), some (.int row), some (.int (nI 0)), none, none] [] σ) : kp_T layC gl_X5 pl_X5 (ms_X5_insertOnce) tb_X5_insertOnce (kp_rk (some .int)) J Q 60 tb_X5_insertOnce (kp_en [.ref 12, .int filled, .int row] 6) [] σ := h
set_option maxRecDepth 100000 in
theorem v_X5_insertOnce_2 {J : Nat → Lcl → List Value → Sg → Prop} {Q : Int32 → Sg → Prop} (filled row place : Int32) (o4 o5 : Option Value) (σ : Sg) (h : (¬ place < filled → (¬ place < filled → (¬ (nI 0) = (nI 0) → Q filled σ) ∧ ((nI 0) = (nI 0) → (filled < (nI 120) → J 55 [some (.ref 12), some (.int filled), some (.int row), some (.int place), some (.int (nI 0)), some (.int filled)] [] σ) ∧ (¬ filled < (nI 120) → Q filled σ))) ∧ (place < filled → vp_in place 120 ∧ ((¬ (σ 12 (place).toNatClampNeg) = row → (¬ (nI 0) = (nI 0) → Q filled σ) ∧ ((nI 0) = (nI 0) → (filled < (nI 120) → J 55 [some (.ref 12), some (.int filled), some (.int row), some (.int place), some (.int (nI 0)), some (.int filled)] [] σ) ∧ (¬ filled < (nI 120) → Q filled σ))) ∧ ((σ 12 (place).toNatClampNeg) = row → (¬ (nI 1) = (nI 0) → Q filled σ) ∧ ((nI 1) = (nI 0) → (filled < (nI 120) → J 55 [some (.ref 12), some (.int filled), some (.int row), some (.int place), some (.int (nI 1)), some (.int filled)] [] σ) ∧ (¬ filled < (nI 120) → Q filled σ)))))) ∧ (place < filled → vp_in place 120 ∧ ((¬ (σ 12 (place).toNatClampNeg) < row → (¬ place < filled → (¬ (nI 0) = (nI 0) → Q filled σ) ∧ ((nI 0) = (nI 0) → (filled < (nI 120) → J 55 [some (.ref 12), some (.int filled), some (.int row), some (.int place), some (.int (nI 0)), some (.int filled)] [] σ) ∧ (¬ filled < (nI 120) → Q filled σ))) ∧ (place < filled → vp_in place 120 ∧ ((¬ (σ 12 (place).toNatClampNeg) = row → (¬ (nI 0) = (nI 0) → Q filled σ) ∧ ((nI 0) = (nI 0) → (filled < (nI 120) → J 55 [some (.ref 12), some (.int filled), some (.int row), some (.int place), some (.int (nI 0)), some (.int filled)] [] σ) ∧ (¬ filled < (nI 120) → Q filled σ))) ∧ ((σ 12 (place).toNatClampNeg) = row → (¬ (nI 1) = (nI 0) → Q filled σ) ∧ ((nI 1) = (nI 0) → (filled < (nI 120) → J 55 [some (.ref 12), some (.int filled), some (.int row), some (.int place), some (.int (nI 1)), some (.int filled)] [] σ) ∧ (¬ filled < (nI 120) → Q filled σ)))))) ∧ ((σ 12 (place).toNatClampNeg) < row → J 2 [some (.ref 12), some (.int filled), some (.int row), some (.int (place + nI 1)), o4, o5] [] σ)))) : kp_T1 layC gl_X5 pl_X5 (ms_X5_insertOnce) tb_X5_insertOnce (kp_rk (some .int)) J Q 60 2 [some (.ref 12), some (.int filled), some (.int row), some (.int place), o4, o5] [] σ := h
set_option maxRecDepth 100000 in
theorem v_X5_insertOnce_55 {J : Nat → Lcl → List Value → Sg → Prop} {Q : Int32 → Sg → Prop} (filled row place pres i : Int32) (σ : Sg) (h : (¬ place < i → vp_in place 120 ∧ (Q (filled + (nI 1)) (kp_up σ 12 (place).toNatClampNeg row))) ∧ (place < i → vp_in (i - (nI 1)) 120 ∧ (vp_in i 120 ∧ (J 55 [some (.ref 12), some (.int filled), some (.int row), some (.int place), some (.int pres), some (.int (i + (-1)))] [] (kp_up σ 12 (i).toNatClampNeg (σ 12 (i - (nI 1)).toNatClampNeg)))))) : kp_T1 layC gl_X5 pl_X5 (ms_X5_insertOnce) tb_X5_insertOnce (kp_rk (some .int)) J Q 60 55 [some (.ref 12), some (.int filled), some (.int row), some (.int place), some (.int pres), some (.int i)] [] σ := h
abbrev iv_X5_insertOnce : List Value → Sg → Nat → Nat → Lcl → List Value → Sg → Prop := fun As σ n pc ls st τ => st = [] ∧ ∃ (f r p : Nat), f < 120 ∧ r < 2 ^ 31 ∧ srtA (σ 12) f ∧ As = [.ref 12, .int (nI f), .int (nI r)] ∧ p ≤ f ∧ (∀ i, i < p → tn (σ 12 i) < r) ∧ ((pc = 2 ∧ τ = σ ∧ n = 1000 + (f - p) ∧ ∃ o4 o5 : Option Value, ls = [some (.ref 12), some (.int (nI f)), some (.int (nI r)), some (.int (nI p)), o4, o5]) ∨ (pc = 55 ∧ ∃ (i : Nat) (w : Int32), n = i ∧ p ≤ i ∧ i ≤ f ∧ ls = [some (.ref 12), some (.int (nI f)), some (.int (nI r)), some (.int (nI p)), some (.int w), some (.int (nI i))] ∧ (∀ j, p ≤ j → j < f → r < tn (σ 12 j)) ∧ fr [12] σ τ ∧ τ 12 = shU (σ 12) i f))
set_option maxRecDepth 100000 in
set_option maxHeartbeats 4000000 in
theorem c_X5_insertOnce : kp_Met layC 0 yX5_insertOnce cX5_insertOnce 6 (some .int) (pr_X5_insertOnce) (po_X5_insertOnce) := by
  refine kp_met (N := 60) (by decide) tk_X5_insertOnce gk_X5 pk_X5 (mk_X5_insertOnce) rfl (iv_X5_insertOnce) ?_ ?_
  · rintro As σ ⟨filled, row, rfl, hp⟩
    refine ⟨⟨rfl, Nat.le_of_ble_eq_true rfl⟩, v_X5_insertOnce filled row σ ?_⟩
    obtain ⟨f, r, rfl, hf, rfl, hr, hs⟩ := hp
    exact ⟨1000 + f, rfl, f, r, 0, hf, hr, hs, rfl, by omega, fun i hi => by omega, Or.inl ⟨rfl, rfl, rfl, none, none, rfl⟩⟩
  · rintro As σ ⟨filled, row, rfl, hp⟩ n pc ls st τ hI
    clear hp
    obtain ⟨rfl, f, r, p, hf, hr, hs, hAs, hp, h1, hI⟩ := hI
    cases hAs
    have ef : tn (nI f) = f := tn_nI (by omega)
    have er : tn (nI r) = r := tn_nI hr
    rcases hI with ⟨rfl, rfl, rfl, o4, o5, rfl⟩ | ⟨rfl, i, w, rfl, hpi, hif, rfl, h2, hfr, hsh⟩
    · refine v_X5_insertOnce_2 _ _ _ o4 o5 τ ?_
      have hgo : ∀ (w : Int32), (∀ j, p ≤ j → j < f → r < tn (τ 12 j)) → ∃ n', n' < 1000 + (f - p) ∧ iv_X5_insertOnce [.ref 12, .int (nI f), .int (nI r)] τ n' 55 [some (.ref 12), some (.int (nI f)), some (.int (nI r)), some (.int (nI p)), some (.int w), some (.int (nI f))] [] τ := fun w h2 =>
        ⟨f, by omega, rfl, f, r, p, hf, hr, hs, rfl, hp, h1, Or.inr ⟨rfl, f, w, rfl, hp, by omega, rfl, h2, fr_rf, shU_0.symm⟩⟩
      have hq : p < f → τ 12 p = nI r → po_X5_insertOnce [.ref 12, .int (nI f), .int (nI r)] τ (nI f) τ := fun a1 a2 => by
        refine ⟨fr_rf, f, rfl, by rw [ef]; omega, hs, fun k => ?_⟩
        rw [ef, er]
        exact ⟨fun h => Or.inl h, fun h => h.elim id (fun e => ⟨p, a1, by rw [a2, er, e]⟩)⟩
      have ep : (nI p).toNatClampNeg = p := nI_clamp (by omega)
      have n120 : nI f < nI 120 := by rw [nI_ltI (by omega) (by omega)]; exact hf
      rw [ep, nI_ltI (by omega) (by omega)]
      refine ⟨fun a1 => ⟨fun _ => ⟨fun z => absurd rfl z, fun _ => ⟨fun _ => hgo _ (fun j q1 q2 => by omega), fun z => absurd n120 z⟩⟩, fun z => absurd z a1⟩, fun a1 => ⟨(kp_in (by omega)).mpr (by omega), ?_⟩⟩
      have e12 := hs.1 p a1
      refine ⟨fun a2 => ⟨fun z => absurd a1 z, fun _ => ⟨(kp_in (by omega)).mpr (by omega), fun a3 => ⟨fun z => absurd rfl z, fun _ => ⟨fun _ => hgo _ (fun j q1 q2 => ?_), fun z => absurd n120 z⟩⟩, fun a3 => ⟨fun _ => hq a1 a3, fun z => absurd z (by decide)⟩⟩⟩, fun a2 => ?_⟩
      · rw [e12, nI_ltI (tn_lt _) hr] at a2
        have a3 : ¬ tn (τ 12 p) = r := fun z => a3 (by rw [e12, z])
        by_cases e : j = p
        · subst e; omega
        · have := hs.2 p j (by omega) q2; omega
      · rw [e12, nI_ltI (tn_lt _) hr] at a2
        rw [nI_add]
        refine ⟨1000 + (f - (p + 1)), by omega, rfl, f, r, p + 1, hf, hr, hs, rfl, by omega, fun i hi => ?_, Or.inl ⟨rfl, rfl, rfl, _, _, rfl⟩⟩
        by_cases e : i = p
        · subst e; exact a2
        · exact h1 i (by omega)
    · refine v_X5_insertOnce_55 _ _ _ _ _ τ ?_
      have ep : (nI p).toNatClampNeg = p := nI_clamp (by omega)
      have ei : (nI n).toNatClampNeg = n := nI_clamp (by omega)
      rw [ep, ei, nI_ltI (by omega) (by omega)]
      refine ⟨fun a1 => ⟨(kp_in (by omega)).mpr (by omega), ?_⟩, fun a1 => ?_⟩
      · have : n = p := by omega
        subst this
        obtain ⟨g1, g2⟩ := srtA_ins hs hp hr h1 h2
        refine ⟨fr_up hfr (by decide), f + 1, by rw [nI_add], by rw [ef]; omega, ?_, ?_⟩
        · rw [kp_up_eq, hsh]; exact g1
        · rw [kp_up_eq, hsh, ef, er]; exact g2
      · rw [pk_sub (show 1 ≤ n by omega), nI_clamp (show n - 1 < 2 ^ 31 by omega)]
        refine ⟨(kp_in (by omega)).mpr (by omega), (kp_in (by omega)).mpr (by omega), n - 1, by omega, rfl, f, r, p, hf, hr, hs, rfl, hp, h1, Or.inr ⟨rfl, n - 1, w, rfl, by omega, by omega, ?_, h2, fr_up hfr (by decide), ?_⟩⟩
        · rw [show nI n + (-1) = nI (n - 1) by obtain ⟨k, rfl⟩ : ∃ k, n = k + 1 := ⟨n - 1, by omega⟩; exact pk_m1 k]
        · rw [kp_up_eq, hsh]; exact shU_s (by omega) hif
/-- the rows that mean something in a context, rising -/
def isRows (g : Nat → Int32) (f : Nat) (o M : Nat → Int32) (c : Nat) : Prop := srtA g f ∧ ∀ k, (∃ i, i < f ∧ tn (g i) = k) ↔ (k < 16777216 ∧ mean o M k 12 c ≠ -1)
def pr_X5_meaningRows : SPre := fun As σ => ∃ ctx : Int32, As = [.ref 1, .int ctx, .ref 12] ∧ (LI σ ∧ ∃ c : Nat, ctx = nI c ∧ c < tn (σ 2 1))
def po_X5_meaningRows : SPost := fun As σ r τ => match As with
  | [.ref _, .int ctx, .ref _] => (fr [12] σ τ ∧ ∃ f : Nat, r = nI f ∧ f ≤ 120 ∧ isRows (τ 12) f (σ 3) (mC σ) (tn ctx))
  | _ => True
def ms_X5_meaningRows : List Me := [(51, 1, 1, 1, true, pr_X1_rowOf, po_X1_rowOf), (36, 0, 5, 2, true, pr_X5_meaning, po_X5_meaning), (59, 1, 5, 3, true, pr_X5_insertOnce, po_X5_insertOnce)]
theorem mk_X5_meaningRows : ∀ q ∈ ms_X5_meaningRows, kp_okM layC RX5 3 q := List.forall_mem_cons.mpr ⟨Or.inl ⟨0, yX1_rowOf, cX1_rowOf, 1, (some .int), c_X1_rowOf, by omega, by decide, rfl, lk_X5_51⟩, List.forall_mem_cons.mpr ⟨Or.inl ⟨2, yX5_meaning, cX5_meaning, 6, (some .int), c_X5_meaning, by omega, by decide, rfl, lk_X5_36⟩, List.forall_mem_cons.mpr ⟨Or.inl ⟨0, yX5_insertOnce, cX5_insertOnce, 6, (some .int), c_X5_insertOnce, by omega, by decide, rfl, lk_X5_59⟩, fun _ h => absurd h List.not_mem_nil⟩⟩⟩
set_option maxRecDepth 100000 in
theorem v_X5_meaningRows {J : Nat → Lcl → List Value → Sg → Prop} {Q : Int32 → Sg → Prop} (ctx : Int32) (σ : Sg) (h : J 5 [some (.ref 1), some (.int ctx), some (.ref 12), some (.int (nI 0)), some (.int (nI 0)), none] [] σ) : kp_T layC gl_X5 pl_X5 (ms_X5_meaningRows) tb_X5_meaningRows (kp_rk (some .int)) J Q 36 tb_X5_meaningRows (kp_en [.ref 1, .int ctx, .ref 12] 6) [] σ := h
set_option maxRecDepth 100000 in
theorem v_X5_meaningRows_5 {J : Nat → Lcl → List Value → Sg → Prop} {Q : Int32 → Sg → Prop} (ctx found i : Int32) (o5 : Option Value) (σ : Sg) (h : (¬ i < (σ 4 2) → Q found σ) ∧ (i < (σ 4 2) → vp_in i 120 ∧ (pr_X1_rowOf [.int (σ 5 (i).toNatClampNeg)] σ ∧ ∀ (x2 : Int32) (τ1 : Sg), po_X1_rowOf [.int (σ 5 (i).toNatClampNeg)] σ x2 τ1 → (pr_X5_meaning [.ref 1, .int ctx, .int x2] τ1 ∧ ∀ (x4 : Int32) (τ3 : Sg), po_X5_meaning [.ref 1, .int ctx, .int x2] τ1 x4 τ3 → ((x4 = (-1) → J 5 [some (.ref 1), some (.int ctx), some (.ref 12), some (.int found), some (.int (i + nI 1)), some (.int x2)] [] τ3) ∧ (¬ x4 = (-1) → pr_X5_insertOnce [.ref 12, .int found, .int x2] τ3 ∧ ∀ (x6 : Int32) (τ5 : Sg), po_X5_insertOnce [.ref 12, .int found, .int x2] τ3 x6 τ5 → (J 5 [some (.ref 1), some (.int ctx), some (.ref 12), some (.int x6), some (.int (i + nI 1)), some (.int x2)] [] τ5))))))) : kp_T1 layC gl_X5 pl_X5 (ms_X5_meaningRows) tb_X5_meaningRows (kp_rk (some .int)) J Q 36 5 [some (.ref 1), some (.int ctx), some (.ref 12), some (.int found), some (.int i), o5] [] σ := h
abbrev iv_X5_meaningRows : List Value → Sg → Nat → Nat → Lcl → List Value → Sg → Prop := fun As σ n pc ls st τ => pc = 5 ∧ st = [] ∧ ∃ (c f i z : Nat) (o5 : Option Value), As = [.ref 1, .int (nI c), .ref 12] ∧ ls = [some (.ref 1), some (.int (nI c)), some (.ref 12), some (.int (nI f)), some (.int (nI i)), o5] ∧ σ 4 2 = nI z ∧ z ≤ 120 ∧ i ≤ z ∧ f ≤ i ∧ n = z - i ∧ c < tn (σ 2 1) ∧ fr [12] σ τ ∧ srtA (τ 12) f ∧ ∀ k, (∃ j, j < f ∧ tn (τ 12 j) = k) ↔ (∃ j, j < i ∧ tn (σ 5 j) % 16777216 = k ∧ mean (σ 3) (mC σ) k 12 c ≠ -1)
set_option maxRecDepth 100000 in
set_option maxHeartbeats 4000000 in
theorem c_X5_meaningRows : kp_Met layC 3 yX5_meaningRows cX5_meaningRows 6 (some .int) (pr_X5_meaningRows) (po_X5_meaningRows) := by
  refine kp_met (N := 36) (by decide) tk_X5_meaningRows gk_X5 pk_X5 (mk_X5_meaningRows) rfl (iv_X5_meaningRows) ?_ ?_
  · rintro As σ ⟨ctx, rfl, hp⟩
    refine ⟨⟨rfl, Nat.le_of_ble_eq_true rfl⟩, v_X5_meaningRows ctx σ ?_⟩
    obtain ⟨⟨hc, z, hz, h1, h2⟩, c, rfl, h3⟩ := hp
    exact ⟨z, rfl, rfl, c, 0, 0, z, none, rfl, rfl, hz, h1, by omega, by omega, by omega, h3, fr_rf, ⟨fun i hi => by omega, fun i j _ hj => by omega⟩, fun k => ⟨fun ⟨j, hj, _⟩ => by omega, fun ⟨j, hj, _⟩ => by omega⟩⟩
  · rintro As σ ⟨ctx, rfl, hp⟩ n pc ls st τ hI
    obtain ⟨hL, -⟩ := hp
    obtain ⟨hc, hbo⟩ := id hL
    obtain ⟨rfl, rfl, c, f, i, z, o5, hAs, rfl, hz, h1, hi, hfi, rfl, hcn, hfr, hsr, hmem⟩ := hI
    cases hAs
    obtain ⟨z', hz', h1', h2, h3⟩ := id hbo
    have : z' = z := (nI_eq (by omega) (by omega)).mp (hz'.symm.trans hz)
    subst this
    have := tn_lt (σ 2 1)
    have ec : tn (nI c) = c := tn_nI (by omega)
    have q2 : τ 2 = σ 2 := hfr 2 (by decide)
    have q3 : τ 3 = σ 3 := hfr 3 (by decide)
    have q4 : τ 4 = σ 4 := hfr 4 (by decide)
    have q5 : τ 5 = σ 5 := hfr 5 (by decide)
    have q6 : τ 6 = σ 6 := hfr 6 (by decide)
    have hLt : LI τ := by unfold LI; rw [q2, q3, q4, q5, q6]; exact hL
    refine v_X5_meaningRows_5 _ _ _ o5 τ ?_
    rw [q4, hz, nI_ltI (by omega) (by omega), q5]
    refine ⟨fun g1 => ⟨hfr, f, rfl, by omega, hsr, fun k => ?_⟩, fun g1 => ?_⟩
    · rw [ec, hmem k]
      constructor
      · rintro ⟨j, hj, e, hm⟩
        exact ⟨by rw [← e]; exact Nat.mod_lt _ (by decide), hm⟩
      · rintro ⟨hk, hm⟩
        obtain ⟨j, hj, e⟩ := row_in hz h1 hk hm
        exact ⟨j, by omega, e, hm⟩
    · have hkey := h2 i g1
      have hrow : tn (σ 5 i) % 16777216 < 16777216 := Nat.mod_lt _ (by decide)
      refine ⟨(kp_in (by omega)).mpr (by omega), ⟨_, rfl, tn (σ 5 i), by rw [nI_clamp (by omega)]; exact hkey.1, tn_lt _⟩, ?_⟩
      rw [nI_clamp (show i < 2 ^ 31 by omega), nI_add]
      rintro x2 τ1 ⟨rfl, rfl⟩
      refine ⟨⟨_, _, rfl, hLt, c, _, rfl, by rw [q2]; exact hcn, rfl, hrow⟩, ?_⟩
      rintro x4 τ3 ⟨rfl, rfl⟩
      rw [tn_nI (show tn (σ 5 i) % 16777216 < 2 ^ 31 by omega), ec]
      have em : mean (τ3 3) (mC τ3) (tn (σ 5 i) % 16777216) 12 c = mean (σ 3) (mC σ) (tn (σ 5 i) % 16777216) 12 c := by unfold mC; rw [q3, q4, q5, q6]
      rw [em]
      refine ⟨fun g2 => ⟨z' - (i + 1), by omega, rfl, rfl, c, f, i + 1, z', _, rfl, rfl, hz, h1, by omega, by omega, rfl, hcn, hfr, hsr, fun k => ?_⟩, fun g2 => ⟨⟨_, _, rfl, f, _, rfl, by omega, rfl, by omega, hsr⟩, ?_⟩⟩
      · rw [hmem k]
        constructor
        · rintro ⟨j, hj, e, hm⟩
          exact ⟨j, by omega, e, hm⟩
        · rintro ⟨j, hj, e, hm⟩
          by_cases ej : j = i
          · subst ej; rw [← e] at hm; exact absurd g2 hm
          · exact ⟨j, by omega, e, hm⟩
      · rintro x6 τ5 ⟨k1, f', rfl, k2, k3, k4⟩
        rw [tn_nI (show f < 2 ^ 31 by omega)] at k2 k4
        rw [tn_nI (show tn (σ 5 i) % 16777216 < 2 ^ 31 by omega)] at k4
        refine ⟨z' - (i + 1), by omega, rfl, rfl, c, f', i + 1, z', _, rfl, rfl, hz, h1, by omega, by omega, rfl, hcn, fr_tr hfr k1, k3, fun k => ?_⟩
        rw [k4 k, hmem k]
        constructor
        · rintro (⟨j, hj, e, hm⟩ | e)
          · exact ⟨j, by omega, e, hm⟩
          · exact ⟨i, by omega, e.symm, by rw [e]; exact g2⟩
        · rintro ⟨j, hj, e, hm⟩
          by_cases ej : j = i
          · subst ej; exact Or.inr e.symm
          · exact Or.inl ⟨j, by omega, e, hm⟩
end
section
/-! fights: KeyPlan$Fights -/
theorem rlen_ok {x : Nat} (h : rowOK x = true) : (rlen x = 1 ∧ 1 ≤ x ∧ x < 256) ∨ (rlen x = 2 ∧ 256 ≤ x ∧ x < 65536) ∨ (rlen x = 3 ∧ 65536 ≤ x ∧ x < 16777216) := by
  have h := rowOK_iff.mp h
  unfold rlen
  rw [if_neg (by omega)]
  by_cases h1 : x / 256 % 256 = 0
  · rw [if_pos h1]; left; omega
  · rw [if_neg h1]
    by_cases h2 : x / 65536 % 256 = 0
    · rw [if_pos h2]; right; left; omega
    · rw [if_neg h2]; right; right; omega
/-- x is the beginning of y -/
def bgn (x y : Nat) : Bool := decide (rlen x < rlen y ∧ y % 256 ^ rlen x = x)
theorem bgn_lt {x y : Nat} (hx : rowOK x = true) (hy : rowOK y = true) (h : bgn x y = true) : x < y := by
  have h := of_decide_eq_true h
  rcases rlen_ok hx with ⟨a, b⟩ | ⟨a, b⟩ | ⟨a, b⟩ <;> rcases rlen_ok hy with ⟨c, d⟩ | ⟨c, d⟩ | ⟨c, d⟩ <;> omega
theorem bgn_iff {x y : Nat} (hx : rowOK x = true) (hy : rowOK y = true) (hne : y ≠ x) : bgn x y = decide (y % 256 ^ rlen x = x) := by
  unfold bgn
  by_cases h : y % 256 ^ rlen x = x
  · rw [decide_eq_true h]
    refine decide_eq_true ⟨?_, h⟩
    rcases rlen_ok hx with ⟨a, b⟩ | ⟨a, b⟩ | ⟨a, b⟩ <;> rcases rlen_ok hy with ⟨c, d⟩ | ⟨c, d⟩ | ⟨c, d⟩ <;> rw [a] at h ⊢ <;> rw [c] <;> omega
  · rw [decide_eq_false h]
    exact decide_eq_false (fun z => h z.2)
def fIn (G : Nat → Nat) (a : Nat) : Nat → List (Nat × Nat)
  | 0 => []
  | m + 1 => fIn G a m ++ (if bgn (G a) (G m) = true then [(G a, G m)] else [])
def fOut (G : Nat → Nat) (f : Nat) : Nat → List (Nat × Nat)
  | 0 => []
  | a + 1 => fOut G f a ++ fIn G a f
/-- the fights among the rows G 0 .. G (f - 1) -/
def FL (G : Nat → Nat) (f : Nat) : List (Nat × Nat) := fOut G f f
theorem fIn_low {G : Nat → Nat} {f a : Nat} (hok : ∀ i, i < f → rowOK (G i) = true) (hs : ∀ i j, i < j → j < f → G i < G j) (ha : a < f) : ∀ m, m ≤ a + 1 → fIn G a m = []
  | 0, _ => rfl
  | m + 1, h => by
    rw [fIn, fIn_low hok hs ha m (by omega), if_neg]
    · rfl
    · intro hb
      have := bgn_lt (hok a ha) (hok m (by omega)) hb
      by_cases e : m = a
      · subst e; omega
      · have := hs m a (by omega) ha; omega
theorem fIn_congr {G G' : Nat → Nat} {f a : Nat} (h : ∀ i, i < f → G i = G' i) (ha : a < f) : ∀ m, m ≤ f → fIn G a m = fIn G' a m
  | 0, _ => rfl
  | m + 1, hm => by rw [fIn, fIn, fIn_congr h ha m (by omega), h a ha, h m (by omega)]
theorem fOut_congr {G G' : Nat → Nat} {f : Nat} (h : ∀ i, i < f → G i = G' i) : ∀ a, a ≤ f → fOut G f a = fOut G' f a
  | 0, _ => rfl
  | a + 1, ha => by rw [fOut, fOut, fOut_congr h a (by omega), fIn_congr h (by omega) f (by omega)]
theorem FL_congr {G G' : Nat → Nat} {f : Nat} (h : ∀ i, i < f → G i = G' i) : FL G f = FL G' f := fOut_congr h f (Nat.le_refl _)
-- how many there can be
def cB (G : Nat → Nat) (b : Nat) : Nat → Nat
  | 0 => 0
  | a + 1 => cB G b a + (if bgn (G a) (G b) = true then 1 else 0)
def sB (F : Nat → Nat) : Nat → Nat
  | 0 => 0
  | b + 1 => sB F b + F b
theorem sB_add {F F' : Nat → Nat} : ∀ n, sB (fun b => F b + F' b) n = sB F n + sB F' n
  | 0 => rfl
  | n + 1 => by rw [sB, sB, sB, sB_add n]; omega
theorem sB_le {F : Nat → Nat} {k : Nat} : ∀ n, (∀ b, b < n → F b ≤ k) → sB F n ≤ k * n
  | 0, _ => by simp [sB]
  | n + 1, h => by
    have := sB_le n (fun b hb => h b (by omega))
    have := h n (by omega)
    rw [sB, Nat.mul_succ]; omega
theorem sB_zero : ∀ n, sB (fun _ => 0) n = 0
  | 0 => rfl
  | n + 1 => by rw [sB, sB_zero n]
theorem fIn_len {G : Nat → Nat} {a : Nat} : ∀ m, (fIn G a m).length = sB (fun b => if bgn (G a) (G b) = true then 1 else 0) m
  | 0 => rfl
  | m + 1 => by
    rw [fIn, sB, List.length_append, fIn_len m]
    by_cases h : bgn (G a) (G m) = true
    · rw [if_pos h, if_pos h]; rfl
    · rw [if_neg h, if_neg h]; rfl
theorem fOut_len {G : Nat → Nat} {f : Nat} : ∀ a, (fOut G f a).length = sB (fun b => cB G b a) f
  | 0 => by rw [fOut]; exact (sB_zero f).symm
  | a + 1 => by rw [fOut, List.length_append, fOut_len a, fIn_len, ← sB_add]; rfl
theorem cB_le {G : Nat → Nat} {f b : Nat} (hok : ∀ i, i < f → rowOK (G i) = true) (hs : ∀ i j, i < j → j < f → G i < G j) (hb : b < f) : ∀ a, a ≤ f → cB G b a ≤ (if ∃ i, i < a ∧ G i = G b % 256 then 1 else 0) + (if ∃ i, i < a ∧ G i = G b % 65536 ∧ 256 ≤ G b % 65536 then 1 else 0)
  | 0, _ => by simp [cB]
  | a + 1, ha => by
    have ih := cB_le hok hs hb a (by omega)
    have inj := srt_inj hs
    rw [cB]
    by_cases h : bgn (G a) (G b) = true
    · rw [if_pos h]
      have h' := of_decide_eq_true h
      rcases rlen_ok (hok a (by omega)) with ⟨c, d⟩ | ⟨c, d⟩ | ⟨c, d⟩
      · rw [c] at h'
        rw [if_neg (fun ⟨i, hi, e⟩ => by have := inj i a (by omega) (by omega) (by omega); omega)] at ih
        rw [if_pos ⟨a, by omega, by omega⟩]
        by_cases h2 : ∃ i, i < a ∧ G i = G b % 65536 ∧ 256 ≤ G b % 65536
        · rw [if_pos h2] at ih
          obtain ⟨i, hi, e⟩ := h2
          rw [if_pos ⟨i, by omega, e⟩]; omega
        · rw [if_neg h2] at ih; omega
      · rw [c] at h'
        rw [if_neg (show ¬ ∃ i, i < a ∧ G i = G b % 65536 ∧ 256 ≤ G b % 65536 from fun ⟨i, hi, e⟩ => by have := inj i a (by omega) (by omega) (by omega); omega)] at ih
        rw [if_pos (show ∃ i, i < a + 1 ∧ G i = G b % 65536 ∧ 256 ≤ G b % 65536 from ⟨a, by omega, by omega, by omega⟩)]
        by_cases h2 : ∃ i, i < a ∧ G i = G b % 256
        · rw [if_pos h2] at ih
          obtain ⟨i, hi, e⟩ := h2
          rw [if_pos ⟨i, by omega, e⟩]; omega
        · rw [if_neg h2] at ih; omega
      · rcases rlen_ok (hok b hb) with ⟨c2, d2⟩ | ⟨c2, d2⟩ | ⟨c2, d2⟩ <;> omega
    · rw [if_neg h]
      have e1 : (if ∃ i, i < a ∧ G i = G b % 256 then 1 else 0) ≤ (if ∃ i, i < a + 1 ∧ G i = G b % 256 then 1 else 0) := by
        by_cases z : ∃ i, i < a ∧ G i = G b % 256
        · obtain ⟨i, hi, e⟩ := z
          rw [if_pos (show ∃ i, i < a + 1 ∧ G i = G b % 256 from ⟨i, by omega, e⟩)]
          split <;> omega
        · rw [if_neg z]; omega
      have e2 : (if ∃ i, i < a ∧ G i = G b % 65536 ∧ 256 ≤ G b % 65536 then 1 else 0) ≤ (if ∃ i, i < a + 1 ∧ G i = G b % 65536 ∧ 256 ≤ G b % 65536 then 1 else 0) := by
        by_cases z : ∃ i, i < a ∧ G i = G b % 65536 ∧ 256 ≤ G b % 65536
        · obtain ⟨i, hi, e⟩ := z
          rw [if_pos (show ∃ i, i < a + 1 ∧ G i = G b % 65536 ∧ 256 ≤ G b % 65536 from ⟨i, by omega, e⟩)]
          split <;> omega
        · rw [if_neg z]; omega
      omega
theorem fOut_le {G : Nat → Nat} {f : Nat} (hok : ∀ i, i < f → rowOK (G i) = true) (hs : ∀ i j, i < j → j < f → G i < G j) (a : Nat) (ha : a ≤ f) : (fOut G f a).length ≤ 2 * f := by
  rw [fOut_len]
  refine sB_le f (fun b hb => ?_)
  have := cB_le hok hs hb a ha
  have e1 : (if ∃ i, i < a ∧ G i = G b % 256 then 1 else 0) ≤ 1 := by split <;> omega
  have e2 : (if ∃ i, i < a ∧ G i = G b % 65536 ∧ 256 ≤ G b % 65536 then 1 else 0) ≤ 1 := by split <;> omega
  omega
theorem fIn_mono {G : Nat → Nat} {a : Nat} : ∀ (d m : Nat), (fIn G a m).length ≤ (fIn G a (m + d)).length
  | 0, _ => Nat.le_refl _
  | d + 1, m => by
    have := fIn_mono (G := G) (a := a) d m
    rw [← Nat.add_assoc, fIn, List.length_append]; omega
/-- the rows found are rows -/
theorem rows_ok {σ : Sg} {g : Nat → Int32} {f c : Nat} (hb : bOK (σ 5) (σ 6) (σ 4 2)) (h : isRows g f (σ 3) (mC σ) c) : ∀ i, i < f → rowOK (tn (g i)) = true := by
  intro i hi
  obtain ⟨h1, h2⟩ := (h.2 _).mp ⟨i, hi, rfl⟩
  obtain ⟨c', h3, -⟩ := mean_in _ _ h2
  rcases mpC_val hb (c' * 16777216 + tn (g i)) with e | ⟨e, -⟩
  · exact absurd e h3
  · have := e.2
    rwa [(key_div h1).2] at this
def pr_X4_add : SPre := fun As σ => ∃ a : Int32, ∃ b : Int32, As = [.ref 11, .int a, .int b] ∧ (∃ s : Nat, σ 11 3 = nI s ∧ s < 240)
def po_X4_add : SPost := fun As σ r τ => match As with
  | [.ref _, .int a, .int b] => (τ = kp_up (kp_up (kp_up σ 13 (tn (σ 11 3)) a) 14 (tn (σ 11 3)) b) 11 3 (σ 11 3 + nI 1))
  | _ => True
def ms_X4_add : List Me := []
theorem mk_X4_add : ∀ q ∈ ms_X4_add, kp_okM layC RX4 0 q := fun _ h => absurd h List.not_mem_nil
set_option maxRecDepth 100000 in
theorem v_X4_add {J : Nat → Lcl → List Value → Sg → Prop} {Q : Int32 → Sg → Prop} (a b : Int32) (σ : Sg) (h : (¬ (σ 11 3) < (nI 240) → Q (nI 0) σ) ∧ ((σ 11 3) < (nI 240) → vp_in (σ 11 3) 240 ∧ (vp_in ((kp_up σ 13 (σ 11 3).toNatClampNeg a) 11 3) 240 ∧ (Q (nI 0) (kp_up (kp_up (kp_up σ 13 (σ 11 3).toNatClampNeg a) 14 ((kp_up σ 13 (σ 11 3).toNatClampNeg a) 11 3).toNatClampNeg b) 11 3 (((kp_up (kp_up σ 13 (σ 11 3).toNatClampNeg a) 14 ((kp_up σ 13 (σ 11 3).toNatClampNeg a) 11 3).toNatClampNeg b) 11 3) + (nI 1))))))) : kp_T layC gl_X4 pl_X4 (ms_X4_add) tb_X4_add (kp_rk none) J Q 30 tb_X4_add (kp_en [.ref 11, .int a, .int b] 3) [] σ := h
set_option maxRecDepth 100000 in
set_option maxHeartbeats 4000000 in
theorem c_X4_add : kp_Met layC 0 yX4_add cX4_add 3 none (pr_X4_add) (po_X4_add) := by
  refine kp_met (N := 30) (by decide) tk_X4_add gk_X4 pk_X4 (mk_X4_add) rfl (fun _ _ _ _ _ _ _ => False) ?_ (fun _ _ _ _ _ _ _ _ h => h.elim)
  rintro As σ ⟨a, b, rfl, hp⟩
  refine ⟨⟨rfl, Nat.le_of_ble_eq_true rfl⟩, v_X4_add a b σ ?_⟩
  obtain ⟨s, hs, h1⟩ := hp
  have e1 : kp_up σ 13 (σ 11 3).toNatClampNeg a 11 3 = σ 11 3 := by simp (disch := decide) only [up_c, kp_up_eq, pk_us, pk_un]
  have e2 : kp_up (kp_up σ 13 (σ 11 3).toNatClampNeg a) 14 (σ 11 3).toNatClampNeg b 11 3 = σ 11 3 := by simp (disch := decide) only [up_c, kp_up_eq, pk_us, pk_un]
  rw [e1, e2]
  refine ⟨fun g => ?_, fun g => ⟨?_, ?_, rfl⟩⟩
  · rw [hs, nI_ltI (by omega) (by omega)] at g; exact absurd h1 g
  · rw [hs]; exact (kp_in (by omega)).mpr h1
  · rw [hs]; exact (kp_in (by omega)).mpr h1
/-- the list stands in the two rows of numbers -/
def fgOK (σ : Sg) (l : List (Nat × Nat)) : Prop := σ 11 3 = nI l.length ∧ ∀ (i : Nat) (p : Nat × Nat), l[i]? = some p → σ 13 i = nI p.1 ∧ σ 14 i = nI p.2
theorem fgOK_add {σ : Sg} {l : List (Nat × Nat)} {x y : Nat} (h : fgOK σ l) (hl : l.length < 240) : fgOK (kp_up (kp_up (kp_up σ 13 (tn (σ 11 3)) (nI x)) 14 (tn (σ 11 3)) (nI y)) 11 3 (σ 11 3 + nI 1)) (l ++ [(x, y)]) := by
  obtain ⟨h1, h2⟩ := h
  have e : tn (σ 11 3) = l.length := by rw [h1, tn_nI (by omega)]
  refine ⟨?_, fun i p hi => ?_⟩
  · rw [up_s, h1, nI_add, List.length_append]; rfl
  · rw [e]
    simp (disch := decide) only [up_c, kp_up_eq, pk_us, pk_un]
    by_cases q : i < l.length
    · rw [List.getElem?_append_left q] at hi
      rw [pk_un (by omega), pk_un (by omega)]
      exact h2 i p hi
    · rw [List.getElem?_append_right (by omega)] at hi
      have hz : i - l.length < 1 := (List.getElem?_eq_some_iff.mp hi).1
      have : i = l.length := by omega
      subst this
      rw [Nat.sub_self] at hi
      cases hi
      rw [pk_us, pk_us]
      exact ⟨rfl, rfl⟩
def pr_X4_collect : SPre := fun As σ => ∃ ctx : Int32, As = [.ref 11, .ref 1, .int ctx] ∧ (LI σ ∧ ∃ c : Nat, ctx = nI c ∧ c < tn (σ 2 1))
def po_X4_collect : SPost := fun As σ r τ => match As with
  | [.ref _, .ref _, .int ctx] => (fr [11, 12, 13, 14] σ τ ∧ ∃ (g : Nat → Int32) (f : Nat), isRows g f (σ 3) (mC σ) (tn ctx) ∧ fgOK τ (FL (fun i => tn (g i)) f) ∧ (FL (fun i => tn (g i)) f).length ≤ 240)
  | _ => True
def ms_X4_collect : List Me := [(25, 0, 5, 2, true, pr_X5_meaningRows, po_X5_meaningRows), (31, 1, 0, 2, true, pr_X7_beginsWith, po_X7_beginsWith), (37, 0, 4, 2, false, pr_X4_add, po_X4_add)]
theorem mk_X4_collect : ∀ q ∈ ms_X4_collect, kp_okM layC RX4 4 q := List.forall_mem_cons.mpr ⟨Or.inl ⟨3, yX5_meaningRows, cX5_meaningRows, 6, (some .int), c_X5_meaningRows, by omega, by decide, rfl, lk_X4_25⟩, List.forall_mem_cons.mpr ⟨Or.inl ⟨2, yX7_beginsWith, cX7_beginsWith, 2, (some .boolean), c_X7_beginsWith, by omega, by decide, rfl, lk_X4_31⟩, List.forall_mem_cons.mpr ⟨Or.inl ⟨0, yX4_add, cX4_add, 3, none, c_X4_add, by omega, by decide, rfl, lk_X4_37⟩, fun _ h => absurd h List.not_mem_nil⟩⟩⟩
set_option maxRecDepth 100000 in
theorem v_X4_collect {J : Nat → Lcl → List Value → Sg → Prop} {Q : Int32 → Sg → Prop} (ctx : Int32) (σ : Sg) (h : pr_X5_meaningRows [.ref 1, .int ctx, .ref 12] σ ∧ ∀ (x2 : Int32) (τ1 : Sg), po_X5_meaningRows [.ref 1, .int ctx, .ref 12] σ x2 τ1 → (J 18 [some (.ref 11), some (.ref 1), some (.int ctx), some (.int x2), some (.int (nI 0)), none] [] (kp_up τ1 11 3 (nI 0)))) : kp_T layC gl_X4 pl_X4 (ms_X4_collect) tb_X4_collect (kp_rk none) J Q 51 tb_X4_collect (kp_en [.ref 11, .ref 1, .int ctx] 6) [] σ := h
set_option maxRecDepth 100000 in
theorem v_X4_collect_18 {J : Nat → Lcl → List Value → Sg → Prop} {Q : Int32 → Sg → Prop} (ctx found first : Int32) (o5 : Option Value) (σ : Sg) (h : (¬ first < found → Q (nI 0) σ) ∧ (first < found → J 30 [some (.ref 11), some (.ref 1), some (.int ctx), some (.int found), some (.int first), some (.int (first + (nI 1)))] [] σ)) : kp_T1 layC gl_X4 pl_X4 (ms_X4_collect) tb_X4_collect (kp_rk none) J Q 51 18 [some (.ref 11), some (.ref 1), some (.int ctx), some (.int found), some (.int first), o5] [] σ := h
set_option maxRecDepth 100000 in
theorem v_X4_collect_30 {J : Nat → Lcl → List Value → Sg → Prop} {Q : Int32 → Sg → Prop} (ctx found first second : Int32) (σ : Sg) (h : (¬ second < found → J 18 [some (.ref 11), some (.ref 1), some (.int ctx), some (.int found), some (.int (first + nI 1)), some (.int second)] [] σ) ∧ (second < found → vp_in second 120 ∧ (vp_in first 120 ∧ (pr_X7_beginsWith [.int (σ 12 (second).toNatClampNeg), .int (σ 12 (first).toNatClampNeg)] σ ∧ ∀ (x2 : Int32) (τ1 : Sg), po_X7_beginsWith [.int (σ 12 (second).toNatClampNeg), .int (σ 12 (first).toNatClampNeg)] σ x2 τ1 → ((x2 = (nI 0) → J 30 [some (.ref 11), some (.ref 1), some (.int ctx), some (.int found), some (.int first), some (.int (second + nI 1))] [] τ1) ∧ (¬ x2 = (nI 0) → vp_in first 120 ∧ (vp_in second 120 ∧ (pr_X4_add [.ref 11, .int (τ1 12 (first).toNatClampNeg), .int (τ1 12 (second).toNatClampNeg)] τ1 ∧ ∀ (τ3 : Sg), po_X4_add [.ref 11, .int (τ1 12 (first).toNatClampNeg), .int (τ1 12 (second).toNatClampNeg)] τ1 (nI 0) τ3 → (J 30 [some (.ref 11), some (.ref 1), some (.int ctx), some (.int found), some (.int first), some (.int (second + nI 1))] [] τ3))))))))) : kp_T1 layC gl_X4 pl_X4 (ms_X4_collect) tb_X4_collect (kp_rk none) J Q 51 30 [some (.ref 11), some (.ref 1), some (.int ctx), some (.int found), some (.int first), some (.int second)] [] σ := h
abbrev iv_X4_collect : List Value → Sg → Nat → Nat → Lcl → List Value → Sg → Prop := fun As σ n pc ls st τ => st = [] ∧ ∃ (c f a : Nat), As = [.ref 11, .ref 1, .int (nI c)] ∧ c < tn (σ 2 1) ∧ f ≤ 120 ∧ fr [11, 12, 13, 14] σ τ ∧ isRows (τ 12) f (σ 3) (mC σ) c ∧ ((pc = 18 ∧ a ≤ f ∧ n = 1000 * (f - a) + 999 ∧ (∃ o5, ls = [some (.ref 11), some (.ref 1), some (.int (nI c)), some (.int (nI f)), some (.int (nI a)), o5]) ∧ fgOK τ (fOut (fun i => tn (τ 12 i)) f a)) ∨ (pc = 30 ∧ a < f ∧ ∃ b, a < b ∧ b ≤ f ∧ n = 1000 * (f - a) + (f - b) ∧ ls = [some (.ref 11), some (.ref 1), some (.int (nI c)), some (.int (nI f)), some (.int (nI a)), some (.int (nI b))] ∧ fgOK τ (fOut (fun i => tn (τ 12 i)) f a ++ fIn (fun i => tn (τ 12 i)) a b)))
set_option maxRecDepth 100000 in
set_option maxHeartbeats 4000000 in
theorem c_X4_collect : kp_Met layC 4 yX4_collect cX4_collect 6 none (pr_X4_collect) (po_X4_collect) := by
  refine kp_met (N := 51) (by decide) tk_X4_collect gk_X4 pk_X4 (mk_X4_collect) rfl (iv_X4_collect) ?_ ?_
  · rintro As σ ⟨ctx, rfl, hp⟩
    refine ⟨⟨rfl, Nat.le_of_ble_eq_true rfl⟩, v_X4_collect ctx σ ?_⟩
    obtain ⟨hL, c, rfl, hc⟩ := hp
    have := tn_lt (σ 2 1)
    refine ⟨⟨_, rfl, hL, c, rfl, hc⟩, ?_⟩
    rintro x2 τ1 ⟨h1, f, rfl, h2, h3⟩
    rw [tn_nI (show c < 2 ^ 31 by omega)] at h3
    refine ⟨1000 * (f - 0) + 999, rfl, c, f, 0, rfl, hc, h2, fr_up (fr_mono h1 (by decide)) (by decide), ?_, Or.inl ⟨rfl, by omega, rfl, ⟨none, rfl⟩, ?_⟩⟩
    · rw [up_c (by decide)]; exact h3
    · exact ⟨by rw [up_s]; rfl, fun i p hi => by simp [fOut] at hi⟩
  · rintro As σ ⟨ctx, rfl, hp⟩ n pc ls st τ hI
    obtain ⟨⟨hcx, hbo⟩, -⟩ := hp
    obtain ⟨rfl, c, f, a, hAs, hcn, hf, hfr, hrows, hI⟩ := hI
    cases hAs
    have := tn_lt (σ 2 1)
    have hok := rows_ok hbo hrows
    have hsr := hrows.1.2
    rcases hI with ⟨rfl, haf, rfl, ⟨o5, rfl⟩, hfg⟩ | ⟨rfl, haf, b, hab, hbf, rfl, rfl, hfg⟩
    · refine v_X4_collect_18 _ _ _ o5 τ ?_
      rw [nI_ltI (by omega) (by omega), nI_add]
      refine ⟨fun g1 => ⟨hfr, τ 12, f, by rw [tn_nI (by omega)]; exact hrows, ?_, ?_⟩, fun g1 => ?_⟩
      · have : a = f := by omega
        subst this; exact hfg
      · have := fOut_le hok hsr f (Nat.le_refl _)
        unfold FL; omega
      · refine ⟨1000 * (f - a) + (f - (a + 1)), by omega, rfl, c, f, a, rfl, hcn, hf, hfr, hrows, Or.inr ⟨rfl, g1, a + 1, by omega, by omega, rfl, rfl, ?_⟩⟩
        rw [fIn_low hok hsr g1 (a + 1) (by omega), List.append_nil]; exact hfg
    · refine v_X4_collect_30 _ _ _ _ τ ?_
      have ea : (nI a).toNatClampNeg = a := nI_clamp (by omega)
      have eb : (nI b).toNatClampNeg = b := nI_clamp (by omega)
      rw [nI_ltI (by omega) (by omega), ea, eb, nI_add, nI_add]
      refine ⟨fun g1 => ?_, fun g1 => ⟨(kp_in (by omega)).mpr (by omega), (kp_in (by omega)).mpr (by omega), ⟨_, _, rfl, tn (τ 12 b), tn (τ 12 a), hrows.1.1 b g1, rowOK_lt (hok b g1), hrows.1.1 a haf, rowOK_lt (hok a haf)⟩, ?_⟩⟩
      · have : b = f := by omega
        subst this
        exact ⟨1000 * (b - (a + 1)) + 999, by omega, rfl, c, b, a + 1, rfl, hcn, hf, hfr, hrows, Or.inl ⟨rfl, by omega, rfl, ⟨_, rfl⟩, hfg⟩⟩
      · rintro x2 τ1 ⟨rfl, rfl⟩
        have hne : tn (τ1 12 b) ≠ tn (τ1 12 a) := by have := hsr a b hab g1; omega
        rw [← bgn_iff (hok a haf) (hok b g1) hne, bI_0]
        refine ⟨fun g2 => ?_, fun g2 => ⟨(kp_in (by omega)).mpr (by omega), (kp_in (by omega)).mpr (by omega), ?_⟩⟩
        · refine ⟨1000 * (f - a) + (f - (b + 1)), by omega, rfl, c, f, a, rfl, hcn, hf, hfr, hrows, Or.inr ⟨rfl, haf, b + 1, by omega, by omega, rfl, rfl, ?_⟩⟩
          rw [fIn, if_neg (by rw [g2]; decide), List.append_nil]; exact hfg
        · have g2 : bgn (tn (τ1 12 a)) (tn (τ1 12 b)) = true := by simpa using g2
          have hlen : (fOut (fun i => tn (τ1 12 i)) f a ++ fIn (fun i => tn (τ1 12 i)) a b).length < 240 := by
            have h1 := fOut_le hok hsr (a + 1) (by omega)
            rw [fOut, List.length_append] at h1
            have h2 := fIn_mono (G := fun i => tn (τ1 12 i)) (a := a) (f - (b + 1)) (b + 1)
            rw [show b + 1 + (f - (b + 1)) = f by omega, fIn, if_pos g2, List.length_append] at h2
            rw [List.length_append]
            simp only [List.length_cons, List.length_nil] at h2
            omega
          refine ⟨⟨_, _, rfl, _, hfg.1, hlen⟩, ?_⟩
          rintro τ3 rfl
          refine ⟨1000 * (f - a) + (f - (b + 1)), by omega, rfl, c, f, a, rfl, hcn, hf, fr_up (fr_up (fr_up hfr (by decide)) (by decide)) (by decide), ?_, Or.inr ⟨rfl, haf, b + 1, by omega, by omega, rfl, rfl, ?_⟩⟩
          · simp (disch := decide) only [up_c, kp_up_eq, pk_us, pk_un]
            exact hrows
          · have e12 : kp_up (kp_up (kp_up τ1 13 (tn (τ1 11 3)) (τ1 12 a)) 14 (tn (τ1 11 3)) (τ1 12 b)) 11 3 (τ1 11 3 + nI 1) 12 = τ1 12 := by simp (disch := decide) only [up_c, kp_up_eq, pk_us, pk_un]
            rw [e12, fIn, if_pos g2, ← List.append_assoc]
            have := fgOK_add (x := tn (τ1 12 a)) (y := tn (τ1 12 b)) hfg hlen
            rw [← hrows.1.1 b g1, ← hrows.1.1 a haf] at this
            exact this
end
section
/-! typing: KeyPlan$Typing -/
/-- the line that waits: nothing, or a row -/
def lnOK (w : Nat) : Prop := w = 0 ∨ rowOK w = true
theorem lnOK_len {w : Nat} (h : lnOK w) : (w = 0 ∧ rlen w = 0) ∨ (rlen w = 1 ∧ 1 ≤ w ∧ w < 256) ∨ (rlen w = 2 ∧ 256 ≤ w ∧ w < 65536) ∨ (rlen w = 3 ∧ 65536 ≤ w ∧ w < 16777216) := by
  rcases h with rfl | h
  · exact Or.inl ⟨rfl, rfl⟩
  · exact Or.inr (rlen_ok h)
theorem lnOK_lt {w : Nat} (h : lnOK w) : w < 16777216 := by rcases lnOK_len h with a | a | a | a <;> omega
theorem lnOK_0 {w : Nat} (h : lnOK w) : rlen w = 0 ↔ w = 0 := by rcases lnOK_len h with a | a | a | a <;> omega
theorem rlen_of {w : Nat} (h : rowOK w = true) : (w < 256 → rlen w = 1) ∧ (256 ≤ w → w < 65536 → rlen w = 2) ∧ (65536 ≤ w → rlen w = 3) := by
  rcases rlen_ok h with a | a | a <;> omega
/-- what is left behind a beginning -/
theorem ln_drop {w l : Nat} (h : lnOK w) (h1 : 1 ≤ l) (h2 : l ≤ rlen w) : lnOK (w / 256 ^ l) ∧ rlen (w / 256 ^ l) = rlen w - l := by
  rcases h with rfl | h
  · have : rlen 0 = 0 := rfl
    omega
  · have hw := rowOK_iff.mp h
    rcases rlen_ok h with ⟨a, b⟩ | ⟨a, b⟩ | ⟨a, b⟩
    · have : l = 1 := by omega
      subst this
      rw [show w / 256 ^ 1 = 0 by omega, a]
      exact ⟨Or.inl rfl, rfl⟩
    · rcases (show l = 1 ∨ l = 2 by omega) with rfl | rfl
      · have hk : rowOK (w / 256 ^ 1) = true := rowOK_iff.mpr (by omega)
        exact ⟨Or.inr hk, by rw [(rlen_of hk).1 (by omega), a]⟩
      · rw [show w / 256 ^ 2 = 0 by omega, a]
        exact ⟨Or.inl rfl, rfl⟩
    · rcases (show l = 1 ∨ l = 2 ∨ l = 3 by omega) with rfl | rfl | rfl
      · have hk : rowOK (w / 256 ^ 1) = true := rowOK_iff.mpr (by omega)
        exact ⟨Or.inr hk, by rw [(rlen_of hk).2.1 (by omega) (by omega), a]⟩
      · have hz : w / 65536 ≠ 0 := by omega
        have hk : rowOK (w / 256 ^ 2) = true := rowOK_iff.mpr (by omega)
        exact ⟨Or.inr hk, by rw [(rlen_of hk).1 (by omega), a]⟩
      · rw [show w / 256 ^ 3 = 0 by omega, a]
        exact ⟨Or.inl rfl, rfl⟩
/-- one stroke more -/
theorem ln_add {w s : Nat} (h : lnOK w) (h2 : rlen w ≤ 2) (hs : 1 ≤ s) (hs2 : s ≤ 240) : rowOK (w + s * 256 ^ rlen w) = true ∧ rlen (w + s * 256 ^ rlen w) = rlen w + 1 := by
  rcases h with rfl | h
  · have e : rlen 0 = 0 := rfl
    rw [e]
    have hk : rowOK (0 + s * 256 ^ 0) = true := rowOK_iff.mpr (by omega)
    exact ⟨hk, (rlen_of hk).1 (by omega)⟩
  · have hw := rowOK_iff.mp h
    rcases rlen_ok h with ⟨a, b⟩ | ⟨a, b⟩ | ⟨a, b⟩
    · rw [a]
      have hk : rowOK (w + s * 256 ^ 1) = true := rowOK_iff.mpr (by omega)
      exact ⟨hk, (rlen_of hk).2.1 (by omega) (by omega)⟩
    · rw [a]
      have hk : rowOK (w + s * 256 ^ 2) = true := rowOK_iff.mpr (by omega)
      exact ⟨hk, (rlen_of hk).2.2 (by omega)⟩
    · omega
/-- the longest beginning that means something -/
def hit (o M : Nat → Int32) (c w : Nat) : Nat → Nat
  | 0 => 0
  | l + 1 => if mean o M (w % 256 ^ (l + 1)) 12 c = -1 then hit o M c w l else l + 1
theorem hit_le {o M : Nat → Int32} {c w : Nat} : ∀ l, hit o M c w l ≤ l
  | 0 => Nat.le_refl _
  | l + 1 => by
    rw [hit]
    split
    · have := hit_le (o := o) (M := M) (c := c) (w := w) l; omega
    · omega
/-- the line, how many went out, what and when, how many were lost -/
abbrev TS : Type := Nat × Nat × (Nat → Int32) × (Nat → Int32) × Nat
def onT (o M : Nat → Int32) (c : Nat) (tick : Int32) (t : TS) : TS :=
  if hit o M c t.1 (rlen t.1) = 0 then (t.1 / 256, t.2.1, t.2.2.1, t.2.2.2.1, t.2.2.2.2 + 1)
  else (t.1 / 256 ^ hit o M c t.1 (rlen t.1), t.2.1 + 1, if t.2.1 < 400 then upd t.2.2.1 t.2.1 (mean o M (t.1 % 256 ^ hit o M c t.1 (rlen t.1)) 12 c) else t.2.2.1, if t.2.1 < 400 then upd t.2.2.2.1 t.2.1 tick else t.2.2.2.1, t.2.2.2.2)
def stT (o M : Nat → Int32) (c : Nat) (tick : Int32) : Nat → TS → TS
  | 0, t => t
  | f + 1, t => if t.1 = 0 then t else stT o M c tick f (onT o M c tick t)
def liveP (o M : Nat → Int32) (c w : Nat) : Prop := mean o M w 12 c ≠ -1 ∨ opensP o M c w
noncomputable def drT (o M : Nat → Int32) (c : Nat) (tick : Int32) : Nat → TS → TS
  | 0, t => t
  | f + 1, t => if t.1 = 0 ∨ dc (liveP o M c t.1) = true then t else drT o M c tick f (onT o M c tick t)
noncomputable def fiT (o M : Nat → Int32) (c : Nat) (tick : Int32) (t : TS) : TS :=
  if t.1 ≠ 0 ∧ mean o M t.1 12 c ≠ -1 ∧ dc (opensP o M c t.1) = false then onT o M c tick t else t
def szT (t : TS) : Nat := t.2.1 + t.2.2.2.2 + rlen t.1
theorem onT_ok {o M : Nat → Int32} {c : Nat} {tick : Int32} {t : TS} (h : lnOK t.1) (h0 : t.1 ≠ 0) : lnOK (onT o M c tick t).1 ∧ rlen (onT o M c tick t).1 < rlen t.1 ∧ szT (onT o M c tick t) ≤ szT t := by
  have hl : 1 ≤ rlen t.1 := by have := lnOK_0 h; omega
  unfold onT szT
  by_cases hz : hit o M c t.1 (rlen t.1) = 0
  · rw [if_pos hz]
    obtain ⟨a, b⟩ := ln_drop (l := 1) h (by omega) hl
    rw [Nat.pow_one] at a b
    dsimp only
    exact ⟨a, by omega, by omega⟩
  · rw [if_neg hz]
    have hle := hit_le (o := o) (M := M) (c := c) (w := t.1) (rlen t.1)
    obtain ⟨a, b⟩ := ln_drop h (show 1 ≤ hit o M c t.1 (rlen t.1) by omega) hle
    dsimp only
    exact ⟨a, by omega, by omega⟩
theorem stT_ok {o M : Nat → Int32} {c : Nat} {tick : Int32} : ∀ (f : Nat) (t : TS), lnOK t.1 → lnOK (stT o M c tick f t).1 ∧ szT (stT o M c tick f t) ≤ szT t ∧ (rlen t.1 ≤ f → (stT o M c tick f t).1 = 0)
  | 0, t, h => ⟨h, Nat.le_refl _, fun z => (lnOK_0 h).mp (by have : rlen t.1 = 0 := by omega
                                                             exact this)⟩
  | f + 1, t, h => by
    rw [stT]
    by_cases h0 : t.1 = 0
    · rw [if_pos h0]; exact ⟨h, Nat.le_refl _, fun _ => h0⟩
    · rw [if_neg h0]
      obtain ⟨a, b, d⟩ := onT_ok (o := o) (M := M) (c := c) (tick := tick) h h0
      obtain ⟨a1, b1, d1⟩ := stT_ok (o := o) (M := M) (c := c) (tick := tick) f _ a
      exact ⟨a1, by omega, fun z => d1 (by omega)⟩
theorem drT_ok {o M : Nat → Int32} {c : Nat} {tick : Int32} : ∀ (f : Nat) (t : TS), lnOK t.1 → lnOK (drT o M c tick f t).1 ∧ szT (drT o M c tick f t) ≤ szT t ∧ rlen (drT o M c tick f t).1 ≤ rlen t.1 ∧ (rlen t.1 ≤ f → (drT o M c tick f t).1 = 0 ∨ liveP o M c (drT o M c tick f t).1)
  | 0, t, h => ⟨h, Nat.le_refl _, Nat.le_refl _, fun z => Or.inl ((lnOK_0 h).mp (by have : rlen t.1 = 0 := by omega
                                                                                    exact this))⟩
  | f + 1, t, h => by
    rw [drT]
    by_cases h0 : t.1 = 0 ∨ dc (liveP o M c t.1) = true
    · rw [if_pos h0]; exact ⟨h, Nat.le_refl _, Nat.le_refl _, fun _ => h0.imp id dc_iff.mp⟩
    · rw [if_neg h0]
      obtain ⟨a, b, d⟩ := onT_ok (o := o) (M := M) (c := c) (tick := tick) h (fun z => h0 (Or.inl z))
      obtain ⟨a1, b1, d1, e1⟩ := drT_ok (o := o) (M := M) (c := c) (tick := tick) f _ a
      exact ⟨a1, by omega, by omega, fun z => e1 (by omega)⟩
theorem opens_3 {o M : Nat → Int32} {c w : Nat} (h : rlen w = 3) : ¬ opensP o M c w := by
  rintro ⟨r, h1, h2, h3, -⟩
  rw [h] at h3
  exact h2 (by omega)
theorem hit_full {o M : Nat → Int32} {c w : Nat} (h : rowOK w = true) (hm : mean o M w 12 c ≠ -1) : hit o M c w (rlen w) = rlen w := by
  obtain ⟨k, hk⟩ : ∃ k, rlen w = k + 1 := ⟨rlen w - 1, by rcases rlen_ok h with a | a | a <;> omega⟩
  rw [hk, hit, ← hk]
  have e : w % 256 ^ rlen w = w := by
    rcases rlen_ok h with ⟨a, b⟩ | ⟨a, b⟩ | ⟨a, b⟩ <;> rw [a] <;> omega
  rw [e, if_neg hm]
/-- behind a stroke at most two wait -/
theorem fiT_ok {o M : Nat → Int32} {c : Nat} {tick : Int32} {t : TS} (h : lnOK t.1) (hl : t.1 = 0 ∨ liveP o M c t.1) : lnOK (fiT o M c tick t).1 ∧ szT (fiT o M c tick t) ≤ szT t ∧ rlen (fiT o M c tick t).1 ≤ 2 := by
  unfold fiT
  by_cases hc : t.1 ≠ 0 ∧ mean o M t.1 12 c ≠ -1 ∧ dc (opensP o M c t.1) = false
  · rw [if_pos hc]
    obtain ⟨a, b, d⟩ := onT_ok (o := o) (M := M) (c := c) (tick := tick) h hc.1
    have := rlen_le t.1
    exact ⟨a, d, by omega⟩
  · rw [if_neg hc]
    refine ⟨h, Nat.le_refl _, ?_⟩
    have := rlen_le t.1
    by_cases h3 : rlen t.1 = 3
    · exfalso
      have h0 : t.1 ≠ 0 := fun z => by rw [z] at h3; exact absurd h3 (by decide)
      have hop := opens_3 (o := o) (M := M) (c := c) h3
      rcases hl with z | z | z
      · exact h0 z
      · exact hc ⟨h0, z, dc_f hop⟩
      · exact hop z
    · omega
/-- the typing's part of the state -/
def tsC (σ : Sg) : TS := (tn (σ 15 7), tn (σ 15 2), σ 16, σ 17, tn (σ 15 3))
def nn (x : Int32) : Prop := x = nI (tn x)
theorem nn_nI {a : Nat} (h : a < 2 ^ 31) : nn (nI a) := by unfold nn; rw [tn_nI h]
def tyOK (σ : Sg) : Prop := nn (σ 15 7) ∧ lnOK (tn (σ 15 7)) ∧ nn (σ 15 2) ∧ nn (σ 15 3) ∧ nn (σ 15 4) ∧ tn (σ 15 4) < tn (σ 2 1) ∧ nn (σ 15 5) ∧ tn (σ 15 5) ≤ 100 ∧ nn (σ 15 6) ∧ tn (σ 15 6) ≤ 1000000
def pr_X8_mayComeAt : SPre := fun As σ => ∃ t : Int32, As = [.ref 15, .int t] ∧ (True)
def po_X8_mayComeAt : SPost := fun As σ r τ => match As with
  | [.ref _, .int t] => (τ = σ ∧ r = bI (!decide (t < σ 15 6) && !decide (nI 1000000 < t)))
  | _ => True
def ms_X8_mayComeAt : List Me := []
theorem mk_X8_mayComeAt : ∀ q ∈ ms_X8_mayComeAt, kp_okM layC RX8 0 q := fun _ h => absurd h List.not_mem_nil
set_option maxRecDepth 100000 in
theorem v_X8_mayComeAt {J : Nat → Lcl → List Value → Sg → Prop} {Q : Int32 → Sg → Prop} (t : Int32) (σ : Sg) (h : (t < (σ 15 6) → ((nI 0) = nI 0 ∨ (nI 0) = nI 1) ∧ Q (nI 0) σ) ∧ (¬ t < (σ 15 6) → ((nI 1000000) < t → ((nI 0) = nI 0 ∨ (nI 0) = nI 1) ∧ Q (nI 0) σ) ∧ (¬ (nI 1000000) < t → ((nI 1) = nI 0 ∨ (nI 1) = nI 1) ∧ Q (nI 1) σ))) : kp_T layC gl_X8 pl_X8 (ms_X8_mayComeAt) tb_X8_mayComeAt (kp_rk (some .boolean)) J Q 30 tb_X8_mayComeAt (kp_en [.ref 15, .int t] 2) [] σ := h
set_option maxRecDepth 100000 in
set_option maxHeartbeats 4000000 in
theorem c_X8_mayComeAt : kp_Met layC 0 yX8_mayComeAt cX8_mayComeAt 2 (some .boolean) (pr_X8_mayComeAt) (po_X8_mayComeAt) := by
  refine kp_met (N := 30) (by decide) tk_X8_mayComeAt gk_X8 pk_X8 (mk_X8_mayComeAt) rfl (fun _ _ _ _ _ _ _ => False) ?_ (fun _ _ _ _ _ _ _ _ h => h.elim)
  rintro As σ ⟨t, rfl, hp⟩
  refine ⟨⟨rfl, Nat.le_of_ble_eq_true rfl⟩, v_X8_mayComeAt t σ ?_⟩
  refine ⟨fun h1 => ⟨Or.inl rfl, rfl, ?_⟩, fun h1 => ⟨fun h2 => ⟨Or.inl rfl, rfl, ?_⟩, fun h2 => ⟨Or.inr rfl, rfl, ?_⟩⟩⟩
  · rw [decide_eq_true h1]; rfl
  · rw [decide_eq_false h1, decide_eq_true h2]; rfl
  · rw [decide_eq_false h1, decide_eq_false h2]; rfl
def pr_X8_send : SPre := fun As σ => ∃ c : Int32, ∃ t : Int32, As = [.ref 15, .int c, .int t] ∧ (∃ oc : Nat, σ 15 2 = nI oc ∧ oc < 2 ^ 30)
def po_X8_send : SPost := fun As σ r τ => match As with
  | [.ref _, .int c, .int t] => ((∀ a, a ≠ 15 → a ≠ 16 → a ≠ 17 → τ a = σ a) ∧ τ 15 = upd (σ 15) 2 (σ 15 2 + nI 1) ∧ τ 16 = (if tn (σ 15 2) < 400 then upd (σ 16) (tn (σ 15 2)) c else σ 16) ∧ τ 17 = (if tn (σ 15 2) < 400 then upd (σ 17) (tn (σ 15 2)) t else σ 17))
  | _ => True
def ms_X8_send : List Me := []
theorem mk_X8_send : ∀ q ∈ ms_X8_send, kp_okM layC RX8 0 q := fun _ h => absurd h List.not_mem_nil
set_option maxRecDepth 100000 in
theorem v_X8_send {J : Nat → Lcl → List Value → Sg → Prop} {Q : Int32 → Sg → Prop} (c t : Int32) (σ : Sg) (h : (¬ (σ 15 2) < (nI 400) → Q (nI 0) (kp_up σ 15 2 ((σ 15 2) + (nI 1)))) ∧ ((σ 15 2) < (nI 400) → vp_in (σ 15 2) 400 ∧ (vp_in ((kp_up σ 16 (σ 15 2).toNatClampNeg c) 15 2) 400 ∧ (Q (nI 0) (kp_up (kp_up (kp_up σ 16 (σ 15 2).toNatClampNeg c) 17 ((kp_up σ 16 (σ 15 2).toNatClampNeg c) 15 2).toNatClampNeg t) 15 2 (((kp_up (kp_up σ 16 (σ 15 2).toNatClampNeg c) 17 ((kp_up σ 16 (σ 15 2).toNatClampNeg c) 15 2).toNatClampNeg t) 15 2) + (nI 1))))))) : kp_T layC gl_X8 pl_X8 (ms_X8_send) tb_X8_send (kp_rk none) J Q 30 tb_X8_send (kp_en [.ref 15, .int c, .int t] 3) [] σ := h
set_option maxRecDepth 100000 in
set_option maxHeartbeats 4000000 in
theorem c_X8_send : kp_Met layC 0 yX8_send cX8_send 3 none (pr_X8_send) (po_X8_send) := by
  refine kp_met (N := 30) (by decide) tk_X8_send gk_X8 pk_X8 (mk_X8_send) rfl (fun _ _ _ _ _ _ _ => False) ?_ (fun _ _ _ _ _ _ _ _ h => h.elim)
  rintro As σ ⟨c, t, rfl, hp⟩
  refine ⟨⟨rfl, Nat.le_of_ble_eq_true rfl⟩, v_X8_send c t σ ?_⟩
  obtain ⟨oc, h1, h2⟩ := hp
  have eo : tn (σ 15 2) = oc := by rw [h1, tn_nI (by omega)]
  have ec : (σ 15 2).toNatClampNeg = oc := eo
  have e1 : kp_up σ 16 (σ 15 2).toNatClampNeg c 15 2 = σ 15 2 := by simp (disch := decide) only [up_c, kp_up_eq, pk_us, pk_un]
  have e2 : kp_up (kp_up σ 16 (σ 15 2).toNatClampNeg c) 17 (σ 15 2).toNatClampNeg t 15 2 = σ 15 2 := by simp (disch := decide) only [up_c, kp_up_eq, pk_us, pk_un]
  rw [e1, e2]
  have h3 : σ 15 2 < nI 400 ↔ oc < 400 := by rw [h1, nI_ltI (by omega) (by omega)]
  refine ⟨fun g => ⟨fun a a1 _ _ => up_c a1, kp_up_eq, ?_, ?_⟩, fun g => ⟨?_, ?_, fun a a1 a2 a3 => ?_, ?_, ?_, ?_⟩⟩
  · rw [up_c (by decide), eo, if_neg (fun z => g (h3.mpr z))]
  · rw [up_c (by decide), eo, if_neg (fun z => g (h3.mpr z))]
  · rw [h1]; exact (kp_in (by omega)).mpr (h3.mp g)
  · rw [h1]; exact (kp_in (by omega)).mpr (h3.mp g)
  · rw [up_c a1, up_c a3, up_c a2]
  · simp (disch := decide) only [up_c, kp_up_eq, pk_us, pk_un]
  · rw [eo, if_pos (h3.mp g)]
    simp (disch := decide) only [up_c, kp_up_eq, pk_us, pk_un]
    rw [ec]
  · rw [eo, if_pos (h3.mp g)]
    simp (disch := decide) only [up_c, kp_up_eq, pk_us, pk_un]
    rw [ec]
/-- what a settling leaves as it was -/
def tyK (σ τ : Sg) : Prop := fr [15, 16, 17] σ τ ∧ τ 15 4 = σ 15 4 ∧ τ 15 5 = σ 15 5 ∧ τ 15 6 = σ 15 6
theorem tyK_rf {σ : Sg} : tyK σ σ := ⟨fr_rf, rfl, rfl, rfl⟩
theorem tyK_tr {σ τ υ : Sg} (h : tyK σ τ) (h2 : tyK τ υ) : tyK σ υ := ⟨fr_tr h.1 h2.1, h2.2.1.trans h.2.1, h2.2.2.1.trans h.2.2.1, h2.2.2.2.trans h.2.2.2⟩
theorem LI_fr {l : List Nat} {σ τ : Sg} (h : LI σ) (hf : fr l σ τ) (hl : ∀ c ∈ [2, 3, 4, 5, 6], c ∉ l) : LI τ ∧ mC τ = mC σ ∧ τ 3 = σ 3 ∧ τ 2 = σ 2 := by
  have q2 : τ 2 = σ 2 := hf 2 (hl 2 (by decide))
  have q3 : τ 3 = σ 3 := hf 3 (hl 3 (by decide))
  have q4 : τ 4 = σ 4 := hf 4 (hl 4 (by decide))
  have q5 : τ 5 = σ 5 := hf 5 (hl 5 (by decide))
  have q6 : τ 6 = σ 6 := hf 6 (hl 6 (by decide))
  refine ⟨?_, ?_, q3, q2⟩
  · unfold LI; rw [q2, q3, q4, q5, q6]; exact h
  · unfold mC; rw [q4, q5, q6]
def pr_X8_settleOne : SPre := fun As σ => ∃ t : Int32, As = [.ref 15, .ref 1, .int t] ∧ (LI σ ∧ tyOK σ ∧ szT (tsC σ) ≤ 900000 ∧ tn (σ 15 7) ≠ 0)
def po_X8_settleOne : SPost := fun As σ r τ => match As with
  | [.ref _, .ref _, .int t] => (tyK σ τ ∧ tyOK τ ∧ tsC τ = onT (σ 3) (mC σ) (tn (σ 15 4)) t (tsC σ))
  | _ => True
def ms_X8_settleOne : List Me := [(63, 1, 0, 1, true, pr_X7_length, po_X7_length), (67, 1, 0, 2, true, pr_X7_beginning, po_X7_beginning), (57, 0, 5, 2, true, pr_X5_meaning, po_X5_meaning), (70, 0, 7, 2, false, pr_X8_send, po_X8_send), (74, 1, 0, 2, true, pr_X7_withoutBeginning, po_X7_withoutBeginning)]
theorem mk_X8_settleOne : ∀ q ∈ ms_X8_settleOne, kp_okM layC RX8 3 q := List.forall_mem_cons.mpr ⟨Or.inl ⟨1, yX7_length, cX7_length, 2, (some .int), c_X7_length, by omega, by decide, rfl, lk_X8_63⟩, List.forall_mem_cons.mpr ⟨Or.inl ⟨0, yX7_beginning, cX7_beginning, 2, (some .int), c_X7_beginning, by omega, by decide, rfl, lk_X8_67⟩, List.forall_mem_cons.mpr ⟨Or.inl ⟨2, yX5_meaning, cX5_meaning, 6, (some .int), c_X5_meaning, by omega, by decide, rfl, lk_X8_57⟩, List.forall_mem_cons.mpr ⟨Or.inl ⟨0, yX8_send, cX8_send, 3, none, c_X8_send, by omega, by decide, rfl, lk_X8_70⟩, List.forall_mem_cons.mpr ⟨Or.inl ⟨0, yX7_withoutBeginning, cX7_withoutBeginning, 2, (some .int), c_X7_withoutBeginning, by omega, by decide, rfl, lk_X8_74⟩, fun _ h => absurd h List.not_mem_nil⟩⟩⟩⟩⟩
set_option maxRecDepth 100000 in
theorem v_X8_settleOne {J : Nat → Lcl → List Value → Sg → Prop} {Q : Int32 → Sg → Prop} (t : Int32) (σ : Sg) (h : pr_X7_length [.int (σ 15 7)] σ ∧ ∀ (x2 : Int32) (τ1 : Sg), po_X7_length [.int (σ 15 7)] σ x2 τ1 → (J 8 [some (.ref 15), some (.ref 1), some (.int t), some (.int x2), none] [] τ1)) : kp_T layC gl_X8 pl_X8 (ms_X8_settleOne) tb_X8_settleOne (kp_rk none) J Q 49 tb_X8_settleOne (kp_en [.ref 15, .ref 1, .int t] 5) [] σ := h
set_option maxRecDepth 100000 in
theorem v_X8_settleOne_8 {J : Nat → Lcl → List Value → Sg → Prop} {Q : Int32 → Sg → Prop} (t len : Int32) (o4 : Option Value) (σ : Sg) (h : (¬ (nI 0) < len → pr_X7_withoutBeginning [.int ((kp_up σ 15 3 ((σ 15 3) + (nI 1))) 15 7), .int (nI 1)] (kp_up σ 15 3 ((σ 15 3) + (nI 1))) ∧ ∀ (x2 : Int32) (τ1 : Sg), po_X7_withoutBeginning [.int ((kp_up σ 15 3 ((σ 15 3) + (nI 1))) 15 7), .int (nI 1)] (kp_up σ 15 3 ((σ 15 3) + (nI 1))) x2 τ1 → (Q (nI 0) (kp_up τ1 15 7 x2))) ∧ ((nI 0) < len → pr_X7_beginning [.int (σ 15 7), .int len] σ ∧ ∀ (x4 : Int32) (τ3 : Sg), po_X7_beginning [.int (σ 15 7), .int len] σ x4 τ3 → (pr_X5_meaning [.ref 1, .int (σ 15 4), .int x4] τ3 ∧ ∀ (x6 : Int32) (τ5 : Sg), po_X5_meaning [.ref 1, .int (σ 15 4), .int x4] τ3 x6 τ5 → ((x6 = (-1) → J 8 [some (.ref 15), some (.ref 1), some (.int t), some (.int (len + (-1))), some (.int x6)] [] τ5) ∧ (¬ x6 = (-1) → pr_X8_send [.ref 15, .int x6, .int t] τ5 ∧ ∀ (τ7 : Sg), po_X8_send [.ref 15, .int x6, .int t] τ5 (nI 0) τ7 → (pr_X7_withoutBeginning [.int (τ7 15 7), .int len] τ7 ∧ ∀ (x9 : Int32) (τ8 : Sg), po_X7_withoutBeginning [.int (τ7 15 7), .int len] τ7 x9 τ8 → (Q (nI 0) (kp_up τ8 15 7 x9)))))))) : kp_T1 layC gl_X8 pl_X8 (ms_X8_settleOne) tb_X8_settleOne (kp_rk none) J Q 49 8 [some (.ref 15), some (.ref 1), some (.int t), some (.int len), o4] [] σ := h
abbrev iv_X8_settleOne : List Value → Sg → Nat → Nat → Lcl → List Value → Sg → Prop := fun As σ n pc ls st τ => pc = 8 ∧ st = [] ∧ τ = σ ∧ ∃ (t : Int32) (l : Nat) (o4 : Option Value), As = [.ref 15, .ref 1, .int t] ∧ ls = [some (.ref 15), some (.ref 1), some (.int t), some (.int (nI l)), o4] ∧ n = l ∧ l ≤ rlen (tn (σ 15 7)) ∧ hit (σ 3) (mC σ) (tn (σ 15 4)) (tn (σ 15 7)) (rlen (tn (σ 15 7))) = hit (σ 3) (mC σ) (tn (σ 15 4)) (tn (σ 15 7)) l
set_option maxRecDepth 100000 in
set_option maxHeartbeats 4000000 in
theorem c_X8_settleOne : kp_Met layC 3 yX8_settleOne cX8_settleOne 5 none (pr_X8_settleOne) (po_X8_settleOne) := by
  refine kp_met (N := 49) (by decide) tk_X8_settleOne gk_X8 pk_X8 (mk_X8_settleOne) rfl (iv_X8_settleOne) ?_ ?_
  · rintro As σ ⟨t, rfl, hp⟩
    refine ⟨⟨rfl, Nat.le_of_ble_eq_true rfl⟩, v_X8_settleOne t σ ?_⟩
    obtain ⟨hL, hty, hsz, h0⟩ := hp
    have hlt := lnOK_lt hty.2.1
    refine ⟨⟨_, rfl, tn (σ 15 7), hty.1, hlt⟩, ?_⟩
    rintro x2 τ1 ⟨rfl, rfl⟩
    exact ⟨rlen (tn (τ1 15 7)), rfl, rfl, rfl, t, _, none, rfl, rfl, rfl, Nat.le_refl _, rfl⟩
  · rintro As σ ⟨t, rfl, hp⟩ n pc ls st τ hI
    obtain ⟨hL, hty, hsz, h0⟩ := hp
    obtain ⟨rfl, rfl, rfl, t', l, o4, hAs, rfl, rfl, hl, hh⟩ := hI
    cases hAs
    obtain ⟨t1, t2, t3, t4, t5, t6, t7, t8, t9, t10⟩ := id hty
    have hlt := lnOK_lt t2
    have hl3 := rlen_le (tn (τ 15 7))
    have hsz' : tn (τ 15 2) + tn (τ 15 3) + rlen (tn (τ 15 7)) ≤ 900000 := hsz
    have hw := tn_lt (τ 15 7)
    refine v_X8_settleOne_8 _ _ o4 τ ?_
    rw [nI_ltI (by omega) (by omega)]
    refine ⟨fun g1 => ?_, fun g1 => ?_⟩
    · -- lost
      have : n = 0 := by omega
      subst this
      have e7 : kp_up τ 15 3 (τ 15 3 + nI 1) 15 7 = τ 15 7 := by rw [up_n (by decide)]
      rw [e7]
      refine ⟨⟨_, _, rfl, tn (τ 15 7), 1, t1, hlt, rfl, by omega⟩, ?_⟩
      rintro x2 τ1 ⟨rfl, rfl⟩
      rw [tn_nI (show (1 : Nat) < 2 ^ 31 by omega), Nat.pow_one]
      have hlo : τ 15 3 + nI 1 = nI (tn (τ 15 3) + 1) := by rw [← nI_add, ← t4]
      rw [hlo]
      have hdr := ln_drop (l := 1) t2 (by omega) (by have := lnOK_0 t2; omega)
      rw [Nat.pow_one] at hdr
      have hd : tn (τ 15 7) / 256 < 2 ^ 31 := by omega
      refine ⟨⟨fr_up (fr_up fr_rf (by decide)) (by decide), ?_, ?_, ?_⟩, ?_, ?_⟩
      · simp (disch := decide) only [up_c, kp_up_eq, pk_us, pk_un]
      · simp (disch := decide) only [up_c, kp_up_eq, pk_us, pk_un]
      · simp (disch := decide) only [up_c, kp_up_eq, pk_us, pk_un]
      · unfold tyOK
        simp (disch := decide) only [up_c, kp_up_eq, pk_us, pk_un]
        rw [tn_nI hd]
        exact ⟨nn_nI hd, hdr.1, t3, nn_nI (by omega), t5, t6, t7, t8, t9, t10⟩
      · unfold tsC onT
        simp (disch := decide) only [up_c, kp_up_eq, pk_us, pk_un]
        rw [hh, hit, if_pos rfl, tn_nI hd, tn_nI (by omega)]
    · refine ⟨⟨_, _, rfl, tn (τ 15 7), n, t1, hlt, rfl, by omega⟩, ?_⟩
      rintro x4 τ3 ⟨rfl, rfl⟩
      rw [tn_nI (show n < 2 ^ 31 by omega)]
      have hmod : tn (τ3 15 7) % 256 ^ n < 16777216 := Nat.lt_of_le_of_lt (Nat.mod_le _ _) hlt
      refine ⟨⟨_, _, rfl, hL, tn (τ3 15 4), _, t5, t6, rfl, hmod⟩, ?_⟩
      rintro x6 τ5 ⟨rfl, rfl⟩
      rw [tn_nI (show tn (τ5 15 7) % 256 ^ n < 2 ^ 31 by omega)]
      obtain ⟨k, rfl⟩ : ∃ k, n = k + 1 := ⟨n - 1, by omega⟩
      rw [hit] at hh
      refine ⟨fun g2 => ?_, fun g2 => ⟨⟨_, _, rfl, _, t3, by omega⟩, ?_⟩⟩
      · rw [if_pos g2] at hh
        exact ⟨k, by omega, rfl, rfl, rfl, t, k, _, rfl, by rw [pk_m1], rfl, by omega, hh⟩
      · rw [if_neg g2] at hh
        rintro τ7 ⟨f1, f2, f3, f4⟩
        have e7 : τ7 15 7 = τ5 15 7 := by rw [f2, pk_un (by decide)]
        rw [e7]
        refine ⟨⟨_, _, rfl, tn (τ5 15 7), k + 1, t1, hlt, rfl, by omega⟩, ?_⟩
        rintro x9 τ8 ⟨rfl, rfl⟩
        rw [tn_nI (show k + 1 < 2 ^ 31 by omega)]
        have hdr := ln_drop (l := k + 1) t2 (by omega) hl
        have hd : tn (τ5 15 7) / 256 ^ (k + 1) < 2 ^ 31 := Nat.lt_of_le_of_lt (Nat.div_le_self _ _) hw
        have hoc : τ5 15 2 + nI 1 = nI (tn (τ5 15 2) + 1) := by rw [← nI_add, ← t3]
        rw [hoc] at f2
        have e15 : kp_up τ8 15 7 (nI (tn (τ5 15 7) / 256 ^ (k + 1))) 15 = upd (upd (τ5 15) 2 (nI (tn (τ5 15 2) + 1))) 7 (nI (tn (τ5 15 7) / 256 ^ (k + 1))) := by rw [kp_up_eq, f2]
        have e2 : kp_up τ8 15 7 (nI (tn (τ5 15 7) / 256 ^ (k + 1))) 2 = τ5 2 := by rw [up_c (by decide), f1 2 (by decide) (by decide) (by decide)]
        refine ⟨⟨?_, ?_, ?_, ?_⟩, ?_, ?_⟩
        · intro a ha
          simp at ha
          rw [up_c ha.1, f1 a ha.1 ha.2.1 ha.2.2]
        · rw [e15]; simp (disch := decide) only [up_c, kp_up_eq, pk_us, pk_un]
        · rw [e15]; simp (disch := decide) only [up_c, kp_up_eq, pk_us, pk_un]
        · rw [e15]; simp (disch := decide) only [up_c, kp_up_eq, pk_us, pk_un]
        · unfold tyOK
          rw [e15, e2]
          simp (disch := decide) only [up_c, kp_up_eq, pk_us, pk_un]
          rw [tn_nI hd]
          exact ⟨nn_nI hd, hdr.1, nn_nI (by omega), t4, t5, t6, t7, t8, t9, t10⟩
        · unfold tsC onT
          rw [e15]
          simp (disch := decide) only [up_c, kp_up_eq, pk_us, pk_un]
          rw [hh, if_neg (by omega), tn_nI hd, tn_nI (by omega), f3, f4]
def pr_X8_settleAll : SPre := fun As σ => ∃ t : Int32, As = [.ref 15, .ref 1, .int t] ∧ (LI σ ∧ tyOK σ ∧ szT (tsC σ) ≤ 900000)
def po_X8_settleAll : SPost := fun As σ r τ => match As with
  | [.ref _, .ref _, .int t] => (tyK σ τ ∧ tyOK τ ∧ tsC τ = stT (σ 3) (mC σ) (tn (σ 15 4)) t 3 (tsC σ))
  | _ => True
def ms_X8_settleAll : List Me := [(54, 0, 7, 2, false, pr_X8_settleOne, po_X8_settleOne)]
theorem mk_X8_settleAll : ∀ q ∈ ms_X8_settleAll, kp_okM layC RX8 4 q := List.forall_mem_cons.mpr ⟨Or.inl ⟨3, yX8_settleOne, cX8_settleOne, 5, none, c_X8_settleOne, by omega, by decide, rfl, lk_X8_54⟩, fun _ h => absurd h List.not_mem_nil⟩
set_option maxRecDepth 100000 in
theorem v_X8_settleAll {J : Nat → Lcl → List Value → Sg → Prop} {Q : Int32 → Sg → Prop} (t : Int32) (σ : Sg) (h : J 2 [some (.ref 15), some (.ref 1), some (.int t), some (.int (nI 0))] [] σ) : kp_T layC gl_X8 pl_X8 (ms_X8_settleAll) tb_X8_settleAll (kp_rk none) J Q 30 tb_X8_settleAll (kp_en [.ref 15, .ref 1, .int t] 4) [] σ := h
set_option maxRecDepth 100000 in
theorem v_X8_settleAll_2 {J : Nat → Lcl → List Value → Sg → Prop} {Q : Int32 → Sg → Prop} (t steps : Int32) (σ : Sg) (h : (¬ steps < (nI 3) → Q (nI 0) σ) ∧ (steps < (nI 3) → ((σ 15 7) = (nI 0) → Q (nI 0) σ) ∧ (¬ (σ 15 7) = (nI 0) → pr_X8_settleOne [.ref 15, .ref 1, .int t] σ ∧ ∀ (τ1 : Sg), po_X8_settleOne [.ref 15, .ref 1, .int t] σ (nI 0) τ1 → (J 2 [some (.ref 15), some (.ref 1), some (.int t), some (.int (steps + nI 1))] [] τ1)))) : kp_T1 layC gl_X8 pl_X8 (ms_X8_settleAll) tb_X8_settleAll (kp_rk none) J Q 30 2 [some (.ref 15), some (.ref 1), some (.int t), some (.int steps)] [] σ := h
abbrev iv_X8_settleAll : List Value → Sg → Nat → Nat → Lcl → List Value → Sg → Prop := fun As σ n pc ls st τ => pc = 2 ∧ st = [] ∧ ∃ (t : Int32) (sp : Nat), As = [.ref 15, .ref 1, .int t] ∧ ls = [some (.ref 15), some (.ref 1), some (.int t), some (.int (nI sp))] ∧ sp ≤ 3 ∧ n = 3 - sp ∧ tyK σ τ ∧ tyOK τ ∧ szT (tsC τ) ≤ 900000 ∧ stT (σ 3) (mC σ) (tn (σ 15 4)) t 3 (tsC σ) = stT (σ 3) (mC σ) (tn (σ 15 4)) t (3 - sp) (tsC τ)
set_option maxRecDepth 100000 in
set_option maxHeartbeats 4000000 in
theorem c_X8_settleAll : kp_Met layC 4 yX8_settleAll cX8_settleAll 4 none (pr_X8_settleAll) (po_X8_settleAll) := by
  refine kp_met (N := 30) (by decide) tk_X8_settleAll gk_X8 pk_X8 (mk_X8_settleAll) rfl (iv_X8_settleAll) ?_ ?_
  · rintro As σ ⟨t, rfl, hp⟩
    refine ⟨⟨rfl, Nat.le_of_ble_eq_true rfl⟩, v_X8_settleAll t σ ?_⟩
    obtain ⟨hL, hty, hsz⟩ := hp
    exact ⟨3, rfl, rfl, t, 0, rfl, rfl, by omega, rfl, tyK_rf, hty, hsz, rfl⟩
  · rintro As σ ⟨t, rfl, hp⟩ n pc ls st τ hI
    obtain ⟨hL, -, -⟩ := hp
    obtain ⟨rfl, rfl, t', sp, hAs, rfl, hsp, rfl, hk, hty, hsz, hst⟩ := hI
    cases hAs
    obtain ⟨hLt, em, e3, e2⟩ := LI_fr hL hk.1 (by decide)
    have h70 : τ 15 7 = nI 0 ↔ (tsC τ).1 = 0 := by
      rw [hty.1, nI_eq (tn_lt _) (by omega)]; rfl
    refine v_X8_settleAll_2 _ _ τ ?_
    rw [nI_ltI (by omega) (by omega), h70, nI_add]
    refine ⟨fun g1 => ⟨hk, hty, ?_⟩, fun g1 => ⟨fun g2 => ⟨hk, hty, ?_⟩, fun g2 => ⟨⟨_, rfl, hLt, hty, hsz, g2⟩, ?_⟩⟩⟩
    · rw [hst, show 3 - sp = 0 by omega]; rfl
    · rw [hst, show 3 - sp = (3 - (sp + 1)) + 1 by omega, stT, if_pos g2]
    · rintro τ1 ⟨k1, k2, k3⟩
      rw [em, e3, hk.2.1] at k3
      refine ⟨3 - (sp + 1), by omega, rfl, rfl, t, sp + 1, rfl, rfl, by omega, rfl, tyK_tr hk k1, k2, ?_, ?_⟩
      · rw [k3]
        have := (onT_ok (o := σ 3) (M := mC σ) (c := tn (σ 15 4)) (tick := t) (t := tsC τ) hty.2.1 g2).2.2
        omega
      · rw [hst, show 3 - sp = (3 - (sp + 1)) + 1 by omega, stT, if_neg g2, k3]
/-- a stroke typed -/
noncomputable def prT (o M : Nat → Int32) (c : Nat) (pat last stroke : Nat) (tick : Nat) (t : TS) : TS :=
  let t1 := if pat < tick - last then stT o M c (nI (last + pat)) 3 t else t
  fiT o M c (nI tick) (drT o M c (nI tick) 3 (t1.1 + stroke * 256 ^ rlen t1.1, t1.2))
def pr_X8_press : SPre := fun As σ => ∃ s : Int32, ∃ t : Int32, As = [.ref 15, .ref 1, .int s, .int t] ∧ (LI σ ∧ tyOK σ ∧ szT (tsC σ) ≤ 800000 ∧ rlen (tn (σ 15 7)) ≤ 2 ∧ ∃ ss tt : Nat, s = nI ss ∧ 1 ≤ ss ∧ ss ≤ 240 ∧ t = nI tt ∧ tn (σ 15 6) ≤ tt ∧ tt ≤ 1000000)
def po_X8_press : SPost := fun As σ r τ => match As with
  | [.ref _, .ref _, .int s, .int t] => (fr [15, 16, 17] σ τ ∧ τ 15 4 = σ 15 4 ∧ τ 15 5 = σ 15 5 ∧ τ 15 6 = t ∧ tyOK τ ∧ tsC τ = prT (σ 3) (mC σ) (tn (σ 15 4)) (tn (σ 15 5)) (tn (σ 15 6)) (tn s) (tn t) (tsC σ))
  | _ => True
def ms_X8_press : List Me := [(38, 0, 7, 2, false, pr_X8_settleAll, po_X8_settleAll), (42, 1, 0, 2, true, pr_X7_withStroke, po_X7_withStroke), (48, 0, 5, 2, true, pr_X5_isLive, po_X5_isLive), (54, 0, 7, 2, false, pr_X8_settleOne, po_X8_settleOne), (57, 0, 5, 2, true, pr_X5_meaning, po_X5_meaning), (60, 0, 5, 2, true, pr_X5_opensLonger, po_X5_opensLonger)]
theorem mk_X8_press : ∀ q ∈ ms_X8_press, kp_okM layC RX8 5 q := List.forall_mem_cons.mpr ⟨Or.inl ⟨4, yX8_settleAll, cX8_settleAll, 4, none, c_X8_settleAll, by omega, by decide, rfl, lk_X8_38⟩, List.forall_mem_cons.mpr ⟨Or.inl ⟨2, yX7_withStroke, cX7_withStroke, 2, (some .int), c_X7_withStroke, by omega, by decide, rfl, lk_X8_42⟩, List.forall_mem_cons.mpr ⟨Or.inl ⟨4, yX5_isLive, cX5_isLive, 3, (some .boolean), c_X5_isLive, by omega, by decide, rfl, lk_X8_48⟩, List.forall_mem_cons.mpr ⟨Or.inl ⟨3, yX8_settleOne, cX8_settleOne, 5, none, c_X8_settleOne, by omega, by decide, rfl, lk_X8_54⟩, List.forall_mem_cons.mpr ⟨Or.inl ⟨2, yX5_meaning, cX5_meaning, 6, (some .int), c_X5_meaning, by omega, by decide, rfl, lk_X8_57⟩, List.forall_mem_cons.mpr ⟨Or.inl ⟨3, yX5_opensLonger, cX5_opensLonger, 5, (some .boolean), c_X5_opensLonger, by omega, by decide, rfl, lk_X8_60⟩, fun _ h => absurd h List.not_mem_nil⟩⟩⟩⟩⟩⟩
def tx_X8_press : List Ent := [(0, .iload_n 3, 1, false, 0), (1, .aload_n 0, 1, false, 0), (2, .getfield 31, 3, false, 0), (5, .isub, 1, false, 0), (6, .aload_n 0, 1, false, 0), (7, .getfield 28, 3, false, 0), (10, .if_icmp .le 17, 3, false, 0), (13, .aload_n 0, 1, false, 0), (14, .aload_n 1, 1, false, 0), (15, .aload_n 0, 1, false, 0), (16, .getfield 31, 3, false, 0), (19, .aload_n 0, 1, false, 0), (20, .getfield 28, 3, false, 0), (23, .iadd, 1, false, 0), (24, .invokevirtual 38, 3, false, 0), (27, .aload_n 0, 1, false, 0), (28, .iload_n 3, 1, false, 0), (29, .putfield 31, 3, false, 0), (32, .aload_n 0, 1, false, 0), (33, .aload_n 0, 1, false, 0), (34, .getfield 34, 3, false, 0), (37, .iload_n 2, 1, false, 0), (38, .invokestatic 42, 3, false, 0), (41, .putfield 34, 3, false, 0), (44, .iconst 0, 1, false, nI 0), (45, .istore 4, 2, false, 0), (47, .iload 4, 2, true, 0), (49, .iconst 3, 1, false, nI 3), (50, .if_icmp .ge 37, 3, false, 0), (53, .aload_n 0, 1, false, 0), (54, .getfield 34, 3, false, 0), (57, .ifCond .eq 30, 3, false, 0), (60, .aload_n 1, 1, false, 0), (61, .aload_n 0, 1, false, 0), (62, .getfield 25, 3, false, 0), (65, .aload_n 0, 1, false, 0), (66, .getfield 34, 3, false, 0), (69, .invokevirtual 48, 3, false, 0), (72, .ifCond .ne 15, 3, false, 0), (75, .aload_n 0, 1, false, 0), (76, .aload_n 1, 1, false, 0), (77, .iload_n 3, 1, false, 0), (78, .invokevirtual 54, 3, false, 0), (81, .iinc 4 1, 3, false, nI 1), (84, .goto (-37), 3, false, 0), (87, .aload_n 0, 1, true, 0), (88, .getfield 34, 3, false, 0), (91, .ifCond .eq 23, 3, false, 0), (94, .aload_n 1, 1, false, 0), (95, .aload_n 0, 1, false, 0), (96, .getfield 25, 3, false, 0), (99, .aload_n 0, 1, false, 0), (100, .getfield 34, 3, false, 0), (103, .invokevirtual 57, 3, false, 0), (106, .iconst (-1), 1, false, (-1)), (107, .if_icmp .eq 7, 3, false, 0), (110, .iconst 1, 1, false, nI 1), (111, .goto 4, 3, false, 0), (114, .iconst 0, 1, false, nI 0), (115, .istore 4, 2, false, 0), (117, .iload 4, 2, false, 0), (119, .ifCond .eq 24, 3, false, 0), (122, .aload_n 1, 1, false, 0), (123, .aload_n 0, 1, false, 0), (124, .getfield 25, 3, false, 0), (127, .aload_n 0, 1, false, 0), (128, .getfield 34, 3, false, 0), (131, .invokevirtual 60, 3, false, 0), (134, .ifCond .ne 9, 3, false, 0), (137, .aload_n 0, 1, false, 0), (138, .aload_n 1, 1, false, 0), (139, .iload_n 3, 1, false, 0), (140, .invokevirtual 54, 3, false, 0), (143, .return_, 1, false, 0)]
set_option maxRecDepth 100000 in
theorem tkx_X8_press : kp_ok cX8_press RX8 tx_X8_press = true := by decide +kernel
set_option maxRecDepth 100000 in
theorem v_X8_press {J : Nat → Lcl → List Value → Sg → Prop} {Q : Int32 → Sg → Prop} (s t : Int32) (σ : Sg) (h : (¬ (σ 15 5) < (t - (σ 15 6)) → pr_X7_withStroke [.int ((kp_up σ 15 6 t) 15 7), .int s] (kp_up σ 15 6 t) ∧ ∀ (x2 : Int32) (τ1 : Sg), po_X7_withStroke [.int ((kp_up σ 15 6 t) 15 7), .int s] (kp_up σ 15 6 t) x2 τ1 → (J 47 [some (.ref 15), some (.ref 1), some (.int s), some (.int t), some (.int (nI 0))] [] (kp_up τ1 15 7 x2))) ∧ ((σ 15 5) < (t - (σ 15 6)) → pr_X8_settleAll [.ref 15, .ref 1, .int ((σ 15 6) + (σ 15 5))] σ ∧ ∀ (τ3 : Sg), po_X8_settleAll [.ref 15, .ref 1, .int ((σ 15 6) + (σ 15 5))] σ (nI 0) τ3 → (pr_X7_withStroke [.int ((kp_up τ3 15 6 t) 15 7), .int s] (kp_up τ3 15 6 t) ∧ ∀ (x5 : Int32) (τ4 : Sg), po_X7_withStroke [.int ((kp_up τ3 15 6 t) 15 7), .int s] (kp_up τ3 15 6 t) x5 τ4 → (J 47 [some (.ref 15), some (.ref 1), some (.int s), some (.int t), some (.int (nI 0))] [] (kp_up τ4 15 7 x5))))) : kp_T layC gl_X8 pl_X8 (ms_X8_press) tx_X8_press (kp_rk none) J Q 79 tx_X8_press (kp_en [.ref 15, .ref 1, .int s, .int t] 5) [] σ := h
set_option maxRecDepth 100000 in
theorem v_X8_press_47 {J : Nat → Lcl → List Value → Sg → Prop} {Q : Int32 → Sg → Prop} (s t steps : Int32) (σ : Sg) (h : (¬ steps < (nI 3) → J 87 [some (.ref 15), some (.ref 1), some (.int s), some (.int t), some (.int steps)] [] σ) ∧ (steps < (nI 3) → ((σ 15 7) = (nI 0) → J 87 [some (.ref 15), some (.ref 1), some (.int s), some (.int t), some (.int steps)] [] σ) ∧ (¬ (σ 15 7) = (nI 0) → pr_X5_isLive [.ref 1, .int (σ 15 4), .int (σ 15 7)] σ ∧ ∀ (x2 : Int32) (τ1 : Sg), po_X5_isLive [.ref 1, .int (σ 15 4), .int (σ 15 7)] σ x2 τ1 → ((¬ x2 = (nI 0) → J 87 [some (.ref 15), some (.ref 1), some (.int s), some (.int t), some (.int steps)] [] τ1) ∧ (x2 = (nI 0) → pr_X8_settleOne [.ref 15, .ref 1, .int t] τ1 ∧ ∀ (τ3 : Sg), po_X8_settleOne [.ref 15, .ref 1, .int t] τ1 (nI 0) τ3 → (J 47 [some (.ref 15), some (.ref 1), some (.int s), some (.int t), some (.int (steps + nI 1))] [] τ3)))))) : kp_T1 layC gl_X8 pl_X8 (ms_X8_press) tx_X8_press (kp_rk none) J Q 79 47 [some (.ref 15), some (.ref 1), some (.int s), some (.int t), some (.int steps)] [] σ := h
set_option maxRecDepth 100000 in
theorem v_X8_press_87 {J : Nat → Lcl → List Value → Sg → Prop} {Q : Int32 → Sg → Prop} (s t steps : Int32) (σ : Sg) (h : ((σ 15 7) = (nI 0) → ((nI 0) = (nI 0) → Q (nI 0) σ) ∧ (¬ (nI 0) = (nI 0) → pr_X5_opensLonger [.ref 1, .int (σ 15 4), .int (σ 15 7)] σ ∧ ∀ (x2 : Int32) (τ1 : Sg), po_X5_opensLonger [.ref 1, .int (σ 15 4), .int (σ 15 7)] σ x2 τ1 → ((¬ x2 = (nI 0) → Q (nI 0) τ1) ∧ (x2 = (nI 0) → pr_X8_settleOne [.ref 15, .ref 1, .int t] τ1 ∧ ∀ (τ3 : Sg), po_X8_settleOne [.ref 15, .ref 1, .int t] τ1 (nI 0) τ3 → (Q (nI 0) τ3))))) ∧ (¬ (σ 15 7) = (nI 0) → pr_X5_meaning [.ref 1, .int (σ 15 4), .int (σ 15 7)] σ ∧ ∀ (x5 : Int32) (τ4 : Sg), po_X5_meaning [.ref 1, .int (σ 15 4), .int (σ 15 7)] σ x5 τ4 → ((x5 = (-1) → ((nI 0) = (nI 0) → Q (nI 0) τ4) ∧ (¬ (nI 0) = (nI 0) → pr_X5_opensLonger [.ref 1, .int (τ4 15 4), .int (τ4 15 7)] τ4 ∧ ∀ (x7 : Int32) (τ6 : Sg), po_X5_opensLonger [.ref 1, .int (τ4 15 4), .int (τ4 15 7)] τ4 x7 τ6 → ((¬ x7 = (nI 0) → Q (nI 0) τ6) ∧ (x7 = (nI 0) → pr_X8_settleOne [.ref 15, .ref 1, .int t] τ6 ∧ ∀ (τ8 : Sg), po_X8_settleOne [.ref 15, .ref 1, .int t] τ6 (nI 0) τ8 → (Q (nI 0) τ8))))) ∧ (¬ x5 = (-1) → ((nI 1) = (nI 0) → Q (nI 0) τ4) ∧ (¬ (nI 1) = (nI 0) → pr_X5_opensLonger [.ref 1, .int (τ4 15 4), .int (τ4 15 7)] τ4 ∧ ∀ (x10 : Int32) (τ9 : Sg), po_X5_opensLonger [.ref 1, .int (τ4 15 4), .int (τ4 15 7)] τ4 x10 τ9 → ((¬ x10 = (nI 0) → Q (nI 0) τ9) ∧ (x10 = (nI 0) → pr_X8_settleOne [.ref 15, .ref 1, .int t] τ9 ∧ ∀ (τ11 : Sg), po_X8_settleOne [.ref 15, .ref 1, .int t] τ9 (nI 0) τ11 → (Q (nI 0) τ11)))))))) : kp_T1 layC gl_X8 pl_X8 (ms_X8_press) tx_X8_press (kp_rk none) J Q 79 87 [some (.ref 15), some (.ref 1), some (.int s), some (.int t), some (.int steps)] [] σ := h
abbrev iv_X8_press : List Value → Sg → Nat → Nat → Lcl → List Value → Sg → Prop := fun As σ n pc ls st τ => st = [] ∧ ∃ (ss tt sp : Nat) (t2 : TS), As = [.ref 15, .ref 1, .int (nI ss), .int (nI tt)] ∧ ls = [some (.ref 15), some (.ref 1), some (.int (nI ss)), some (.int (nI tt)), some (.int (nI sp))] ∧ sp ≤ 3 ∧ fr [15, 16, 17] σ τ ∧ τ 15 4 = σ 15 4 ∧ τ 15 5 = σ 15 5 ∧ τ 15 6 = nI tt ∧ tyOK τ ∧ szT (tsC τ) ≤ 900000 ∧ prT (σ 3) (mC σ) (tn (σ 15 4)) (tn (σ 15 5)) (tn (σ 15 6)) ss tt (tsC σ) = fiT (σ 3) (mC σ) (tn (σ 15 4)) (nI tt) t2 ∧ ss ≤ 240 ∧ tt ≤ 1000000 ∧ ((pc = 47 ∧ n = 10 + (3 - sp) ∧ t2 = drT (σ 3) (mC σ) (tn (σ 15 4)) (nI tt) (3 - sp) (tsC τ)) ∨ (pc = 87 ∧ n = 0 ∧ t2 = tsC τ))
set_option maxRecDepth 100000 in
set_option maxHeartbeats 4000000 in
theorem c_X8_press : kp_Met layC 5 yX8_press cX8_press 5 none (pr_X8_press) (po_X8_press) := by
  refine kp_met (N := 79) (by decide) tkx_X8_press gk_X8 pk_X8 (mk_X8_press) rfl (iv_X8_press) ?_ ?_
  · rintro As σ ⟨s, t, rfl, hp⟩
    refine ⟨⟨rfl, Nat.le_of_ble_eq_true rfl⟩, v_X8_press s t σ ?_⟩
    obtain ⟨hL, hty, hsz, hlen, ss, tt, rfl, hs1, hs2, rfl, ht1, ht2⟩ := hp
    obtain ⟨t1, t2, t3, t4, t5, t6, t7, t8, t9, t10⟩ := id hty
    have ess : tn (nI ss) = ss := tn_nI (by omega)
    have hgo : ∀ τ : Sg, tyK σ τ → tyOK τ → szT (tsC τ) ≤ 800000 → rlen (tn (τ 15 7)) ≤ 2 → tsC τ = (if tn (σ 15 5) < tt - tn (σ 15 6) then stT (σ 3) (mC σ) (tn (σ 15 4)) (nI (tn (σ 15 6) + tn (σ 15 5))) 3 (tsC σ) else tsC σ) →
        (pr_X7_withStroke [.int ((kp_up τ 15 6 (nI tt)) 15 7), .int (nI ss)] (kp_up τ 15 6 (nI tt)) ∧ ∀ (x2 : Int32) (τ1 : Sg), po_X7_withStroke [.int ((kp_up τ 15 6 (nI tt)) 15 7), .int (nI ss)] (kp_up τ 15 6 (nI tt)) x2 τ1 → ∃ n, iv_X8_press [.ref 15, .ref 1, .int (nI ss), .int (nI tt)] σ n 47 [some (.ref 15), some (.ref 1), some (.int (nI ss)), some (.int (nI tt)), some (.int (nI 0))] [] (kp_up τ1 15 7 x2)) := by
      intro τ hk hty' hsz' hlen' hts
      obtain ⟨w1, w2, w3, w4, w5, w6, w7, w8, w9, w10⟩ := id hty'
      have e7 : kp_up τ 15 6 (nI tt) 15 7 = τ 15 7 := by simp (disch := decide) only [up_c, kp_up_eq, pk_us, pk_un]
      rw [e7]
      have hwl := lnOK_len w2
      have hw3 : tn (τ 15 7) < 65536 := by omega
      refine ⟨⟨_, _, rfl, tn (τ 15 7), ss, w1, hw3, ?_, rfl, by omega⟩, ?_⟩
      · rcases hwl with ⟨a, b⟩ | ⟨a, b⟩ | ⟨a, b⟩ | ⟨a, b⟩
        · rw [b, a]; decide
        · rw [a]; omega
        · rw [a]; omega
        · omega
      · rintro x2 τ1 ⟨rfl, rfl⟩
        rw [ess]
        obtain ⟨a1, a2⟩ := ln_add w2 hlen' hs1 hs2
        have hlt := rowOK_lt a1
        have e15 : kp_up (kp_up τ 15 6 (nI tt)) 15 7 (nI (tn (τ 15 7) + ss * 256 ^ rlen (tn (τ 15 7)))) 15 = upd (upd (τ 15) 6 (nI tt)) 7 (nI (tn (τ 15 7) + ss * 256 ^ rlen (tn (τ 15 7)))) := by rw [kp_up_eq, kp_up_eq]
        have e2 : kp_up (kp_up τ 15 6 (nI tt)) 15 7 (nI (tn (τ 15 7) + ss * 256 ^ rlen (tn (τ 15 7)))) 2 = τ 2 := by simp (disch := decide) only [up_c, kp_up_eq, pk_us, pk_un]
        have e16 : kp_up (kp_up τ 15 6 (nI tt)) 15 7 (nI (tn (τ 15 7) + ss * 256 ^ rlen (tn (τ 15 7)))) 16 = τ 16 := by simp (disch := decide) only [up_c, kp_up_eq, pk_us, pk_un]
        have e17 : kp_up (kp_up τ 15 6 (nI tt)) 15 7 (nI (tn (τ 15 7) + ss * 256 ^ rlen (tn (τ 15 7)))) 17 = τ 17 := by simp (disch := decide) only [up_c, kp_up_eq, pk_us, pk_un]
        have ets : tsC (kp_up (kp_up τ 15 6 (nI tt)) 15 7 (nI (tn (τ 15 7) + ss * 256 ^ rlen (tn (τ 15 7))))) = ((tsC τ).1 + ss * 256 ^ rlen (tsC τ).1, (tsC τ).2) := by
          unfold tsC
          rw [e15, e16, e17]
          simp (disch := decide) only [up_c, kp_up_eq, pk_us, pk_un]
          rw [tn_nI (by omega)]
        refine ⟨13, rfl, ss, tt, 0, _, rfl, rfl, by omega, fr_up (fr_up hk.1 (by decide)) (by decide), ?_, ?_, ?_, ?_, ?_, ?_, hs2, ht2, Or.inl ⟨rfl, rfl, rfl⟩⟩
        · rw [e15]; simp (disch := decide) only [up_c, kp_up_eq, pk_us, pk_un]
          exact hk.2.1
        · rw [e15]; simp (disch := decide) only [up_c, kp_up_eq, pk_us, pk_un]
          exact hk.2.2.1
        · rw [e15]; simp (disch := decide) only [up_c, kp_up_eq, pk_us, pk_un]
        · unfold tyOK
          rw [e15, e2]
          simp (disch := decide) only [up_c, kp_up_eq, pk_us, pk_un]
          rw [tn_nI (show tn (τ 15 7) + ss * 256 ^ rlen (tn (τ 15 7)) < 2 ^ 31 by omega), tn_nI (show tt < 2 ^ 31 by omega)]
          exact ⟨nn_nI (by omega), Or.inr a1, w3, w4, w5, w6, w7, w8, nn_nI (by omega), ht2⟩
        · rw [ets]
          have hq : tn (τ 15 2) + tn (τ 15 3) + rlen (tn (τ 15 7)) ≤ 800000 := hsz'
          show tn (τ 15 2) + tn (τ 15 3) + rlen (tn (τ 15 7) + ss * 256 ^ rlen (tn (τ 15 7))) ≤ 900000
          omega
        · rw [ets, hts]; rfl
    have esub : nI tt - σ 15 6 = nI (tt - tn (σ 15 6)) := by rw [← pk_sub ht1, ← t9]
    rw [esub, show (σ 15 5 < nI (tt - tn (σ 15 6))) = (nI (tn (σ 15 5)) < nI (tt - tn (σ 15 6))) by rw [← t7], nI_ltI (tn_lt _) (by omega)]
    refine ⟨fun g => hgo σ tyK_rf hty hsz hlen (by rw [if_neg g]), fun g => ⟨⟨_, rfl, hL, hty, by omega⟩, ?_⟩⟩
    rintro τ3 ⟨k1, k2, k3⟩
    have eadd : σ 15 6 + σ 15 5 = nI (tn (σ 15 6) + tn (σ 15 5)) := by rw [← nI_add, ← t9, ← t7]
    rw [eadd] at k3
    have hok := stT_ok (o := σ 3) (M := mC σ) (c := tn (σ 15 4)) (tick := nI (tn (σ 15 6) + tn (σ 15 5))) 3 (tsC σ) t2
    rw [← k3] at hok
    have h0 := hok.2.2 (rlen_le _)
    refine hgo τ3 k1 k2 (by omega) ?_ (by rw [if_pos g]; exact k3)
    have h0 : tn (τ3 15 7) = 0 := h0
    rw [h0]; decide
  · rintro As σ ⟨s, t, rfl, hp⟩ n pc ls st τ hI
    obtain ⟨hL, -, -, -, -⟩ := hp
    obtain ⟨rfl, ss, tt, sp, t2, hAs, rfl, hsp, hfr, q4, q5, q6, hty, hsz, hpr, hss, htt, hI⟩ := hI
    cases hAs
    obtain ⟨hLt, em, e3, e2⟩ := LI_fr hL hfr (by decide)
    obtain ⟨t1, t2', t3, t4, t5, t6, t7, t8, t9, t10⟩ := id hty
    have hlt := lnOK_lt t2'
    have h70 : τ 15 7 = nI 0 ↔ (tsC τ).1 = 0 := by
      rw [t1, nI_eq (tn_lt _) (by omega)]; rfl
    have ess : tn (nI ss) = ss := tn_nI (by omega)
    have ett : tn (nI tt) = tt := tn_nI (by omega)
    rcases hI with ⟨rfl, rfl, rfl⟩ | ⟨rfl, rfl, rfl⟩
    · refine v_X8_press_47 _ _ _ τ ?_
      rw [nI_ltI (by omega) (by omega), h70, nI_add]
      have hout : drT (σ 3) (mC σ) (tn (σ 15 4)) (nI tt) (3 - sp) (tsC τ) = tsC τ → ∃ n', n' < 10 + (3 - sp) ∧ iv_X8_press [.ref 15, .ref 1, .int (nI ss), .int (nI tt)] σ n' 87 [some (.ref 15), some (.ref 1), some (.int (nI ss)), some (.int (nI tt)), some (.int (nI sp))] [] τ := fun h =>
        ⟨0, by omega, rfl, ss, tt, sp, _, rfl, rfl, hsp, hfr, q4, q5, q6, hty, hsz, hpr, hss, htt, Or.inr ⟨rfl, rfl, h⟩⟩
      refine ⟨fun g1 => hout (by rw [show 3 - sp = 0 by omega]; rfl), fun g1 => ⟨fun g2 => hout (by rw [show 3 - sp = (3 - (sp + 1)) + 1 by omega, drT, if_pos (Or.inl g2)]), fun g2 => ⟨⟨_, _, rfl, hLt, _, _, t5, t6, t1, hlt⟩, ?_⟩⟩⟩
      rintro x24 τ23 ⟨rfl, rfl⟩
      rw [bI_0, em, e3, q4]
      refine ⟨fun g3 => hout ?_, fun g3 => ⟨⟨_, rfl, hLt, hty, hsz, g2⟩, ?_⟩⟩
      · rw [show 3 - sp = (3 - (sp + 1)) + 1 by omega, drT, if_pos (Or.inr (show dc (liveP (σ 3) (mC σ) (tn (σ 15 4)) (tsC τ23).1) = true from by rw [Bool.not_eq_false] at g3; exact g3))]
      · rintro τ36 ⟨k1, k2, k3⟩
        rw [em, e3, q4] at k3
        refine ⟨10 + (3 - (sp + 1)), by omega, rfl, ss, tt, sp + 1, _, rfl, rfl, by omega, fr_tr hfr k1.1, k1.2.1.trans q4, k1.2.2.1.trans q5, k1.2.2.2.trans q6, k2, ?_, hpr, hss, htt, Or.inl ⟨rfl, rfl, ?_⟩⟩
        · rw [k3]
          have := (onT_ok (o := σ 3) (M := mC σ) (c := tn (σ 15 4)) (tick := nI tt) (t := tsC τ23) t2' g2).2.2
          omega
        · rw [show 3 - sp = (3 - (sp + 1)) + 1 by omega, drT, if_neg, k3]
          rintro (z | z)
          · exact g2 z
          · have g3' : dc (liveP (σ 3) (mC σ) (tn (σ 15 4)) (tsC τ23).1) = false := g3
            rw [g3'] at z; cases z
    · refine v_X8_press_87 _ _ _ τ ?_
      rw [h70]
      have hfin : ∀ τ' : Sg, tyK τ τ' → tyOK τ' → tsC τ' = fiT (σ 3) (mC σ) (tn (σ 15 4)) (nI tt) (tsC τ) → po_X8_press [.ref 15, .ref 1, .int (nI ss), .int (nI tt)] σ (nI 0) τ' := fun τ' k1 k2 k3 =>
        ⟨fr_tr hfr k1.1, k1.2.1.trans q4, k1.2.2.1.trans q5, k1.2.2.2.trans q6, k2, by rw [ess, ett, hpr, k3]⟩
      refine ⟨fun g1 => ⟨fun _ => hfin τ tyK_rf hty ?_, fun z => absurd rfl z⟩, fun g1 => ⟨⟨_, _, rfl, hLt, _, _, t5, t6, t1, hlt⟩, ?_⟩⟩
      · unfold fiT; rw [if_neg (fun z => z.1 g1)]
      · rintro x5 τ4 ⟨rfl, rfl⟩
        rw [em, e3, q4]
        refine ⟨fun g2 => ⟨fun _ => hfin τ4 tyK_rf hty ?_, fun z => absurd rfl z⟩, fun g2 => ⟨fun z => absurd z (by decide), fun _ => ⟨⟨_, _, rfl, hLt, _, _, q4.symm.trans t5, t6, t1, hlt⟩, ?_⟩⟩⟩
        · unfold fiT; rw [if_neg (fun z => z.2.1 g2)]
        · rintro x10 τ9 ⟨rfl, rfl⟩
          rw [bI_0, em, e3]
          refine ⟨fun g3 => hfin τ9 tyK_rf hty ?_, fun g3 => ⟨⟨_, rfl, hLt, hty, hsz, g1⟩, ?_⟩⟩
          · unfold fiT; rw [if_neg (fun z => g3 z.2.2)]
          · rintro τ11 ⟨k1, k2, k3⟩
            rw [em, e3, q4] at k3
            refine hfin τ11 k1 k2 ?_
            unfold fiT; rw [if_pos ⟨g1, g2, g3⟩]; exact k3
end
section
/-! prices and what is learnt: KeyPlan$Costs, KeyPlan$Learning -/
def pr_J9_max_7cf53 : SPre := fun As _ => ∃ x y : Int32, As = [.int x, .int y]
def po_J9_max_7cf53 : SPost := fun As σ r τ => match As with
  | [.int a, .int b] => τ = σ ∧ r = (if a < b then b else a)
  | _ => True
def pr_J9_min_7cf53 : SPre := fun As _ => ∃ x y : Int32, As = [.int x, .int y]
def po_J9_min_7cf53 : SPost := fun As σ r τ => match As with
  | [.int a, .int b] => τ = σ ∧ r = (if b < a then b else a)
  | _ => True
theorem kp_okX_max {lay : List Ds} {own : String} {idx ci lev : Nat} (h : 1 ≤ lev) (hl : kp_lnk own idx 1 ci 2 yJ9_max_7cf53 cJ9_max_7cf53 2 (some .int)) : kp_okM lay own lev (idx, 1, ci, 2, true, pr_J9_max_7cf53, po_J9_max_7cf53) := by
  obtain ⟨-, hc, hi, hl⟩ := hl
  refine Or.inr ⟨h, rfl, rfl, rfl, hi, Or.inl ?_⟩
  rcases hl with ⟨q, -⟩ | ⟨-, h1, h2⟩ | ⟨q, -⟩
  · cases q
  · refine ⟨h1, h2, hc, ?_⟩
    rintro As σ ⟨x, y, rfl⟩
    exact ⟨x, y, rfl, rfl, rfl⟩
  · cases q
theorem kp_okX_min {lay : List Ds} {own : String} {idx ci lev : Nat} (h : 1 ≤ lev) (hl : kp_lnk own idx 1 ci 2 yJ9_min_7cf53 cJ9_min_7cf53 2 (some .int)) : kp_okM lay own lev (idx, 1, ci, 2, true, pr_J9_min_7cf53, po_J9_min_7cf53) := by
  obtain ⟨-, hc, hi, hl⟩ := hl
  refine Or.inr ⟨h, rfl, rfl, rfl, hi, Or.inr ?_⟩
  rcases hl with ⟨q, -⟩ | ⟨-, h1, h2⟩ | ⟨q, -⟩
  · cases q
  · refine ⟨h1, h2, hc, ?_⟩
    rintro As σ ⟨x, y, rfl⟩
    exact ⟨x, y, rfl, rfl, rfl⟩
  · cases q
def pr_X9_isCommand : SPre := fun As σ => ∃ c : Int32, As = [.int c] ∧ (True)
def po_X9_isCommand : SPost := fun As σ r τ => match As with
  | [.int c] => (τ = σ ∧ r = bI (isCx (nI 40) c))
  | _ => True
def ms_X9_isCommand : List Me := []
theorem mk_X9_isCommand : ∀ q ∈ ms_X9_isCommand, kp_okM layC RX9 0 q := fun _ h => absurd h List.not_mem_nil
set_option maxRecDepth 100000 in
theorem v_X9_isCommand {J : Nat → Lcl → List Value → Sg → Prop} {Q : Int32 → Sg → Prop} (c : Int32) (σ : Sg) (h : (c < (nI 0) → ((nI 0) = nI 0 ∨ (nI 0) = nI 1) ∧ Q (nI 0) σ) ∧ (¬ c < (nI 0) → (¬ c < (nI 40) → ((nI 0) = nI 0 ∨ (nI 0) = nI 1) ∧ Q (nI 0) σ) ∧ (c < (nI 40) → ((nI 1) = nI 0 ∨ (nI 1) = nI 1) ∧ Q (nI 1) σ))) : kp_T layC gl_X9 pl_X9 (ms_X9_isCommand) tb_X9_isCommand (kp_rk (some .boolean)) J Q 30 tb_X9_isCommand (kp_en [.int c] 1) [] σ := h
set_option maxRecDepth 100000 in
set_option maxHeartbeats 4000000 in
theorem c_X9_isCommand : kp_Met layC 0 yX9_isCommand cX9_isCommand 1 (some .boolean) (pr_X9_isCommand) (po_X9_isCommand) := by
  refine kp_met (N := 30) (by decide) tk_X9_isCommand gk_X9 pk_X9 (mk_X9_isCommand) rfl (fun _ _ _ _ _ _ _ => False) ?_ (fun _ _ _ _ _ _ _ _ h => h.elim)
  rintro As σ ⟨c, rfl, hp⟩
  refine ⟨⟨rfl, Nat.le_of_ble_eq_true rfl⟩, v_X9_isCommand c σ ?_⟩
  refine ⟨fun h1 => ⟨Or.inl rfl, rfl, ?_⟩, fun h1 => ⟨fun h2 => ⟨Or.inl rfl, rfl, ?_⟩, fun h2 => ⟨Or.inr rfl, rfl, ?_⟩⟩⟩
  · unfold isCx; rw [decide_eq_true h1]; rfl
  · unfold isCx; rw [decide_eq_false h1, decide_eq_false h2]; rfl
  · unfold isCx; rw [decide_eq_false h1, decide_eq_true h2]; rfl
def cstOK (st us ha we : Nat → Int32) : Prop := (∀ s, 1 ≤ s → s ≤ 240 → nn (st s) ∧ tn (st s) ≤ 100) ∧ ∀ c, c < 40 → (nn (us c) ∧ tn (us c) ≤ 1000) ∧ (nn (ha c) ∧ tn (ha c) ≤ 240) ∧ nn (we c) ∧ tn (we c) ≤ 10000
def brk (ha : Nat → Int32) (c s : Nat) : Bool := decide (tn (ha c) ≠ 0 ∧ tn (ha c) ≠ s)
def prc (st us ha we : Nat → Int32) (c s : Nat) : Nat := tn (us c) * tn (st s) + (if brk ha c s = true then tn (we c) else 0)
def pr_X3_breaksHabit : SPre := fun As σ => ∃ c : Int32, ∃ s : Int32, As = [.ref 18, .int c, .int s] ∧ ((∀ c, c < 40 → nn (σ 21 c)) ∧ ∃ k j : Nat, c = nI k ∧ k < 40 ∧ s = nI j ∧ j < 2 ^ 31)
def po_X3_breaksHabit : SPost := fun As σ r τ => match As with
  | [.ref _, .int c, .int s] => (τ = σ ∧ r = bI (brk (σ 21) (tn c) (tn s)))
  | _ => True
def ms_X3_breaksHabit : List Me := []
theorem mk_X3_breaksHabit : ∀ q ∈ ms_X3_breaksHabit, kp_okM layC RX3 0 q := fun _ h => absurd h List.not_mem_nil
set_option maxRecDepth 100000 in
theorem v_X3_breaksHabit {J : Nat → Lcl → List Value → Sg → Prop} {Q : Int32 → Sg → Prop} (c s : Int32) (σ : Sg) (h : vp_in c 40 ∧ (((σ 21 (c).toNatClampNeg) = (nI 0) → ((nI 0) = nI 0 ∨ (nI 0) = nI 1) ∧ Q (nI 0) σ) ∧ (¬ (σ 21 (c).toNatClampNeg) = (nI 0) → vp_in c 40 ∧ (((σ 21 (c).toNatClampNeg) = s → ((nI 0) = nI 0 ∨ (nI 0) = nI 1) ∧ Q (nI 0) σ) ∧ (¬ (σ 21 (c).toNatClampNeg) = s → ((nI 1) = nI 0 ∨ (nI 1) = nI 1) ∧ Q (nI 1) σ))))) : kp_T layC gl_X3 pl_X3 (ms_X3_breaksHabit) tb_X3_breaksHabit (kp_rk (some .boolean)) J Q 30 tb_X3_breaksHabit (kp_en [.ref 18, .int c, .int s] 3) [] σ := h
set_option maxRecDepth 100000 in
set_option maxHeartbeats 4000000 in
theorem c_X3_breaksHabit : kp_Met layC 0 yX3_breaksHabit cX3_breaksHabit 3 (some .boolean) (pr_X3_breaksHabit) (po_X3_breaksHabit) := by
  refine kp_met (N := 30) (by decide) tk_X3_breaksHabit gk_X3 pk_X3 (mk_X3_breaksHabit) rfl (fun _ _ _ _ _ _ _ => False) ?_ (fun _ _ _ _ _ _ _ _ h => h.elim)
  rintro As σ ⟨c, s, rfl, hp⟩
  refine ⟨⟨rfl, Nat.le_of_ble_eq_true rfl⟩, v_X3_breaksHabit c s σ ?_⟩
  obtain ⟨hc, k, j, rfl, hk, rfl, hj⟩ := hp
  have ek : (nI k).toNatClampNeg = k := nI_clamp (by omega)
  rw [ek]
  have h21 := hc k hk
  have e1 : σ 21 k = nI 0 ↔ tn (σ 21 k) = 0 := by rw [show (σ 21 k = nI 0) = (nI (tn (σ 21 k)) = nI 0) by rw [← h21], nI_eq (tn_lt _) (by omega)]
  have e2 : σ 21 k = nI j ↔ tn (σ 21 k) = j := by rw [show (σ 21 k = nI j) = (nI (tn (σ 21 k)) = nI j) by rw [← h21], nI_eq (tn_lt _) hj]
  rw [e1, e2]
  have tk : tn (nI k) = k := tn_nI (by omega)
  have tj : tn (nI j) = j := tn_nI hj
  refine ⟨(kp_in (by omega)).mpr hk, fun h1 => ⟨Or.inl rfl, rfl, ?_⟩, fun h1 => ⟨(kp_in (by omega)).mpr hk, fun h2 => ⟨Or.inl rfl, rfl, ?_⟩, fun h2 => ⟨Or.inr rfl, rfl, ?_⟩⟩⟩
  · rw [tk, tj, show brk (σ 21) k j = false from decide_eq_false (fun z => z.1 h1)]; rfl
  · rw [tk, tj, show brk (σ 21) k j = false from decide_eq_false (fun z => z.2 h2)]; rfl
  · rw [tk, tj, show brk (σ 21) k j = true from decide_eq_true ⟨h1, h2⟩]; rfl
def pr_X3_price : SPre := fun As σ => ∃ c : Int32, ∃ s : Int32, As = [.ref 18, .int c, .int s] ∧ (cstOK (σ 19) (σ 20) (σ 21) (σ 22) ∧ ∃ k j : Nat, c = nI k ∧ k < 40 ∧ s = nI j ∧ 1 ≤ j ∧ j ≤ 240)
def po_X3_price : SPost := fun As σ r τ => match As with
  | [.ref _, .int c, .int s] => (τ = σ ∧ r = nI (prc (σ 19) (σ 20) (σ 21) (σ 22) (tn c) (tn s)))
  | _ => True
def ms_X3_price : List Me := [(24, 0, 3, 2, true, pr_X3_breaksHabit, po_X3_breaksHabit)]
theorem mk_X3_price : ∀ q ∈ ms_X3_price, kp_okM layC RX3 1 q := List.forall_mem_cons.mpr ⟨Or.inl ⟨0, yX3_breaksHabit, cX3_breaksHabit, 3, (some .boolean), c_X3_breaksHabit, by omega, by decide, rfl, lk_X3_24⟩, fun _ h => absurd h List.not_mem_nil⟩
set_option maxRecDepth 100000 in
theorem v_X3_price {J : Nat → Lcl → List Value → Sg → Prop} {Q : Int32 → Sg → Prop} (c s : Int32) (σ : Sg) (h : pr_X3_breaksHabit [.ref 18, .int c, .int s] σ ∧ ∀ (x2 : Int32) (τ1 : Sg), po_X3_breaksHabit [.ref 18, .int c, .int s] σ x2 τ1 → ((x2 = (nI 0) → vp_in c 40 ∧ (vp_in s 241 ∧ (Q (((τ1 20 (c).toNatClampNeg) * (τ1 19 (s).toNatClampNeg)) + (nI 0)) τ1))) ∧ (¬ x2 = (nI 0) → vp_in c 40 ∧ (vp_in c 40 ∧ (vp_in s 241 ∧ (Q (((τ1 20 (c).toNatClampNeg) * (τ1 19 (s).toNatClampNeg)) + (τ1 22 (c).toNatClampNeg)) τ1)))))) : kp_T layC gl_X3 pl_X3 (ms_X3_price) tb_X3_price (kp_rk (some .int)) J Q 30 tb_X3_price (kp_en [.ref 18, .int c, .int s] 4) [] σ := h
set_option maxRecDepth 100000 in
set_option maxHeartbeats 4000000 in
theorem c_X3_price : kp_Met layC 1 yX3_price cX3_price 4 (some .int) (pr_X3_price) (po_X3_price) := by
  refine kp_met (N := 30) (by decide) tk_X3_price gk_X3 pk_X3 (mk_X3_price) rfl (fun _ _ _ _ _ _ _ => False) ?_ (fun _ _ _ _ _ _ _ _ h => h.elim)
  rintro As σ ⟨c, s, rfl, hp⟩
  refine ⟨⟨rfl, Nat.le_of_ble_eq_true rfl⟩, v_X3_price c s σ ?_⟩
  obtain ⟨hc, k, j, rfl, hk, rfl, hj1, hj⟩ := hp
  have ek : (nI k).toNatClampNeg = k := nI_clamp (by omega)
  have ej : (nI j).toNatClampNeg = j := nI_clamp (by omega)
  rw [ek, ej]
  refine ⟨⟨_, _, rfl, fun c h => (hc.2 c h).2.1.1, k, j, rfl, hk, rfl, by omega⟩, ?_⟩
  rintro x2 τ1 ⟨rfl, rfl⟩
  have tk : tn (nI k) = k := tn_nI (by omega)
  have tj : tn (nI j) = j := tn_nI (by omega)
  obtain ⟨⟨u1, u2⟩, -, w1, w2⟩ := hc.2 k hk
  obtain ⟨s1, s2⟩ := hc.1 j hj1 hj
  rw [bI_0, tk, tj]
  have em : τ1 20 k * τ1 19 j = nI (tn (τ1 20 k) * tn (τ1 19 j)) := by rw [← pk_mul, ← u1, ← s1]
  rw [em]
  refine ⟨fun h => ⟨(kp_in (by omega)).mpr hk, (kp_in (by omega)).mpr (by omega), rfl, ?_⟩, fun h => ⟨(kp_in (by omega)).mpr hk, (kp_in (by omega)).mpr hk, (kp_in (by omega)).mpr (by omega), rfl, ?_⟩⟩
  · unfold prc
    rw [tk, tj, if_neg (by rw [h]; decide), nI_add]
  · unfold prc
    rw [tk, tj, if_pos (by simpa using h), ← nI_add, ← w1]
def rsm (st : Nat → Int32) (r : Nat) : Nat → Nat
  | 0 => 0
  | i + 1 => rsm st r i + tn (st (r / 256 ^ i % 256))
/-- the stretches of a row's strokes -/
def rst (st : Nat → Int32) (r : Nat) : Nat := rsm st r (rlen r)
theorem row_stroke {r i : Nat} (h : rowOK r = true) (hi : i < rlen r) : 1 ≤ r / 256 ^ i % 256 ∧ r / 256 ^ i % 256 ≤ 240 := by
  have hw := rowOK_iff.mp h
  rcases rlen_ok h with ⟨a, b⟩ | ⟨a, b⟩ | ⟨a, b⟩
  · have : i = 0 := by omega
    subst this; rw [Nat.pow_zero, Nat.div_one]; omega
  · rcases (show i = 0 ∨ i = 1 by omega) with rfl | rfl
    · rw [Nat.pow_zero, Nat.div_one]; omega
    · rw [Nat.pow_one]; omega
  · rcases (show i = 0 ∨ i = 1 ∨ i = 2 by omega) with rfl | rfl | rfl
    · rw [Nat.pow_zero, Nat.div_one]; omega
    · rw [Nat.pow_one]; omega
    · rw [show (256 : Nat) ^ 2 = 65536 by decide]; omega
theorem rsm_le {st us ha we : Nat → Int32} (hc : cstOK st us ha we) {r : Nat} (h : rowOK r = true) : ∀ i, i ≤ rlen r → rsm st r i ≤ 100 * i
  | 0, _ => Nat.le_refl _
  | i + 1, hi => by
    have := rsm_le hc h i (by omega)
    obtain ⟨a, b⟩ := row_stroke h (show i < rlen r by omega)
    have := (hc.1 _ a b).2
    rw [rsm]; omega
def pr_X3_rowStretch : SPre := fun As σ => ∃ row : Int32, As = [.ref 18, .int row] ∧ (cstOK (σ 19) (σ 20) (σ 21) (σ 22) ∧ ∃ k : Nat, row = nI k ∧ rowOK k = true)
def po_X3_rowStretch : SPost := fun As σ r τ => match As with
  | [.ref _, .int row] => (τ = σ ∧ r = nI (rst (σ 19) (tn row)))
  | _ => True
def ms_X3_rowStretch : List Me := [(28, 1, 0, 1, true, pr_X7_length, po_X7_length), (34, 1, 0, 2, true, pr_X7_strokeAt, po_X7_strokeAt), (38, 1, 0, 1, true, pr_X7_isStroke, po_X7_isStroke)]
theorem mk_X3_rowStretch : ∀ q ∈ ms_X3_rowStretch, kp_okM layC RX3 2 q := List.forall_mem_cons.mpr ⟨Or.inl ⟨1, yX7_length, cX7_length, 2, (some .int), c_X7_length, by omega, by decide, rfl, lk_X3_28⟩, List.forall_mem_cons.mpr ⟨Or.inl ⟨0, yX7_strokeAt, cX7_strokeAt, 2, (some .int), c_X7_strokeAt, by omega, by decide, rfl, lk_X3_34⟩, List.forall_mem_cons.mpr ⟨Or.inl ⟨0, yX7_isStroke, cX7_isStroke, 1, (some .boolean), c_X7_isStroke, by omega, by decide, rfl, lk_X3_38⟩, fun _ h => absurd h List.not_mem_nil⟩⟩⟩
set_option maxRecDepth 100000 in
theorem v_X3_rowStretch {J : Nat → Lcl → List Value → Sg → Prop} {Q : Int32 → Sg → Prop} (row : Int32) (σ : Sg) (h : J 4 [some (.ref 18), some (.int row), some (.int (nI 0)), some (.int (nI 0)), none] [] σ) : kp_T layC gl_X3 pl_X3 (ms_X3_rowStretch) tb_X3_rowStretch (kp_rk (some .int)) J Q 33 tb_X3_rowStretch (kp_en [.ref 18, .int row] 5) [] σ := h
set_option maxRecDepth 100000 in
theorem v_X3_rowStretch_4 {J : Nat → Lcl → List Value → Sg → Prop} {Q : Int32 → Sg → Prop} (row sum i : Int32) (o4 : Option Value) (σ : Sg) (h : pr_X7_length [.int row] σ ∧ ∀ (x2 : Int32) (τ1 : Sg), po_X7_length [.int row] σ x2 τ1 → ((¬ i < x2 → Q sum τ1) ∧ (i < x2 → pr_X7_strokeAt [.int row, .int i] τ1 ∧ ∀ (x4 : Int32) (τ3 : Sg), po_X7_strokeAt [.int row, .int i] τ1 x4 τ3 → (pr_X7_isStroke [.int x4] τ3 ∧ ∀ (x6 : Int32) (τ5 : Sg), po_X7_isStroke [.int x4] τ3 x6 τ5 → ((x6 = (nI 0) → J 4 [some (.ref 18), some (.int row), some (.int (sum + (nI 0))), some (.int (i + nI 1)), some (.int x4)] [] τ5) ∧ (¬ x6 = (nI 0) → vp_in x4 241 ∧ (J 4 [some (.ref 18), some (.int row), some (.int (sum + (τ5 19 (x4).toNatClampNeg))), some (.int (i + nI 1)), some (.int x4)] [] τ5))))))) : kp_T1 layC gl_X3 pl_X3 (ms_X3_rowStretch) tb_X3_rowStretch (kp_rk (some .int)) J Q 33 4 [some (.ref 18), some (.int row), some (.int sum), some (.int i), o4] [] σ := h
abbrev iv_X3_rowStretch : List Value → Sg → Nat → Nat → Lcl → List Value → Sg → Prop := fun As σ n pc ls st τ => pc = 4 ∧ st = [] ∧ τ = σ ∧ ∃ (k i : Nat) (o4 : Option Value), As = [.ref 18, .int (nI k)] ∧ rowOK k = true ∧ ls = [some (.ref 18), some (.int (nI k)), some (.int (nI (rsm (σ 19) k i))), some (.int (nI i)), o4] ∧ i ≤ rlen k ∧ n = rlen k - i
set_option maxRecDepth 100000 in
set_option maxHeartbeats 4000000 in
theorem c_X3_rowStretch : kp_Met layC 2 yX3_rowStretch cX3_rowStretch 5 (some .int) (pr_X3_rowStretch) (po_X3_rowStretch) := by
  refine kp_met (N := 33) (by decide) tk_X3_rowStretch gk_X3 pk_X3 (mk_X3_rowStretch) rfl (iv_X3_rowStretch) ?_ ?_
  · rintro As σ ⟨row, rfl, hp⟩
    refine ⟨⟨rfl, Nat.le_of_ble_eq_true rfl⟩, v_X3_rowStretch row σ ?_⟩
    obtain ⟨hc, k, rfl, hk⟩ := hp
    exact ⟨rlen k, rfl, rfl, rfl, k, 0, none, rfl, hk, rfl, by omega, by omega⟩
  · rintro As σ ⟨row, rfl, hp⟩ n pc ls st τ hI
    obtain ⟨hc, -⟩ := hp
    obtain ⟨rfl, rfl, rfl, k, i, o4, hAs, hk, rfl, hi, rfl⟩ := hI
    cases hAs
    have hl := rlen_le k
    have hlt := rowOK_lt hk
    have tk : tn (nI k) = k := tn_nI (by omega)
    refine v_X3_rowStretch_4 _ _ _ o4 τ ⟨⟨_, rfl, k, rfl, hlt⟩, ?_⟩
    rintro x2 τ1 ⟨rfl, rfl⟩
    rw [tk, nI_ltI (by omega) (by omega)]
    refine ⟨fun g1 => ⟨rfl, ?_⟩, fun g1 => ⟨⟨_, _, rfl, k, i, rfl, hlt, rfl, by omega⟩, ?_⟩⟩
    · unfold rst
      rw [tk, show rlen k = i by omega]
    · rintro x4 τ3 ⟨rfl, rfl⟩
      rw [tk, tn_nI (show i < 2 ^ 31 by omega)]
      obtain ⟨a, b⟩ := row_stroke hk g1
      refine ⟨⟨_, rfl, trivial⟩, ?_⟩
      rintro x6 τ5 ⟨rfl, rfl⟩
      rw [isSt_nI (by omega), bI_0, nI_clamp (show k / 256 ^ i % 256 < 2 ^ 31 by omega)]
      refine ⟨fun g2 => absurd ⟨a, b⟩ (of_decide_eq_false g2), fun g2 => ⟨(kp_in (by omega)).mpr (by omega), rlen k - (i + 1), by omega, rfl, rfl, rfl, k, i + 1, some (.int (nI (k / 256 ^ i % 256))), rfl, hk, ?_, by omega, rfl⟩⟩
      rw [rsm, ← nI_add, ← (hc.1 _ a b).1, nI_add]
def svk (st us : Nat → Int32) (c k : Nat) : Nat := tn (us c) * (30 - rst st (k % 16777216))
/-- what a command saves -/
def isSv (st us M : Nat → Int32) (c v : Nat) : Prop := (∀ k, M k = nI c → svk st us c k ≤ v) ∧ (v = 0 ∨ ∃ k, M k = nI c ∧ v = svk st us c k)
theorem isSv_uniq {st us M : Nat → Int32} {c v w : Nat} (h : isSv st us M c v) (h2 : isSv st us M c w) : v = w := by
  have a : v ≤ w := by
    rcases h.2 with e | ⟨k, hk, e⟩
    · omega
    · rw [e]; exact h2.1 k hk
  have b : w ≤ v := by
    rcases h2.2 with e | ⟨k, hk, e⟩
    · omega
    · rw [e]; exact h.1 k hk
  omega
theorem mul_toInt {a b : Nat} (ha : a ≤ 1000) (hb : b ≤ 300) : (nI a * (nI 30 - nI b)).toInt = (a : Int) * (30 - (b : Int)) := by
  have h1 : (nI 30 - nI b).toInt = (30 : Int) - b := pk_sub_toInt (a := 30) (b := b) (by omega) (by omega)
  rw [Int32.toInt_mul, h1, nI_toInt (by omega)]
  have h2 : (a : Int) * (30 - (b : Int)) ≤ 30000 := by
    by_cases hz : (30 - (b : Int)) ≤ 0
    · have := Int.mul_nonpos_of_nonneg_of_nonpos (show (0 : Int) ≤ a by omega) hz; omega
    · have : (a : Int) * (30 - (b : Int)) ≤ 1000 * 30 := Int.mul_le_mul (by omega) (by omega) (by omega) (by omega)
      omega
  have h3 : -270000 ≤ (a : Int) * (30 - (b : Int)) := by
    have : (a : Int) * ((b : Int) - 30) ≤ 1000 * 270 := by
      by_cases hz : ((b : Int) - 30) ≤ 0
      · have := Int.mul_nonpos_of_nonneg_of_nonpos (show (0 : Int) ≤ a by omega) hz; omega
      · exact Int.mul_le_mul (by omega) (by omega) (by omega) (by omega)
    have e : (a : Int) * (30 - (b : Int)) = - ((a : Int) * ((b : Int) - 30)) := by rw [← Int.mul_neg]; congr 1; omega
    omega
  exact Int.bmod_eq_of_le (by omega) (by omega)
theorem max_sv {a b v : Nat} (ha : a ≤ 1000) (hb : b ≤ 300) (hv : v < 2 ^ 30) : (if nI v < nI a * (nI 30 - nI b) then nI a * (nI 30 - nI b) else nI v) = nI (max v (a * (30 - b))) := by
  have h := mul_toInt ha hb
  by_cases h30 : b ≤ 30
  · have e : nI a * (nI 30 - nI b) = nI (a * (30 - b)) := by rw [pk_sub h30, pk_mul]
    have hm : a * (30 - b) ≤ 1000 * 30 := Nat.mul_le_mul ha (by omega)
    rw [e]
    have hi := nI_ltI (a := v) (b := a * (30 - b)) (by omega) (by omega)
    by_cases hlt : v < a * (30 - b)
    · rw [if_pos (hi.mpr hlt), Nat.max_eq_right (by omega)]
    · rw [if_neg (fun z => hlt (hi.mp z)), Nat.max_eq_left (by omega)]
  · have e : 30 - b = 0 := by omega
    rw [e, Nat.mul_zero, Nat.max_eq_left (by omega), if_neg]
    rw [lt_I, h, nI_toInt (by omega)]
    have := Int.mul_nonpos_of_nonneg_of_nonpos (show (0 : Int) ≤ a by omega) (show (30 - (b : Int)) ≤ 0 by omega)
    omega
end
section
/-! what is to be learnt: KeyPlan$Learning -/
theorem rst_le {st us ha we : Nat → Int32} (hc : cstOK st us ha we) {r : Nat} (h : rowOK r = true) : rst st r ≤ 300 := by
  have := rsm_le hc h (rlen r) (Nat.le_refl _)
  have := rlen_le r
  unfold rst; omega
theorem svk_le {st us : Nat → Int32} {c k : Nat} (h : tn (us c) ≤ 1000) : svk st us c k ≤ 30000 := by
  unfold svk
  have : tn (us c) * (30 - rst st (k % 16777216)) ≤ 1000 * 30 := Nat.mul_le_mul h (by omega)
  omega
def pr_X6_weigh : SPre := fun As σ => As = [.ref 38, .ref 4, .ref 18] ∧ (bOK (σ 5) (σ 6) (σ 4 2) ∧ cstOK (σ 19) (σ 20) (σ 21) (σ 22))
def po_X6_weigh : SPost := fun As σ r τ => match As with
  | [.ref _, .ref _, .ref _] => (fr [39] σ τ ∧ ∀ c, c < 40 → ∃ v : Nat, τ 39 c = nI v ∧ v ≤ 30000 ∧ isSv (σ 19) (σ 20) (mC σ) c v)
  | _ => True
def ms_X6_weigh : List Me := [(24, 2, 8, 1, true, pr_X9_isCommand, po_X9_isCommand), (31, 1, 1, 1, true, pr_X1_rowOf, po_X1_rowOf), (35, 0, 3, 1, true, pr_X3_rowStretch, po_X3_rowStretch), (43, 1, 0, 2, true, pr_J9_max_7cf53, po_J9_max_7cf53)]
theorem mk_X6_weigh : ∀ q ∈ ms_X6_weigh, kp_okM layC RX6 3 q := List.forall_mem_cons.mpr ⟨Or.inl ⟨0, yX9_isCommand, cX9_isCommand, 1, (some .boolean), c_X9_isCommand, by omega, by decide, rfl, lk_X6_24⟩, List.forall_mem_cons.mpr ⟨Or.inl ⟨0, yX1_rowOf, cX1_rowOf, 1, (some .int), c_X1_rowOf, by omega, by decide, rfl, lk_X6_31⟩, List.forall_mem_cons.mpr ⟨Or.inl ⟨2, yX3_rowStretch, cX3_rowStretch, 5, (some .int), c_X3_rowStretch, by omega, by decide, rfl, lk_X6_35⟩, List.forall_mem_cons.mpr ⟨kp_okX_max (by omega) lk_X6_43, fun _ h => absurd h List.not_mem_nil⟩⟩⟩⟩
set_option maxRecDepth 100000 in
theorem v_X6_weigh {J : Nat → Lcl → List Value → Sg → Prop} {Q : Int32 → Sg → Prop}  (σ : Sg) (h : J 2 [some (.ref 38), some (.ref 4), some (.ref 18), some (.int (nI 0)), none, none] [] σ) : kp_T layC gl_X6 pl_X6 (ms_X6_weigh) tb_X6_weigh (kp_rk none) J Q 59 tb_X6_weigh (kp_en [.ref 38, .ref 4, .ref 18] 6) [] σ := h
set_option maxRecDepth 100000 in
theorem v_X6_weigh_2 {J : Nat → Lcl → List Value → Sg → Prop} {Q : Int32 → Sg → Prop} (c : Int32) (o4 o5 : Option Value) (σ : Sg) (h : (¬ c < (nI 40) → J 23 [some (.ref 38), some (.ref 4), some (.ref 18), some (.int (nI 0)), o4, o5] [] σ) ∧ (c < (nI 40) → vp_in c 40 ∧ (J 2 [some (.ref 38), some (.ref 4), some (.ref 18), some (.int (c + nI 1)), o4, o5] [] (kp_up σ 39 (c).toNatClampNeg (nI 0))))) : kp_T1 layC gl_X6 pl_X6 (ms_X6_weigh) tb_X6_weigh (kp_rk none) J Q 59 2 [some (.ref 38), some (.ref 4), some (.ref 18), some (.int c), o4, o5] [] σ := h
set_option maxRecDepth 100000 in
theorem v_X6_weigh_23 {J : Nat → Lcl → List Value → Sg → Prop} {Q : Int32 → Sg → Prop} (i : Int32) (o4 o5 : Option Value) (σ : Sg) (h : (¬ i < (σ 4 2) → Q (nI 0) σ) ∧ (i < (σ 4 2) → vp_in i 120 ∧ (pr_X9_isCommand [.int (σ 6 (i).toNatClampNeg)] σ ∧ ∀ (x2 : Int32) (τ1 : Sg), po_X9_isCommand [.int (σ 6 (i).toNatClampNeg)] σ x2 τ1 → ((x2 = (nI 0) → J 23 [some (.ref 38), some (.ref 4), some (.ref 18), some (.int (i + nI 1)), some (.int (σ 6 (i).toNatClampNeg)), o5] [] τ1) ∧ (¬ x2 = (nI 0) → vp_in i 120 ∧ (pr_X1_rowOf [.int (τ1 5 (i).toNatClampNeg)] τ1 ∧ ∀ (x4 : Int32) (τ3 : Sg), po_X1_rowOf [.int (τ1 5 (i).toNatClampNeg)] τ1 x4 τ3 → (pr_X3_rowStretch [.ref 18, .int x4] τ3 ∧ ∀ (x6 : Int32) (τ5 : Sg), po_X3_rowStretch [.ref 18, .int x4] τ3 x6 τ5 → (vp_in (σ 6 (i).toNatClampNeg) 40 ∧ (vp_in (σ 6 (i).toNatClampNeg) 40 ∧ (pr_J9_max_7cf53 [.int (τ5 39 (σ 6 (i).toNatClampNeg).toNatClampNeg), .int ((τ5 20 (σ 6 (i).toNatClampNeg).toNatClampNeg) * ((nI 30) - x6))] τ5 ∧ ∀ (x8 : Int32) (τ7 : Sg), po_J9_max_7cf53 [.int (τ5 39 (σ 6 (i).toNatClampNeg).toNatClampNeg), .int ((τ5 20 (σ 6 (i).toNatClampNeg).toNatClampNeg) * ((nI 30) - x6))] τ5 x8 τ7 → (vp_in (σ 6 (i).toNatClampNeg) 40 ∧ (J 23 [some (.ref 38), some (.ref 4), some (.ref 18), some (.int (i + nI 1)), some (.int (σ 6 (i).toNatClampNeg)), some (.int ((nI 30) - x6))] [] (kp_up τ7 39 (σ 6 (i).toNatClampNeg).toNatClampNeg x8))))))))))))) : kp_T1 layC gl_X6 pl_X6 (ms_X6_weigh) tb_X6_weigh (kp_rk none) J Q 59 23 [some (.ref 38), some (.ref 4), some (.ref 18), some (.int i), o4, o5] [] σ := h
abbrev iv_X6_weigh : List Value → Sg → Nat → Nat → Lcl → List Value → Sg → Prop := fun As σ n pc ls st τ => st = [] ∧ As = [.ref 38, .ref 4, .ref 18] ∧ fr [39] σ τ ∧ ((pc = 2 ∧ ∃ (c : Nat) (o4 o5 : Option Value), c ≤ 40 ∧ n = 1000 + (40 - c) ∧ ls = [some (.ref 38), some (.ref 4), some (.ref 18), some (.int (nI c)), o4, o5] ∧ ∀ j, j < c → τ 39 j = nI 0) ∨ (pc = 23 ∧ ∃ (i z : Nat) (o4 o5 : Option Value), σ 4 2 = nI z ∧ z ≤ 120 ∧ i ≤ z ∧ n = z - i ∧ ls = [some (.ref 38), some (.ref 4), some (.ref 18), some (.int (nI i)), o4, o5] ∧ ∀ c, c < 40 → ∃ v : Nat, τ 39 c = nI v ∧ v ≤ 30000 ∧ (∀ j, j < i → σ 6 j = nI c → svk (σ 19) (σ 20) c (tn (σ 5 j)) ≤ v) ∧ (v = 0 ∨ ∃ j, j < i ∧ σ 6 j = nI c ∧ v = svk (σ 19) (σ 20) c (tn (σ 5 j)))))
set_option maxRecDepth 100000 in
set_option maxHeartbeats 4000000 in
theorem c_X6_weigh : kp_Met layC 3 yX6_weigh cX6_weigh 6 none (pr_X6_weigh) (po_X6_weigh) := by
  refine kp_met (N := 59) (by decide) tk_X6_weigh gk_X6 pk_X6 (mk_X6_weigh) rfl (iv_X6_weigh) ?_ ?_
  · rintro As σ ⟨rfl, hp⟩
    refine ⟨⟨rfl, Nat.le_of_ble_eq_true rfl⟩, v_X6_weigh σ ?_⟩
    exact ⟨1040, rfl, rfl, fr_rf, Or.inl ⟨rfl, 0, none, none, by omega, rfl, rfl, fun j hj => by omega⟩⟩
  · rintro As σ ⟨rfl, hp⟩ n pc ls st τ hI
    obtain ⟨hbo, hco⟩ := hp
    obtain ⟨z0, hz0, hz1, hcell, hsrt⟩ := id hbo
    obtain ⟨rfl, hAs, hfr, hI⟩ := hI
    clear hAs
    rcases hI with ⟨rfl, c, o4, o5, hc, rfl, rfl, h0⟩ | ⟨rfl, i, z, o4, o5, hz, hz2, hi, rfl, rfl, hv⟩
    · refine v_X6_weigh_2 _ o4 o5 τ ?_
      rw [nI_ltI (by omega) (by omega), nI_clamp (show c < 2 ^ 31 by omega), nI_add]
      refine ⟨fun g => ⟨z0, by omega, rfl, rfl, hfr, Or.inr ⟨rfl, 0, z0, o4, o5, hz0, hz1, by omega, rfl, rfl, fun d hd => ⟨0, h0 d (by omega), by omega, fun j hj => by omega, Or.inl rfl⟩⟩⟩, fun g => ⟨(kp_in (by omega)).mpr g, 1000 + (40 - (c + 1)), by omega, rfl, rfl, fr_up hfr (by decide), Or.inl ⟨rfl, c + 1, o4, o5, by omega, rfl, rfl, fun j hj => ?_⟩⟩⟩
      by_cases e : j = c
      · subst e; rw [up_s]
      · rw [up_n e]; exact h0 j (by omega)
    · have : z0 = z := (nI_eq (by omega) (by omega)).mp (hz0.symm.trans hz)
      subst this
      have q4 : τ 4 = σ 4 := hfr 4 (by decide)
      have q5 : τ 5 = σ 5 := hfr 5 (by decide)
      have q6 : τ 6 = σ 6 := hfr 6 (by decide)
      have q19 : τ 19 = σ 19 := hfr 19 (by decide)
      have q20 : τ 20 = σ 20 := hfr 20 (by decide)
      have q21 : τ 21 = σ 21 := hfr 21 (by decide)
      have q22 : τ 22 = σ 22 := hfr 22 (by decide)
      refine v_X6_weigh_23 _ o4 o5 τ ?_
      rw [q4, q6, hz, nI_ltI (by omega) (by omega), nI_clamp (show i < 2 ^ 31 by omega)]
      rw [show nI i + nI 1 = nI (i + 1) from nI_add _ _]
      refine ⟨fun g => ⟨hfr, fun c hc => ?_⟩, fun g => ⟨(kp_in (by omega)).mpr (by omega), ⟨_, rfl, trivial⟩, ?_⟩⟩
      · obtain ⟨v, h1, h2, h3, h4⟩ := hv c hc
        have hbz := hbo
        rw [hz] at hbz
        refine ⟨v, h1, h2, fun k hk => ?_, ?_⟩
        · have hk' : mpC (σ 5) (σ 6) (nI z0) k = nI c := by rw [← hz]; exact hk
          obtain ⟨j, hj, rfl⟩ := mpC_some hz1 (by rw [hk']; exact nI_m1 (by omega))
          exact h3 j (by omega) (by rw [← hk']; exact (mpC_at hbz hz1 hj).symm)
        · rcases h4 with h4 | ⟨j, hj, e1, e2⟩
          · exact Or.inl h4
          · refine Or.inr ⟨tn (σ 5 j), ?_, e2⟩
            show mpC (σ 5) (σ 6) (σ 4 2) (tn (σ 5 j)) = nI c
            rw [hz, mpC_at hbz hz1 (by omega), e1]
      · rintro x2 τ1 ⟨rfl, rfl⟩
        obtain ⟨hkey, hkok, w, hw, ew⟩ := hcell i g
        rw [bI_0, q5, ew]
        have hnext : ∀ (τ' : Sg) (o4 o5 : Option Value), fr [39] σ τ' → (∀ c, c < 40 → ∃ v : Nat, τ' 39 c = nI v ∧ v ≤ 30000 ∧ (∀ j, j < i + 1 → σ 6 j = nI c → svk (σ 19) (σ 20) c (tn (σ 5 j)) ≤ v) ∧ (v = 0 ∨ ∃ j, j < i + 1 ∧ σ 6 j = nI c ∧ v = svk (σ 19) (σ 20) c (tn (σ 5 j)))) → ∃ n', n' < z0 - i ∧ iv_X6_weigh [.ref 38, .ref 4, .ref 18] σ n' 23 [some (.ref 38), some (.ref 4), some (.ref 18), some (.int (nI (i + 1))), o4, o5] [] τ' := fun τ' o4 o5 hf' h' =>
          ⟨z0 - (i + 1), by omega, rfl, rfl, hf', Or.inr ⟨rfl, i + 1, z0, o4, o5, hz, hz1, by omega, rfl, rfl, h'⟩⟩
        refine ⟨fun g2 => hnext τ1 _ _ hfr (fun c hc => ?_), fun g2 => ?_⟩
        · obtain ⟨v, h1, h2, h3, h4⟩ := hv c hc
          refine ⟨v, h1, h2, fun j hj ej => ?_, ?_⟩
          · by_cases e : j = i
            · subst e
              have : w = c := (nI_eq (by omega) (by omega)).mp (ew.symm.trans ej)
              subst this
              have h40 : isCx (nI 40) (nI w) = true := (isCx_iff (by omega)).mpr ⟨w, hc, rfl⟩
              rw [g2] at h40; cases h40
            · exact h3 j (by omega) ej
          · rcases h4 with h4 | ⟨j, hj, e1, e2⟩
            · exact Or.inl h4
            · exact Or.inr ⟨j, by omega, e1, e2⟩
        · have g2 : isCx (nI 40) (nI w) = true := by simpa using g2
          have hw40 : w < 40 := by
            obtain ⟨d, hd, e⟩ := (isCx_iff (by omega)).mp g2
            have := (nI_eq (by omega) (by omega)).mp e
            omega
          refine ⟨(kp_in (by omega)).mpr (by omega), ⟨_, rfl, tn (σ 5 i), hkey, tn_lt _⟩, ?_⟩
          rintro x4 τ3 ⟨rfl, rfl⟩
          refine ⟨⟨_, rfl, by rw [q19, q20, q21, q22]; exact hco, _, rfl, hkok.2⟩, ?_⟩
          rintro x6 τ5 ⟨rfl, rfl⟩
          have hlt : tn (σ 5 i) % 16777216 < 2 ^ 31 := by have := Nat.mod_lt (tn (σ 5 i)) (show 0 < 16777216 by decide); omega
          rw [tn_nI hlt, q19, q20, nI_clamp (show w < 2 ^ 31 by omega)]
          refine ⟨(kp_in (by omega)).mpr hw40, (kp_in (by omega)).mpr hw40, ⟨_, _, rfl⟩, ?_⟩
          rintro x8 τ7 ⟨rfl, rfl⟩
          obtain ⟨⟨u1, u2⟩, -⟩ := hco.2 w hw40
          obtain ⟨v, h1, h2, h3, h4⟩ := hv w hw40
          have hr := rst_le hco hkok.2
          have emax : (if τ7 39 w < σ 20 w * (nI 30 - nI (rst (σ 19) (tn (σ 5 i) % 16777216))) then σ 20 w * (nI 30 - nI (rst (σ 19) (tn (σ 5 i) % 16777216))) else τ7 39 w) = nI (max v (svk (σ 19) (σ 20) w (tn (σ 5 i)))) := by
            rw [h1, u1]
            exact max_sv u2 hr (by omega)
          rw [emax]
          have hsv := svk_le (st := σ 19) (k := tn (σ 5 i)) u2
          refine ⟨(kp_in (by omega)).mpr hw40, hnext _ _ _ (fr_up hfr (by decide)) (fun c hc => ?_)⟩
          by_cases e : c = w
          · subst e
            refine ⟨_, up_s, by omega, fun j hj ej => ?_, ?_⟩
            · by_cases e2 : j = i
              · subst e2; omega
              · have := h3 j (by omega) ej; omega
            · by_cases hm : v ≤ svk (σ 19) (σ 20) c (tn (σ 5 i))
              · exact Or.inr ⟨i, by omega, ew, by omega⟩
              · rcases h4 with h4 | ⟨j, hj, e1, e2⟩
                · omega
                · exact Or.inr ⟨j, by omega, e1, by omega⟩
          · obtain ⟨v', k1, k2, k3, k4⟩ := hv c hc
            refine ⟨v', by rw [up_n e]; exact k1, k2, fun j hj ej => ?_, ?_⟩
            · by_cases e2 : j = i
              · subst e2
                exact absurd ((nI_eq (by omega) (by omega)).mp (ej.symm.trans ew)) e
              · exact k3 j (by omega) ej
            · rcases k4 with k4 | ⟨j, hj, e1, e2⟩
              · exact Or.inl k4
              · exact Or.inr ⟨j, by omega, e1, e2⟩
def ahd (S : Nat → Nat) (c : Nat) : Nat → Nat
  | 0 => 0
  | d + 1 => ahd S c d + (if S c < S d ∨ (S d = S c ∧ d < c) then 1 else 0)
theorem ahd_le {S : Nat → Nat} {c : Nat} : ∀ d, ahd S c d ≤ d
  | 0 => Nat.le_refl _
  | d + 1 => by
    have := ahd_le (S := S) (c := c) d
    rw [ahd]; split <;> omega
theorem ahd_congr {S S' : Nat → Nat} {c : Nat} (hc : S c = S' c) : ∀ d, (∀ j, j < d → S j = S' j) → ahd S c d = ahd S' c d
  | 0, _ => rfl
  | d + 1, h => by rw [ahd, ahd, ahd_congr hc d (fun j hj => h j (by omega)), h d (by omega), hc]
/-- the command at a place of the list of those to be learnt -/
def rkd (S : Nat → Nat) (rank : Int32) : Nat → Nat → Int32
  | 0, _ => -1
  | f + 1, c => if 0 < S c ∧ nI (ahd S c 40) = rank then nI c else rkd S rank f (c + 1)
theorem rkd_s (S : Nat → Nat) (rank : Int32) (f c : Nat) : rkd S rank (f + 1) c = if 0 < S c ∧ nI (ahd S c 40) = rank then nI c else rkd S rank f (c + 1) := rfl
theorem rkd_congr {S S' : Nat → Nat} {rank : Int32} (h : ∀ j, j < 40 → S j = S' j) : ∀ (f c : Nat), c + f ≤ 40 → rkd S rank f c = rkd S' rank f c
  | 0, _, _ => rfl
  | f + 1, c, hc => by rw [rkd, rkd, rkd_congr h f (c + 1) (by omega), h c (by omega), ahd_congr (h c (by omega)) 40 h]
abbrev svS (σ : Sg) : Nat → Nat := fun c => tn (σ 39 c)
def pr_X6_countAhead : SPre := fun As σ => ∃ c : Int32, As = [.ref 38, .int c] ∧ ((∀ d, d < 40 → nn (σ 39 d)) ∧ ∃ k : Nat, c = nI k ∧ k < 40)
def po_X6_countAhead : SPost := fun As σ r τ => match As with
  | [.ref _, .int c] => (τ = σ ∧ r = nI (ahd (svS σ) (tn c) 40))
  | _ => True
def ms_X6_countAhead : List Me := []
theorem mk_X6_countAhead : ∀ q ∈ ms_X6_countAhead, kp_okM layC RX6 0 q := fun _ h => absurd h List.not_mem_nil
set_option maxRecDepth 100000 in
theorem v_X6_countAhead {J : Nat → Lcl → List Value → Sg → Prop} {Q : Int32 → Sg → Prop} (c : Int32) (σ : Sg) (h : J 4 [some (.ref 38), some (.int c), some (.int (nI 0)), some (.int (nI 0)), none] [] σ) : kp_T layC gl_X6 pl_X6 (ms_X6_countAhead) tb_X6_countAhead (kp_rk (some .int)) J Q 49 tb_X6_countAhead (kp_en [.ref 38, .int c] 5) [] σ := h
set_option maxRecDepth 100000 in
theorem v_X6_countAhead_4 {J : Nat → Lcl → List Value → Sg → Prop} {Q : Int32 → Sg → Prop} (c ah o : Int32) (o4 : Option Value) (σ : Sg) (h : (¬ o < (nI 40) → Q ah σ) ∧ (o < (nI 40) → vp_in o 40 ∧ (vp_in c 40 ∧ ((¬ (σ 39 (o).toNatClampNeg) = (σ 39 (c).toNatClampNeg) → vp_in o 40 ∧ (vp_in c 40 ∧ (((σ 39 (c).toNatClampNeg) < (σ 39 (o).toNatClampNeg) → J 4 [some (.ref 38), some (.int c), some (.int (ah + (nI 1))), some (.int (o + nI 1)), some (.int (nI 0))] [] σ) ∧ (¬ (σ 39 (c).toNatClampNeg) < (σ 39 (o).toNatClampNeg) → ((nI 0) = (nI 0) → J 4 [some (.ref 38), some (.int c), some (.int (ah + (nI 0))), some (.int (o + nI 1)), some (.int (nI 0))] [] σ) ∧ (¬ (nI 0) = (nI 0) → J 4 [some (.ref 38), some (.int c), some (.int (ah + (nI 1))), some (.int (o + nI 1)), some (.int (nI 0))] [] σ))))) ∧ ((σ 39 (o).toNatClampNeg) = (σ 39 (c).toNatClampNeg) → (¬ o < c → vp_in o 40 ∧ (vp_in c 40 ∧ (((σ 39 (c).toNatClampNeg) < (σ 39 (o).toNatClampNeg) → J 4 [some (.ref 38), some (.int c), some (.int (ah + (nI 1))), some (.int (o + nI 1)), some (.int (nI 0))] [] σ) ∧ (¬ (σ 39 (c).toNatClampNeg) < (σ 39 (o).toNatClampNeg) → ((nI 0) = (nI 0) → J 4 [some (.ref 38), some (.int c), some (.int (ah + (nI 0))), some (.int (o + nI 1)), some (.int (nI 0))] [] σ) ∧ (¬ (nI 0) = (nI 0) → J 4 [some (.ref 38), some (.int c), some (.int (ah + (nI 1))), some (.int (o + nI 1)), some (.int (nI 0))] [] σ))))) ∧ (o < c → vp_in o 40 ∧ (vp_in c 40 ∧ (((σ 39 (c).toNatClampNeg) < (σ 39 (o).toNatClampNeg) → J 4 [some (.ref 38), some (.int c), some (.int (ah + (nI 1))), some (.int (o + nI 1)), some (.int (nI 1))] [] σ) ∧ (¬ (σ 39 (c).toNatClampNeg) < (σ 39 (o).toNatClampNeg) → ((nI 1) = (nI 0) → J 4 [some (.ref 38), some (.int c), some (.int (ah + (nI 0))), some (.int (o + nI 1)), some (.int (nI 1))] [] σ) ∧ (¬ (nI 1) = (nI 0) → J 4 [some (.ref 38), some (.int c), some (.int (ah + (nI 1))), some (.int (o + nI 1)), some (.int (nI 1))] [] σ)))))))))) : kp_T1 layC gl_X6 pl_X6 (ms_X6_countAhead) tb_X6_countAhead (kp_rk (some .int)) J Q 49 4 [some (.ref 38), some (.int c), some (.int ah), some (.int o), o4] [] σ := h
abbrev iv_X6_countAhead : List Value → Sg → Nat → Nat → Lcl → List Value → Sg → Prop := fun As σ n pc ls st τ => pc = 4 ∧ st = [] ∧ τ = σ ∧ ∃ (k d : Nat) (o4 : Option Value), As = [.ref 38, .int (nI k)] ∧ k < 40 ∧ d ≤ 40 ∧ n = 40 - d ∧ ls = [some (.ref 38), some (.int (nI k)), some (.int (nI (ahd (svS σ) k d))), some (.int (nI d)), o4]
set_option maxRecDepth 100000 in
set_option maxHeartbeats 4000000 in
theorem c_X6_countAhead : kp_Met layC 0 yX6_countAhead cX6_countAhead 5 (some .int) (pr_X6_countAhead) (po_X6_countAhead) := by
  refine kp_met (N := 49) (by decide) tk_X6_countAhead gk_X6 pk_X6 (mk_X6_countAhead) rfl (iv_X6_countAhead) ?_ ?_
  · rintro As σ ⟨c, rfl, hp⟩
    refine ⟨⟨rfl, Nat.le_of_ble_eq_true rfl⟩, v_X6_countAhead c σ ?_⟩
    obtain ⟨hn, k, rfl, hk⟩ := hp
    exact ⟨40, rfl, rfl, rfl, k, 0, none, rfl, hk, by omega, rfl, rfl⟩
  · rintro As σ ⟨c, rfl, hp⟩ n pc ls st τ hI
    obtain ⟨hn, -⟩ := hp
    obtain ⟨rfl, rfl, rfl, k, d, o4, hAs, hk, hd, rfl, rfl⟩ := hI
    cases hAs
    have hle := ahd_le (S := svS τ) (c := k) d
    refine v_X6_countAhead_4 _ _ _ o4 τ ?_
    rw [nI_ltI (by omega) (by omega), nI_clamp (show d < 2 ^ 31 by omega), nI_clamp (show k < 2 ^ 31 by omega), nI_ltI (by omega) (by omega)]
    rw [show nI d + nI 1 = nI (d + 1) from nI_add _ _, show nI (ahd (svS τ) k d) + nI 1 = nI (ahd (svS τ) k d + 1) from nI_add _ _, show nI (ahd (svS τ) k d) + nI 0 = nI (ahd (svS τ) k d) from nI_add _ _]
    have hgo : ∀ (v : Nat) (o : Option Value), v = ahd (svS τ) k (d + 1) → d < 40 → ∃ n', n' < 40 - d ∧ iv_X6_countAhead [.ref 38, .int (nI k)] τ n' 4 [some (.ref 38), some (.int (nI k)), some (.int (nI v)), some (.int (nI (d + 1))), o] [] τ := by
      rintro v o rfl hd'
      exact ⟨40 - (d + 1), by omega, rfl, rfl, rfl, k, d + 1, o, rfl, hk, by omega, rfl, rfl⟩
    refine ⟨fun g => ⟨rfl, by rw [tn_nI (show k < 2 ^ 31 by omega), show d = 40 by omega]⟩, fun g => ?_⟩
    have hd1 := hn d g
    have hk1 := hn k hk
    have a1 : τ 39 d = τ 39 k ↔ tn (τ 39 d) = tn (τ 39 k) := by
      rw [show (τ 39 d = τ 39 k) = (nI (tn (τ 39 d)) = nI (tn (τ 39 k))) by rw [← hd1, ← hk1], nI_eq (tn_lt _) (tn_lt _)]
    have a2 : τ 39 k < τ 39 d ↔ tn (τ 39 k) < tn (τ 39 d) := by
      rw [show (τ 39 k < τ 39 d) = (nI (tn (τ 39 k)) < nI (tn (τ 39 d))) by rw [← hd1, ← hk1], nI_ltI (tn_lt _) (tn_lt _)]
    have b1 : vp_in (nI d) 40 := (kp_in (by omega)).mpr g
    have b2 : vp_in (nI k) 40 := (kp_in (by omega)).mpr hk
    have hs : ahd (svS τ) k (d + 1) = ahd (svS τ) k d + (if tn (τ 39 k) < tn (τ 39 d) ∨ (tn (τ 39 d) = tn (τ 39 k) ∧ d < k) then 1 else 0) := rfl
    rw [a1, a2]
    refine ⟨b1, b2, fun g1 => ⟨b1, b2, fun g2 => hgo _ _ (by rw [hs, if_pos (Or.inl g2)]) g, fun g2 => ⟨fun _ => hgo _ _ (by rw [hs, if_neg (by omega)]; rfl) g, fun z => absurd rfl z⟩⟩, fun g1 => ⟨fun g3 => ⟨b1, b2, fun g2 => by omega, fun g2 => ⟨fun _ => hgo _ _ (by rw [hs, if_neg (by omega)]; rfl) g, fun z => absurd rfl z⟩⟩, fun g3 => ⟨b1, b2, fun g2 => by omega, fun g2 => ⟨fun z => absurd z (by decide), fun _ => hgo _ _ (by rw [hs, if_pos (Or.inr ⟨g1, g3⟩)]) g⟩⟩⟩⟩
def pr_X6_ranked : SPre := fun As σ => ∃ rank : Int32, As = [.ref 38, .int rank] ∧ (∀ d, d < 40 → nn (σ 39 d))
def po_X6_ranked : SPost := fun As σ r τ => match As with
  | [.ref _, .int rank] => (τ = σ ∧ r = rkd (svS σ) rank 40 0)
  | _ => True
def ms_X6_ranked : List Me := [(49, 0, 6, 1, true, pr_X6_countAhead, po_X6_countAhead)]
theorem mk_X6_ranked : ∀ q ∈ ms_X6_ranked, kp_okM layC RX6 1 q := List.forall_mem_cons.mpr ⟨Or.inl ⟨0, yX6_countAhead, cX6_countAhead, 5, (some .int), c_X6_countAhead, by omega, by decide, rfl, lk_X6_49⟩, fun _ h => absurd h List.not_mem_nil⟩
set_option maxRecDepth 100000 in
theorem v_X6_ranked {J : Nat → Lcl → List Value → Sg → Prop} {Q : Int32 → Sg → Prop} (rank : Int32) (σ : Sg) (h : J 2 [some (.ref 38), some (.int rank), some (.int (nI 0))] [] σ) : kp_T layC gl_X6 pl_X6 (ms_X6_ranked) tb_X6_ranked (kp_rk (some .int)) J Q 30 tb_X6_ranked (kp_en [.ref 38, .int rank] 3) [] σ := h
set_option maxRecDepth 100000 in
theorem v_X6_ranked_2 {J : Nat → Lcl → List Value → Sg → Prop} {Q : Int32 → Sg → Prop} (rank c : Int32) (σ : Sg) (h : (¬ c < (nI 40) → Q (-1) σ) ∧ (c < (nI 40) → vp_in c 40 ∧ ((¬ (nI 0) < (σ 39 (c).toNatClampNeg) → J 2 [some (.ref 38), some (.int rank), some (.int (c + nI 1))] [] σ) ∧ ((nI 0) < (σ 39 (c).toNatClampNeg) → pr_X6_countAhead [.ref 38, .int c] σ ∧ ∀ (x2 : Int32) (τ1 : Sg), po_X6_countAhead [.ref 38, .int c] σ x2 τ1 → ((¬ x2 = rank → J 2 [some (.ref 38), some (.int rank), some (.int (c + nI 1))] [] τ1) ∧ (x2 = rank → Q c τ1)))))) : kp_T1 layC gl_X6 pl_X6 (ms_X6_ranked) tb_X6_ranked (kp_rk (some .int)) J Q 30 2 [some (.ref 38), some (.int rank), some (.int c)] [] σ := h
abbrev iv_X6_ranked : List Value → Sg → Nat → Nat → Lcl → List Value → Sg → Prop := fun As σ n pc ls st τ => pc = 2 ∧ st = [] ∧ τ = σ ∧ ∃ (rank : Int32) (c : Nat), As = [.ref 38, .int rank] ∧ c ≤ 40 ∧ n = 40 - c ∧ ls = [some (.ref 38), some (.int rank), some (.int (nI c))] ∧ rkd (svS σ) rank 40 0 = rkd (svS σ) rank (40 - c) c
set_option maxRecDepth 100000 in
set_option maxHeartbeats 4000000 in
theorem c_X6_ranked : kp_Met layC 1 yX6_ranked cX6_ranked 3 (some .int) (pr_X6_ranked) (po_X6_ranked) := by
  refine kp_met (N := 30) (by decide) tk_X6_ranked gk_X6 pk_X6 (mk_X6_ranked) rfl (iv_X6_ranked) ?_ ?_
  · rintro As σ ⟨rank, rfl, hp⟩
    refine ⟨⟨rfl, Nat.le_of_ble_eq_true rfl⟩, v_X6_ranked rank σ ?_⟩
    exact ⟨40, rfl, rfl, rfl, rank, 0, rfl, by omega, rfl, rfl, rfl⟩
  · rintro As σ ⟨rank, rfl, hp⟩ n pc ls st τ hI
    obtain ⟨rfl, rfl, rfl, rank', c, hAs, hc, rfl, rfl, hr⟩ := hI
    cases hAs
    refine v_X6_ranked_2 _ _ τ ?_
    rw [nI_ltI (by omega) (by omega), nI_clamp (show c < 2 ^ 31 by omega), show nI c + nI 1 = nI (c + 1) from nI_add _ _]
    refine ⟨fun g => ⟨rfl, by rw [hr, show 40 - c = 0 by omega]; rfl⟩, fun g => ⟨(kp_in (by omega)).mpr g, ?_⟩⟩
    rw [show 40 - c = (40 - (c + 1)) + 1 by omega, rkd_s _ _ (40 - (c + 1)) c] at hr
    have hn := hp c g
    have a2 : nI 0 < τ 39 c ↔ 0 < svS τ c := by
      rw [show (nI 0 < τ 39 c) = (nI 0 < nI (tn (τ 39 c))) by rw [← hn], nI_ltI (by omega) (tn_lt _)]
    rw [a2]
    refine ⟨fun g1 => ⟨40 - (c + 1), by omega, rfl, rfl, rfl, rank, c + 1, rfl, by omega, rfl, rfl, by rw [hr, if_neg (fun z => g1 z.1)]⟩, fun g1 => ⟨⟨_, rfl, hp, c, rfl, g⟩, ?_⟩⟩
    rintro x2 τ1 ⟨rfl, rfl⟩
    rw [tn_nI (show c < 2 ^ 31 by omega)]
    exact ⟨fun g2 => ⟨40 - (c + 1), by omega, rfl, rfl, rfl, rank, c + 1, rfl, by omega, rfl, rfl, by rw [hr, if_neg (fun z => g2 z.2)]⟩, fun g2 => ⟨rfl, by rw [hr, if_pos ⟨g1, g2⟩]⟩⟩
end
section
/-! the search for the cheapest assignment, as both classes do it -/
/-- the best so far: its sum, and the strokes that it gives -/
abbrev BS : Type := Option (Nat × List Nat)
def updN (tr : Nat → Nat) (i s : Nat) : Nat → Nat := fun j => if j = i then s else tr j
def okT (mt : Nat → Nat → Bool) (tr : Nat → Nat) (i s : Nat) : Bool := decide (∀ j, j < i → ¬ (tr j = s ∧ mt i j = true))
def vcT (nw : Nat) (of tr : Nat → Nat) : List Nat := (List.range nw).map fun j => of (tr j)
def lfT (nw : Nat) (of : Nat → Nat) (sum : Nat) (tr : Nat → Nat) (b : BS) : BS := match b with
  | none => some (sum, vcT nw of tr)
  | some q => if sum < q.1 then some (sum, vcT nw of tr) else some q
def gvL (stp : Nat → BS → BS) : Nat → Nat → BS → BS
  | 0, _, b => b
  | k + 1, s, b => gvL stp k (s + 1) (stp s b)
def gv (nw no : Nat) (P : Nat → Nat → Nat) (mt : Nat → Nat → Bool) (of : Nat → Nat) : Nat → Nat → Nat → (Nat → Nat) → BS → BS
  | 0, _, sum, tr, b => lfT nw of sum tr b
  | f + 1, i, sum, tr, b => gvL (fun s b => if okT mt tr i s = true then gv nw no P mt of f (i + 1) (sum + P i s) (updN tr i s) b else b) no 0 b
def gvS (nw no : Nat) (P : Nat → Nat → Nat) (mt : Nat → Nat → Bool) (of : Nat → Nat) (f i sum : Nat) (tr : Nat → Nat) (s : Nat) (b : BS) : BS := if okT mt tr i s = true then gv nw no P mt of f (i + 1) (sum + P i s) (updN tr i s) b else b
theorem gv_s (nw no : Nat) (P : Nat → Nat → Nat) (mt : Nat → Nat → Bool) (of : Nat → Nat) (f i sum : Nat) (tr : Nat → Nat) (b : BS) : gv nw no P mt of (f + 1) i sum tr b = gvL (gvS nw no P mt of f i sum tr) no 0 b := rfl
theorem gvL_congr {a b : Nat → BS → BS} {no : Nat} : ∀ (k s : Nat) (x : BS), s + k ≤ no → (∀ t, t < no → ∀ x, a t x = b t x) → gvL a k s x = gvL b k s x
  | 0, _, _, _, _ => rfl
  | k + 1, s, x, h, e => by rw [gvL, gvL, e s (by omega), gvL_congr k (s + 1) _ (by omega) e]
theorem okT_congr {mt mt' : Nat → Nat → Bool} {tr tr' : Nat → Nat} {i s : Nat} (h : ∀ j, j < i → tr j = tr' j ∧ mt i j = mt' i j) : okT mt tr i s = okT mt' tr' i s := by
  unfold okT
  congr 1
  apply propext
  constructor
  · intro q j hj
    rw [← (h j hj).1, ← (h j hj).2]; exact q j hj
  · intro q j hj
    rw [(h j hj).1, (h j hj).2]; exact q j hj
theorem vcT_congr {nw : Nat} {of of' tr tr' : Nat → Nat} (h : ∀ j, j < nw → of (tr j) = of' (tr' j)) : vcT nw of tr = vcT nw of' tr' := by
  unfold vcT
  exact List.map_congr_left (fun j hj => h j (List.mem_range.mp hj))
/-- what the search finds hangs on the data alone -/
theorem gv_congr {nw no : Nat} {P P' : Nat → Nat → Nat} {mt mt' : Nat → Nat → Bool} {of of' : Nat → Nat} (hP : ∀ i s, i < nw → s < no → P i s = P' i s) (hm : ∀ i j, i < nw → j < i → mt i j = mt' i j) (ho : ∀ s, s < no → of s = of' s) : ∀ (f i sum : Nat) (tr tr' : Nat → Nat) (b : BS), i + f = nw → (∀ j, j < i → tr j = tr' j ∧ tr j < no) → gv nw no P mt of f i sum tr b = gv nw no P' mt' of' f i sum tr' b
  | 0, i, sum, tr, tr', b, h, ht => by
    have e : vcT nw of tr = vcT nw of' tr' := vcT_congr (fun j hj => by rw [← (ht j (by omega)).1, ho _ (ht j (by omega)).2])
    unfold gv lfT
    rw [e]
  | f + 1, i, sum, tr, tr', b, h, ht => by
    rw [gv_s, gv_s]
    refine gvL_congr (no := no) no 0 b (by omega) (fun s hs x => ?_)
    unfold gvS
    rw [okT_congr (mt := mt) (mt' := mt') (tr := tr) (tr' := tr') (fun j hj => ⟨(ht j hj).1, hm i j (by omega) hj⟩), hP i s (by omega) hs]
    by_cases hk : okT mt' tr' i s = true
    · rw [if_pos hk, if_pos hk]
      refine gv_congr hP hm ho f (i + 1) _ _ _ x (by omega) (fun j hj => ?_)
      unfold updN
      by_cases e : j = i
      · rw [if_pos e, if_pos e]; exact ⟨rfl, hs⟩
      · rw [if_neg e, if_neg e]; exact ht j (by omega)
    · rw [if_neg hk, if_neg hk]
theorem gvL_fix {stp : Nat → BS → BS} {no : Nat} {b : BS} : ∀ (k s : Nat), s + k ≤ no → (∀ t, t < no → stp t b = b) → gvL stp k s b = b
  | 0, _, _, _ => rfl
  | k + 1, s, h, e => by rw [gvL, e s (by omega), gvL_fix k (s + 1) (by omega) e]
/-- what can't be cheaper changes nothing -/
theorem gv_A {nw no : Nat} {P : Nat → Nat → Nat} {mt : Nat → Nat → Bool} {of : Nat → Nat} {Lb : Nat → Nat} (hL : ∀ i s, i < nw → s < no → Lb i ≤ P i s + Lb (i + 1)) (h0 : Lb nw = 0) : ∀ (f i sum : Nat) (tr : Nat → Nat) (v : Nat) (l : List Nat), i + f = nw → v ≤ sum + Lb i → gv nw no P mt of f i sum tr (some (v, l)) = some (v, l)
  | 0, i, sum, tr, v, l, h, hv => by
    have : i = nw := by omega
    subst this
    show (if sum < v then some (sum, vcT i of tr) else some (v, l)) = some (v, l)
    rw [if_neg (by omega)]
  | f + 1, i, sum, tr, v, l, h, hv => by
    rw [gv_s]
    refine gvL_fix (no := no) no 0 (by omega) (fun s hs => ?_)
    unfold gvS
    by_cases hk : okT mt tr i s = true
    · rw [if_pos hk]
      have := hL i s (by omega) hs
      exact gv_A hL h0 f (i + 1) _ _ v l (by omega) (by omega)
    · rw [if_neg hk]
/-- a search that has found something keeps something, and never a dearer one -/
theorem gvL_step {stp : Nat → BS → BS} {no s : Nat} {b : BS} (h : s < no) : gvL stp (no - s) s b = gvL stp (no - (s + 1)) (s + 1) (stp s b) := by
  rw [show no - s = (no - (s + 1)) + 1 by omega]; rfl
end
section
/-! assigning: KeyPlan$Assigning, its lists -/
abbrev nwC (σ : Sg) : Nat := tn (σ 23 2)
abbrev noC (σ : Sg) : Nat := tn (σ 23 4)
def asOK (σ : Sg) : Prop := nn (σ 23 2) ∧ nwC σ ≤ 6 ∧ nn (σ 23 4) ∧ noC σ ≤ 8 ∧ (∀ i, i < nwC σ → nn (σ 24 i) ∧ tn (σ 24 i) < 40 ∧ nn (σ 25 i) ∧ tn (σ 25 i) < tn (σ 2 1)) ∧ (∀ s, s < noC σ → nn (σ 26 s) ∧ 1 ≤ tn (σ 26 s) ∧ tn (σ 26 s) ≤ 240)
def pr_X0_forget : SPre := fun As σ => As = [.ref 23] ∧ (True)
def po_X0_forget : SPost := fun As σ r τ => match As with
  | [.ref _] => (τ = kp_up σ 23 5 (nI 0))
  | _ => True
def ms_X0_forget : List Me := []
theorem mk_X0_forget : ∀ q ∈ ms_X0_forget, kp_okM layC RX0 0 q := fun _ h => absurd h List.not_mem_nil
set_option maxRecDepth 100000 in
theorem v_X0_forget {J : Nat → Lcl → List Value → Sg → Prop} {Q : Int32 → Sg → Prop}  (σ : Sg) (h : ((nI 0) = nI 0 ∨ (nI 0) = nI 1) ∧ (Q (nI 0) (kp_up σ 23 5 (nI 0)))) : kp_T layC gl_X0 pl_X0 (ms_X0_forget) tb_X0_forget (kp_rk none) J Q 30 tb_X0_forget (kp_en [.ref 23] 1) [] σ := h
set_option maxRecDepth 100000 in
set_option maxHeartbeats 4000000 in
theorem c_X0_forget : kp_Met layC 0 yX0_forget cX0_forget 1 none (pr_X0_forget) (po_X0_forget) := by
  refine kp_met (N := 30) (by decide) tk_X0_forget gk_X0 pk_X0 (mk_X0_forget) rfl (fun _ _ _ _ _ _ _ => False) ?_ (fun _ _ _ _ _ _ _ _ h => h.elim)
  rintro As σ ⟨rfl, hp⟩
  refine ⟨⟨rfl, Nat.le_of_ble_eq_true rfl⟩, v_X0_forget σ ?_⟩
  exact ⟨Or.inl rfl, rfl⟩
def pr_X0_empty : SPre := fun As σ => As = [.ref 23] ∧ (True)
def po_X0_empty : SPost := fun As σ r τ => match As with
  | [.ref _] => (τ = kp_up (kp_up (kp_up σ 23 2 (nI 0)) 23 4 (nI 0)) 23 5 (nI 0))
  | _ => True
def ms_X0_empty : List Me := [(53, 0, 0, 0, false, pr_X0_forget, po_X0_forget)]
theorem mk_X0_empty : ∀ q ∈ ms_X0_empty, kp_okM layC RX0 1 q := List.forall_mem_cons.mpr ⟨Or.inl ⟨0, yX0_forget, cX0_forget, 1, none, c_X0_forget, by omega, by decide, rfl, lk_X0_53⟩, fun _ h => absurd h List.not_mem_nil⟩
set_option maxRecDepth 100000 in
theorem v_X0_empty {J : Nat → Lcl → List Value → Sg → Prop} {Q : Int32 → Sg → Prop}  (σ : Sg) (h : pr_X0_forget [.ref 23] (kp_up (kp_up σ 23 2 (nI 0)) 23 4 (nI 0)) ∧ ∀ (τ1 : Sg), po_X0_forget [.ref 23] (kp_up (kp_up σ 23 2 (nI 0)) 23 4 (nI 0)) (nI 0) τ1 → (Q (nI 0) τ1)) : kp_T layC gl_X0 pl_X0 (ms_X0_empty) tb_X0_empty (kp_rk none) J Q 30 tb_X0_empty (kp_en [.ref 23] 1) [] σ := h
set_option maxRecDepth 100000 in
set_option maxHeartbeats 4000000 in
theorem c_X0_empty : kp_Met layC 1 yX0_empty cX0_empty 1 none (pr_X0_empty) (po_X0_empty) := by
  refine kp_met (N := 30) (by decide) tk_X0_empty gk_X0 pk_X0 (mk_X0_empty) rfl (fun _ _ _ _ _ _ _ => False) ?_ (fun _ _ _ _ _ _ _ _ h => h.elim)
  rintro As σ ⟨rfl, hp⟩
  refine ⟨⟨rfl, Nat.le_of_ble_eq_true rfl⟩, v_X0_empty σ ?_⟩
  refine ⟨⟨rfl, trivial⟩, ?_⟩
  rintro τ1 rfl
  rfl
def pr_X0_isAmong : SPre := fun As σ => ∃ a : Nat, ∃ L : Nat, ∃ f : Int32, ∃ x : Int32, As = [.ref a, .int f, .int x] ∧ (a = 24 ∧ L = 6 ∨ a = 26 ∧ L = 8) ∧ (∃ m : Nat, f = nI m ∧ m ≤ L)
def po_X0_isAmong : SPost := fun As σ r τ => match As with
  | [.ref a, .int f, .int x] => (τ = σ ∧ r = bI (decide (∃ j, j < tn f ∧ σ a j = x)))
  | _ => True
def ms_X0_isAmong : List Me := []
theorem mk_X0_isAmong : ∀ q ∈ ms_X0_isAmong, kp_okM layC RX0 0 q := fun _ h => absurd h List.not_mem_nil
set_option maxRecDepth 100000 in
theorem v_X0_isAmong {J : Nat → Lcl → List Value → Sg → Prop} {Q : Int32 → Sg → Prop} (a : Nat) (L : Nat) (hb : a = 24 ∧ L = 6 ∨ a = 26 ∧ L = 8) (f x : Int32) (σ : Sg) (h : J 2 [some (.ref a), some (.int f), some (.int x), some (.int (nI 0))] [] σ) : kp_T layC gl_X0 pl_X0 (ms_X0_isAmong) tb_X0_isAmong (kp_rk (some .boolean)) J Q 30 tb_X0_isAmong (kp_en [.ref a, .int f, .int x] 4) [] σ := by rcases hb with ⟨rfl, rfl⟩ | ⟨rfl, rfl⟩ <;> exact h
set_option maxRecDepth 100000 in
theorem v_X0_isAmong_2 {J : Nat → Lcl → List Value → Sg → Prop} {Q : Int32 → Sg → Prop} (a : Nat) (L : Nat) (hb : a = 24 ∧ L = 6 ∨ a = 26 ∧ L = 8) (f x i : Int32) (σ : Sg) (h : (¬ i < f → ((nI 0) = nI 0 ∨ (nI 0) = nI 1) ∧ Q (nI 0) σ) ∧ (i < f → vp_in i L ∧ ((¬ (σ a (i).toNatClampNeg) = x → J 2 [some (.ref a), some (.int f), some (.int x), some (.int (i + nI 1))] [] σ) ∧ ((σ a (i).toNatClampNeg) = x → ((nI 1) = nI 0 ∨ (nI 1) = nI 1) ∧ Q (nI 1) σ)))) : kp_T1 layC gl_X0 pl_X0 (ms_X0_isAmong) tb_X0_isAmong (kp_rk (some .boolean)) J Q 30 2 [some (.ref a), some (.int f), some (.int x), some (.int i)] [] σ := by rcases hb with ⟨rfl, rfl⟩ | ⟨rfl, rfl⟩ <;> exact h
abbrev iv_X0_isAmong : List Value → Sg → Nat → Nat → Lcl → List Value → Sg → Prop := fun As σ n pc ls st τ => pc = 2 ∧ st = [] ∧ τ = σ ∧ ∃ (a L m i : Nat) (x : Int32), (a = 24 ∧ L = 6 ∨ a = 26 ∧ L = 8) ∧ As = [.ref a, .int (nI m), .int x] ∧ m ≤ L ∧ i ≤ m ∧ n = m - i ∧ ls = [some (.ref a), some (.int (nI m)), some (.int x), some (.int (nI i))] ∧ ∀ j, j < i → ¬ σ a j = x
set_option maxRecDepth 100000 in
set_option maxHeartbeats 4000000 in
theorem c_X0_isAmong : kp_Met layC 0 yX0_isAmong cX0_isAmong 4 (some .boolean) (pr_X0_isAmong) (po_X0_isAmong) := by
  refine kp_met (N := 30) (by decide) tk_X0_isAmong gk_X0 pk_X0 (mk_X0_isAmong) rfl (iv_X0_isAmong) ?_ ?_
  · rintro As σ ⟨a, L, f, x, rfl, hb, hp⟩
    refine ⟨⟨rfl, Nat.le_of_ble_eq_true rfl⟩, v_X0_isAmong a L hb f x σ ?_⟩
    obtain ⟨m, rfl, hm⟩ := hp
    exact ⟨m, rfl, rfl, rfl, a, L, m, 0, x, hb, rfl, hm, by omega, by omega, rfl, fun j hj => by omega⟩
  · rintro As σ ⟨a, L, f, x, rfl, hb, hp⟩ n pc ls st τ hI
    clear hp
    obtain ⟨rfl, rfl, rfl, a', L', m, i, x', hb', hAs, hm, hi, rfl, rfl, hj⟩ := hI
    cases hAs
    refine v_X0_isAmong_2 a L' hb' _ _ _ τ ?_
    rw [nI_ltI (by omega) (by omega), nI_clamp (show i < 2 ^ 31 by omega), show nI i + nI 1 = nI (i + 1) from nI_add _ _]
    refine ⟨fun g => ⟨Or.inl rfl, rfl, ?_⟩, fun g => ⟨(kp_in (by omega)).mpr (by omega), fun g2 => ⟨m - (i + 1), by omega, rfl, rfl, rfl, a, L', m, i + 1, x, hb', rfl, hm, by omega, rfl, rfl, fun j hj' => ?_⟩, fun g2 => ⟨Or.inr rfl, rfl, ?_⟩⟩⟩
    · rw [tn_nI (by omega), decide_eq_false (fun ⟨j, h1, h2⟩ => hj j (by omega) h2)]; rfl
    · by_cases e : j = i
      · subst e; exact g2
      · exact hj j (by omega)
    · rw [tn_nI (by omega), decide_eq_true ⟨i, g, g2⟩]; rfl
def pr_X0_addWanted : SPre := fun As σ => ∃ c : Int32, ∃ x : Int32, As = [.ref 23, .int c, .int x] ∧ (nn (σ 23 2) ∧ nwC σ ≤ 6)
def po_X0_addWanted : SPost := fun As σ r τ => match As with
  | [.ref _, .int c, .int x] => ((nwC σ < 6 ∧ (∀ j, j < nwC σ → σ 24 j ≠ c) → τ = kp_up (kp_up (kp_up (kp_up σ 24 (nwC σ) c) 25 (nwC σ) x) 23 2 (nI (nwC σ + 1))) 23 5 (nI 0) ∧ r = nI (nwC σ + 1)) ∧ (¬ (nwC σ < 6 ∧ (∀ j, j < nwC σ → σ 24 j ≠ c)) → τ = σ ∧ r = -1))
  | _ => True
def ms_X0_addWanted : List Me := [(56, 1, 0, 3, true, pr_X0_isAmong, po_X0_isAmong), (53, 0, 0, 0, false, pr_X0_forget, po_X0_forget)]
theorem mk_X0_addWanted : ∀ q ∈ ms_X0_addWanted, kp_okM layC RX0 1 q := List.forall_mem_cons.mpr ⟨Or.inl ⟨0, yX0_isAmong, cX0_isAmong, 4, (some .boolean), c_X0_isAmong, by omega, by decide, rfl, lk_X0_56⟩, List.forall_mem_cons.mpr ⟨Or.inl ⟨0, yX0_forget, cX0_forget, 1, none, c_X0_forget, by omega, by decide, rfl, lk_X0_53⟩, fun _ h => absurd h List.not_mem_nil⟩⟩
set_option maxRecDepth 100000 in
theorem v_X0_addWanted {J : Nat → Lcl → List Value → Sg → Prop} {Q : Int32 → Sg → Prop} (c x : Int32) (σ : Sg) (h : (¬ (σ 23 2) < (nI 6) → Q (-1) σ) ∧ ((σ 23 2) < (nI 6) → pr_X0_isAmong [.ref 24, .int (σ 23 2), .int c] σ ∧ ∀ (x2 : Int32) (τ1 : Sg), po_X0_isAmong [.ref 24, .int (σ 23 2), .int c] σ x2 τ1 → ((x2 = (nI 0) → vp_in (τ1 23 2) 6 ∧ (vp_in ((kp_up τ1 24 (τ1 23 2).toNatClampNeg c) 23 2) 6 ∧ (pr_X0_forget [.ref 23] (kp_up (kp_up (kp_up τ1 24 (τ1 23 2).toNatClampNeg c) 25 ((kp_up τ1 24 (τ1 23 2).toNatClampNeg c) 23 2).toNatClampNeg x) 23 2 (((kp_up (kp_up τ1 24 (τ1 23 2).toNatClampNeg c) 25 ((kp_up τ1 24 (τ1 23 2).toNatClampNeg c) 23 2).toNatClampNeg x) 23 2) + (nI 1))) ∧ ∀ (τ3 : Sg), po_X0_forget [.ref 23] (kp_up (kp_up (kp_up τ1 24 (τ1 23 2).toNatClampNeg c) 25 ((kp_up τ1 24 (τ1 23 2).toNatClampNeg c) 23 2).toNatClampNeg x) 23 2 (((kp_up (kp_up τ1 24 (τ1 23 2).toNatClampNeg c) 25 ((kp_up τ1 24 (τ1 23 2).toNatClampNeg c) 23 2).toNatClampNeg x) 23 2) + (nI 1))) (nI 0) τ3 → (Q (τ3 23 2) τ3)))) ∧ (¬ x2 = (nI 0) → Q (-1) τ1)))) : kp_T layC gl_X0 pl_X0 (ms_X0_addWanted) tb_X0_addWanted (kp_rk (some .int)) J Q 41 tb_X0_addWanted (kp_en [.ref 23, .int c, .int x] 3) [] σ := h
set_option maxRecDepth 100000 in
set_option maxHeartbeats 4000000 in
theorem c_X0_addWanted : kp_Met layC 1 yX0_addWanted cX0_addWanted 3 (some .int) (pr_X0_addWanted) (po_X0_addWanted) := by
  refine kp_met (N := 41) (by decide) tk_X0_addWanted gk_X0 pk_X0 (mk_X0_addWanted) rfl (fun _ _ _ _ _ _ _ => False) ?_ (fun _ _ _ _ _ _ _ _ h => h.elim)
  rintro As σ ⟨c, x, rfl, hp⟩
  refine ⟨⟨rfl, Nat.le_of_ble_eq_true rfl⟩, v_X0_addWanted c x σ ?_⟩
  obtain ⟨h1, h2⟩ := hp
  have e6 : σ 23 2 < nI 6 ↔ nwC σ < 6 := by rw [show (σ 23 2 < nI 6) = (nI (tn (σ 23 2)) < nI 6) by rw [← h1], nI_ltI (tn_lt _) (by omega)]
  rw [e6]
  refine ⟨fun g => ⟨fun z => absurd z.1 g, fun _ => ⟨rfl, rfl⟩⟩, fun g => ⟨⟨24, 6, _, _, rfl, Or.inl ⟨rfl, rfl⟩, nwC σ, h1, h2⟩, ?_⟩⟩
  rintro x2 τ1 ⟨rfl, rfl⟩
  have e1 : kp_up τ1 24 (τ1 23 2).toNatClampNeg c 23 2 = τ1 23 2 := by simp (disch := decide) only [up_c, kp_up_eq, pk_us, pk_un]
  have e2 : kp_up (kp_up τ1 24 (τ1 23 2).toNatClampNeg c) 25 (τ1 23 2).toNatClampNeg x 23 2 = τ1 23 2 := by simp (disch := decide) only [up_c, kp_up_eq, pk_us, pk_un]
  rw [e1, e2, bI_0]
  have h3 : vp_in (τ1 23 2) 6 := by rw [h1]; exact (kp_in (tn_lt _)).mpr g
  have e3 : τ1 23 2 + nI 1 = nI (nwC τ1 + 1) := by rw [← nI_add]; exact congrArg (· + nI 1) h1
  rw [e3]
  refine ⟨fun g2 => ⟨h3, h3, ⟨rfl, trivial⟩, ?_⟩, fun g2 => ⟨fun z => ?_, fun _ => ⟨rfl, rfl⟩⟩⟩
  · rintro τ3 rfl
    have g2 := of_decide_eq_false g2
    refine ⟨fun _ => ⟨rfl, ?_⟩, fun z => absurd ⟨g, fun j hj e => g2 ⟨j, hj, e⟩⟩ z⟩
    simp (disch := decide) only [up_c, kp_up_eq, pk_us, pk_un]
  · have g2 := of_decide_eq_true (show decide _ = true by simpa using g2)
    obtain ⟨j, hj, e⟩ := g2
    exact absurd e (z.2 j hj)
def pr_X0_addOffered : SPre := fun As σ => ∃ s : Int32, As = [.ref 23, .int s] ∧ (nn (σ 23 4) ∧ noC σ ≤ 8)
def po_X0_addOffered : SPost := fun As σ r τ => match As with
  | [.ref _, .int s] => ((noC σ < 8 ∧ (∀ j, j < noC σ → σ 26 j ≠ s) → τ = kp_up (kp_up (kp_up σ 26 (noC σ) s) 23 4 (nI (noC σ + 1))) 23 5 (nI 0) ∧ r = nI (noC σ + 1)) ∧ (¬ (noC σ < 8 ∧ (∀ j, j < noC σ → σ 26 j ≠ s)) → τ = σ ∧ r = -1))
  | _ => True
def ms_X0_addOffered : List Me := [(56, 1, 0, 3, true, pr_X0_isAmong, po_X0_isAmong), (53, 0, 0, 0, false, pr_X0_forget, po_X0_forget)]
theorem mk_X0_addOffered : ∀ q ∈ ms_X0_addOffered, kp_okM layC RX0 1 q := List.forall_mem_cons.mpr ⟨Or.inl ⟨0, yX0_isAmong, cX0_isAmong, 4, (some .boolean), c_X0_isAmong, by omega, by decide, rfl, lk_X0_56⟩, List.forall_mem_cons.mpr ⟨Or.inl ⟨0, yX0_forget, cX0_forget, 1, none, c_X0_forget, by omega, by decide, rfl, lk_X0_53⟩, fun _ h => absurd h List.not_mem_nil⟩⟩
set_option maxRecDepth 100000 in
theorem v_X0_addOffered {J : Nat → Lcl → List Value → Sg → Prop} {Q : Int32 → Sg → Prop} (s : Int32) (σ : Sg) (h : (¬ (σ 23 4) < (nI 8) → Q (-1) σ) ∧ ((σ 23 4) < (nI 8) → pr_X0_isAmong [.ref 26, .int (σ 23 4), .int s] σ ∧ ∀ (x2 : Int32) (τ1 : Sg), po_X0_isAmong [.ref 26, .int (σ 23 4), .int s] σ x2 τ1 → ((x2 = (nI 0) → vp_in (τ1 23 4) 8 ∧ (pr_X0_forget [.ref 23] (kp_up (kp_up τ1 26 (τ1 23 4).toNatClampNeg s) 23 4 (((kp_up τ1 26 (τ1 23 4).toNatClampNeg s) 23 4) + (nI 1))) ∧ ∀ (τ3 : Sg), po_X0_forget [.ref 23] (kp_up (kp_up τ1 26 (τ1 23 4).toNatClampNeg s) 23 4 (((kp_up τ1 26 (τ1 23 4).toNatClampNeg s) 23 4) + (nI 1))) (nI 0) τ3 → (Q (τ3 23 4) τ3))) ∧ (¬ x2 = (nI 0) → Q (-1) τ1)))) : kp_T layC gl_X0 pl_X0 (ms_X0_addOffered) tb_X0_addOffered (kp_rk (some .int)) J Q 35 tb_X0_addOffered (kp_en [.ref 23, .int s] 2) [] σ := h
set_option maxRecDepth 100000 in
set_option maxHeartbeats 4000000 in
theorem c_X0_addOffered : kp_Met layC 1 yX0_addOffered cX0_addOffered 2 (some .int) (pr_X0_addOffered) (po_X0_addOffered) := by
  refine kp_met (N := 35) (by decide) tk_X0_addOffered gk_X0 pk_X0 (mk_X0_addOffered) rfl (fun _ _ _ _ _ _ _ => False) ?_ (fun _ _ _ _ _ _ _ _ h => h.elim)
  rintro As σ ⟨s, rfl, hp⟩
  refine ⟨⟨rfl, Nat.le_of_ble_eq_true rfl⟩, v_X0_addOffered s σ ?_⟩
  obtain ⟨h1, h2⟩ := hp
  have e6 : σ 23 4 < nI 8 ↔ noC σ < 8 := by rw [show (σ 23 4 < nI 8) = (nI (tn (σ 23 4)) < nI 8) by rw [← h1], nI_ltI (tn_lt _) (by omega)]
  rw [e6]
  refine ⟨fun g => ⟨fun z => absurd z.1 g, fun _ => ⟨rfl, rfl⟩⟩, fun g => ⟨⟨26, 8, _, _, rfl, Or.inr ⟨rfl, rfl⟩, noC σ, h1, h2⟩, ?_⟩⟩
  rintro x2 τ1 ⟨rfl, rfl⟩
  have e1 : kp_up τ1 26 (τ1 23 4).toNatClampNeg s 23 4 = τ1 23 4 := by simp (disch := decide) only [up_c, kp_up_eq, pk_us, pk_un]
  rw [e1, bI_0]
  have h3 : vp_in (τ1 23 4) 8 := by rw [h1]; exact (kp_in (tn_lt _)).mpr g
  have e3 : τ1 23 4 + nI 1 = nI (noC τ1 + 1) := by rw [← nI_add]; exact congrArg (· + nI 1) h1
  rw [e3]
  refine ⟨fun g2 => ⟨h3, ⟨rfl, trivial⟩, ?_⟩, fun g2 => ⟨fun z => ?_, fun _ => ⟨rfl, rfl⟩⟩⟩
  · rintro τ3 rfl
    have g2 := of_decide_eq_false g2
    refine ⟨fun _ => ⟨rfl, ?_⟩, fun z => absurd ⟨g, fun j hj e => g2 ⟨j, hj, e⟩⟩ z⟩
    simp (disch := decide) only [up_c, kp_up_eq, pk_us, pk_un]
  · have g2 := of_decide_eq_true (show decide _ = true by simpa using g2)
    obtain ⟨j, hj, e⟩ := g2
    exact absurd e (z.2 j hj)
/-! the search -/
abbrev pC (σ : Sg) : Nat → Nat → Nat := fun i s => tn (σ (30 + i) s)
abbrev mtC (σ : Sg) : Nat → Nat → Bool := fun i j => decide (¬ σ 37 (i * 6 + j) = nI 0)
abbrev LbC (σ : Sg) : Nat → Nat := fun i => tn (σ 36 i)
abbrev ofC (σ : Sg) : Nat → Nat := fun s => tn (σ 26 s)
abbrev trC (σ : Sg) : Nat → Nat := fun j => tn (σ 28 j)
def bsC (σ : Sg) : BS := if σ 23 6 = -1 then none else some (tn (σ 23 6), (List.range (nwC σ)).map fun i => tn (σ 27 i))
def srOK (σ : Sg) : Prop := (∀ i s, i < nwC σ → s < noC σ → nn (σ (30 + i) s) ∧ pC σ i s ≤ 110000) ∧ (∀ i, i ≤ nwC σ → nn (σ 36 i) ∧ LbC σ i ≤ 660000) ∧ LbC σ (nwC σ) = 0 ∧ ∀ i s, i < nwC σ → s < noC σ → LbC σ i ≤ pC σ i s + LbC σ (i + 1)
def pr_X0_isUntaken : SPre := fun As σ => ∃ i : Int32, ∃ s : Int32, As = [.ref 23, .int i, .int s] ∧ (∃ a b : Nat, i = nI a ∧ a < 6 ∧ s = nI b ∧ b < 2 ^ 31 ∧ ∀ j, j < a → nn (σ 28 j))
def po_X0_isUntaken : SPost := fun As σ r τ => match As with
  | [.ref _, .int i, .int s] => (τ = σ ∧ r = bI (okT (mtC σ) (trC σ) (tn i) (tn s)))
  | _ => True
def ms_X0_isUntaken : List Me := []
theorem mk_X0_isUntaken : ∀ q ∈ ms_X0_isUntaken, kp_okM layC RX0 0 q := fun _ h => absurd h List.not_mem_nil
set_option maxRecDepth 100000 in
theorem v_X0_isUntaken {J : Nat → Lcl → List Value → Sg → Prop} {Q : Int32 → Sg → Prop} (i s : Int32) (σ : Sg) (h : J 2 [some (.ref 23), some (.int i), some (.int s), some (.int (nI 0))] [] σ) : kp_T layC gl_X0 pl_X0 (ms_X0_isUntaken) tb_X0_isUntaken (kp_rk (some .boolean)) J Q 31 tb_X0_isUntaken (kp_en [.ref 23, .int i, .int s] 4) [] σ := h
set_option maxRecDepth 100000 in
theorem v_X0_isUntaken_2 {J : Nat → Lcl → List Value → Sg → Prop} {Q : Int32 → Sg → Prop} (i s j : Int32) (σ : Sg) (h : (¬ j < i → ((nI 1) = nI 0 ∨ (nI 1) = nI 1) ∧ Q (nI 1) σ) ∧ (j < i → vp_in j 6 ∧ ((¬ (σ 28 (j).toNatClampNeg) = s → J 2 [some (.ref 23), some (.int i), some (.int s), some (.int (j + nI 1))] [] σ) ∧ ((σ 28 (j).toNatClampNeg) = s → vp_in ((i * (nI 6)) + j) 36 ∧ (((σ 37 ((i * (nI 6)) + j).toNatClampNeg) = (nI 0) → J 2 [some (.ref 23), some (.int i), some (.int s), some (.int (j + nI 1))] [] σ) ∧ (¬ (σ 37 ((i * (nI 6)) + j).toNatClampNeg) = (nI 0) → ((nI 0) = nI 0 ∨ (nI 0) = nI 1) ∧ Q (nI 0) σ)))))) : kp_T1 layC gl_X0 pl_X0 (ms_X0_isUntaken) tb_X0_isUntaken (kp_rk (some .boolean)) J Q 31 2 [some (.ref 23), some (.int i), some (.int s), some (.int j)] [] σ := h
abbrev iv_X0_isUntaken : List Value → Sg → Nat → Nat → Lcl → List Value → Sg → Prop := fun As σ n pc ls st τ => pc = 2 ∧ st = [] ∧ τ = σ ∧ ∃ (a b j : Nat), As = [.ref 23, .int (nI a), .int (nI b)] ∧ a < 6 ∧ b < 2 ^ 31 ∧ (∀ j, j < a → nn (σ 28 j)) ∧ j ≤ a ∧ n = a - j ∧ ls = [some (.ref 23), some (.int (nI a)), some (.int (nI b)), some (.int (nI j))] ∧ ∀ k, k < j → ¬ (trC σ k = b ∧ mtC σ a k = true)
set_option maxRecDepth 100000 in
set_option maxHeartbeats 4000000 in
theorem c_X0_isUntaken : kp_Met layC 0 yX0_isUntaken cX0_isUntaken 4 (some .boolean) (pr_X0_isUntaken) (po_X0_isUntaken) := by
  refine kp_met (N := 31) (by decide) tk_X0_isUntaken gk_X0 pk_X0 (mk_X0_isUntaken) rfl (iv_X0_isUntaken) ?_ ?_
  · rintro As σ ⟨i, s, rfl, hp⟩
    refine ⟨⟨rfl, Nat.le_of_ble_eq_true rfl⟩, v_X0_isUntaken i s σ ?_⟩
    obtain ⟨a, b, rfl, ha, rfl, hb, hn⟩ := hp
    exact ⟨a, rfl, rfl, rfl, a, b, 0, rfl, ha, hb, hn, by omega, by omega, rfl, fun k hk => by omega⟩
  · rintro As σ ⟨i, s, rfl, hp⟩ n pc ls st τ hI
    clear hp
    obtain ⟨rfl, rfl, rfl, a, b, j, hAs, ha, hb, hn, hj, rfl, rfl, hk⟩ := hI
    cases hAs
    refine v_X0_isUntaken_2 _ _ _ τ ?_
    rw [nI_ltI (by omega) (by omega), nI_clamp (show j < 2 ^ 31 by omega), show nI j + nI 1 = nI (j + 1) from nI_add _ _, pk_mul, nI_add, nI_clamp (show a * 6 + j < 2 ^ 31 by omega)]
    have ta : tn (nI a) = a := tn_nI (by omega)
    have tb : tn (nI b) = b := tn_nI hb
    have hnext : ¬ (trC τ j = b ∧ mtC τ a j = true) → j < a → ∃ n', n' < a - j ∧ iv_X0_isUntaken [.ref 23, .int (nI a), .int (nI b)] τ n' 2 [some (.ref 23), some (.int (nI a)), some (.int (nI b)), some (.int (nI (j + 1)))] [] τ := by
      intro h hja
      refine ⟨a - (j + 1), by omega, rfl, rfl, rfl, a, b, j + 1, rfl, ha, hb, hn, by omega, rfl, rfl, fun k hk' => ?_⟩
      by_cases e : k = j
      · subst e; exact h
      · exact hk k (by omega)
    refine ⟨fun g => ⟨Or.inr rfl, rfl, ?_⟩, fun g => ⟨(kp_in (by omega)).mpr (by omega), ?_⟩⟩
    · rw [ta, tb, show okT (mtC τ) (trC τ) a b = true from decide_eq_true (fun k hk' => hk k (by omega))]; rfl
    · have e1 : τ 28 j = nI b ↔ trC τ j = b := by
        rw [show (τ 28 j = nI b) = (nI (tn (τ 28 j)) = nI b) by rw [← hn j g], nI_eq (tn_lt _) hb]
      rw [e1]
      refine ⟨fun g2 => hnext (fun z => g2 z.1) g, fun g2 => ⟨(kp_in (by omega)).mpr (by omega), fun g3 => hnext (fun z => of_decide_eq_true z.2 g3) g, fun g3 => ⟨Or.inl rfl, rfl, ?_⟩⟩⟩
      rw [ta, tb, show okT (mtC τ) (trC τ) a b = false from decide_eq_false (fun z => z j g ⟨g2, decide_eq_true g3⟩)]; rfl
def pr_X0_remember : SPre := fun As σ => ∃ sum : Int32, As = [.ref 23, .int sum] ∧ (nn (σ 23 2) ∧ nwC σ ≤ 6 ∧ noC σ ≤ 8 ∧ ∀ j, j < nwC σ → nn (σ 28 j) ∧ trC σ j < noC σ)
def po_X0_remember : SPost := fun As σ r τ => match As with
  | [.ref _, .int sum] => (fr [23, 27] σ τ ∧ (∀ k, k ≠ 6 → τ 23 k = σ 23 k) ∧ τ 23 6 = sum ∧ ∀ j, j < nwC σ → τ 27 j = σ 26 (trC σ j))
  | _ => True
def ms_X0_remember : List Me := []
theorem mk_X0_remember : ∀ q ∈ ms_X0_remember, kp_okM layC RX0 0 q := fun _ h => absurd h List.not_mem_nil
set_option maxRecDepth 100000 in
theorem v_X0_remember {J : Nat → Lcl → List Value → Sg → Prop} {Q : Int32 → Sg → Prop} (sum : Int32) (σ : Sg) (h : J 7 [some (.ref 23), some (.int sum), some (.int (nI 0))] [] (kp_up σ 23 6 sum)) : kp_T layC gl_X0 pl_X0 (ms_X0_remember) tb_X0_remember (kp_rk none) J Q 30 tb_X0_remember (kp_en [.ref 23, .int sum] 3) [] σ := h
set_option maxRecDepth 100000 in
theorem v_X0_remember_7 {J : Nat → Lcl → List Value → Sg → Prop} {Q : Int32 → Sg → Prop} (sum i : Int32) (σ : Sg) (h : (¬ i < (σ 23 2) → Q (nI 0) σ) ∧ (i < (σ 23 2) → vp_in i 6 ∧ (vp_in (σ 28 (i).toNatClampNeg) 8 ∧ (vp_in i 6 ∧ (J 7 [some (.ref 23), some (.int sum), some (.int (i + nI 1))] [] (kp_up σ 27 (i).toNatClampNeg (σ 26 (σ 28 (i).toNatClampNeg).toNatClampNeg))))))) : kp_T1 layC gl_X0 pl_X0 (ms_X0_remember) tb_X0_remember (kp_rk none) J Q 30 7 [some (.ref 23), some (.int sum), some (.int i)] [] σ := h
abbrev iv_X0_remember : List Value → Sg → Nat → Nat → Lcl → List Value → Sg → Prop := fun As σ n pc ls st τ => pc = 7 ∧ st = [] ∧ ∃ (sum : Int32) (i : Nat), As = [.ref 23, .int sum] ∧ i ≤ nwC σ ∧ n = nwC σ - i ∧ ls = [some (.ref 23), some (.int sum), some (.int (nI i))] ∧ fr [23, 27] σ τ ∧ (∀ k, k ≠ 6 → τ 23 k = σ 23 k) ∧ τ 23 6 = sum ∧ ∀ j, j < i → τ 27 j = σ 26 (trC σ j)
set_option maxRecDepth 100000 in
set_option maxHeartbeats 4000000 in
theorem c_X0_remember : kp_Met layC 0 yX0_remember cX0_remember 3 none (pr_X0_remember) (po_X0_remember) := by
  refine kp_met (N := 30) (by decide) tk_X0_remember gk_X0 pk_X0 (mk_X0_remember) rfl (iv_X0_remember) ?_ ?_
  · rintro As σ ⟨sum, rfl, hp⟩
    refine ⟨⟨rfl, Nat.le_of_ble_eq_true rfl⟩, v_X0_remember sum σ ?_⟩
    refine ⟨nwC σ, rfl, rfl, sum, 0, rfl, by omega, by omega, rfl, fr_up fr_rf (by decide), fun k hk => by rw [up_n hk], by rw [up_s], fun j hj => by omega⟩
  · rintro As σ ⟨sum, rfl, hp⟩ n pc ls st τ hI
    obtain ⟨h1, h2, h3, h4⟩ := hp
    obtain ⟨rfl, rfl, sum', i, hAs, hi, rfl, rfl, hf, hk, h6, hj⟩ := hI
    cases hAs
    have q2 : τ 23 2 = σ 23 2 := hk 2 (by decide)
    have q26 : τ 26 = σ 26 := hf 26 (by decide)
    have q28 : τ 28 = σ 28 := hf 28 (by decide)
    refine v_X0_remember_7 _ _ τ ?_
    have e1 : nI i < σ 23 2 ↔ i < nwC σ := by rw [show (nI i < σ 23 2) = (nI i < nI (tn (σ 23 2))) by rw [← h1], nI_ltI (by omega) (tn_lt _)]
    rw [q2, e1, nI_clamp (show i < 2 ^ 31 by omega), show nI i + nI 1 = nI (i + 1) from nI_add _ _, q26, q28]
    refine ⟨fun g => ⟨hf, hk, h6, fun j hj' => hj j (by omega)⟩, fun g => ?_⟩
    obtain ⟨w1, w2⟩ := h4 i g
    refine ⟨(kp_in (by omega)).mpr (by omega), ?_, (kp_in (by omega)).mpr (by omega), nwC σ - (i + 1), by omega, rfl, rfl, sum, i + 1, rfl, by omega, rfl, rfl, fr_up hf (by decide), fun k hk' => ?_, ?_, fun j hj' => ?_⟩
    · rw [w1]; exact (kp_in (tn_lt _)).mpr (by have : tn (σ 28 i) < noC σ := w2; omega)
    · rw [up_c (by decide)]; exact hk k hk'
    · rw [up_c (by decide)]; exact h6
    · by_cases e : j = i
      · subst e; rw [up_s]; rfl
      · rw [up_n e]; exact hj j (by omega)
end
section
/-! the search itself: KeyPlan$Assigning.giveFrom -/
def gfS (σ : Sg) (ii ss : Nat) : Prop := ii ≤ nwC σ ∧ ss ≤ 110000 * ii ∧ (∀ j, j < ii → nn (σ 28 j) ∧ trC σ j < noC σ) ∧ (σ 23 6 = -1 ∨ (nn (σ 23 6) ∧ ss + LbC σ ii < tn (σ 23 6) ∧ tn (σ 23 6) ≤ 660000))
def pr_X0_giveFrom (d : Nat) : SPre := fun As σ => ∃ i sum : Int32, As = [.ref 23, .int i, .int sum] ∧ (asOK σ ∧ srOK σ ∧ ∃ ii ss : Nat, i = nI ii ∧ sum = nI ss ∧ nwC σ - ii < d ∧ gfS σ ii ss)
abbrev gvC (σ : Sg) (ii ss : Nat) : BS := gv (nwC σ) (noC σ) (pC σ) (mtC σ) (ofC σ) (nwC σ - ii) ii ss (trC σ) (bsC σ)
/-- what a search leaves as it was -/
def gfK (σ τ : Sg) (ii : Nat) : Prop := fr [23, 27, 28] σ τ ∧ (∀ k, k ≠ 6 → τ 23 k = σ 23 k) ∧ (∀ j, j < ii → τ 28 j = σ 28 j) ∧ (τ 23 6 = -1 ∨ (nn (τ 23 6) ∧ tn (τ 23 6) ≤ 660000))
def po_X0_giveFrom : SPost := fun As σ _ τ => match As with
  | [.ref _, .int i, .int sum] => gfK σ τ (tn i) ∧ bsC τ = gvC σ (tn i) (tn sum)
  | _ => True
theorem kp_arr_row {i q : Nat} {f : Nat → List Nat → Prop} (hi : i < 6) (hq : ([30, 31, 32, 33, 34, 35] : List Nat)[i]? = some q) : q = 30 + i ∧ (kp_arr layC q 0 f ↔ f 8 []) := by
  rcases (show i = 0 ∨ i = 1 ∨ i = 2 ∨ i = 3 ∨ i = 4 ∨ i = 5 by omega) with rfl | rfl | rfl | rfl | rfl | rfl <;> (cases hq; exact ⟨rfl, Iff.rfl⟩)
theorem nn_lt {x : Int32} {a : Nat} (h : nn x) (ha : a < 2 ^ 31) : (nI a < x ↔ a < tn x) ∧ (x < nI a ↔ tn x < a) := by
  constructor
  · rw [show (nI a < x) = (nI a < nI (tn x)) by rw [← h], nI_ltI ha (tn_lt _)]
  · rw [show (x < nI a) = (nI (tn x) < nI a) by rw [← h], nI_ltI (tn_lt _) ha]
theorem nn_eq {x : Int32} {a : Nat} (h : nn x) (ha : a < 2 ^ 31) : x = nI a ↔ tn x = a := by
  rw [show (x = nI a) = (nI (tn x) = nI a) by rw [← h], nI_eq (tn_lt _) ha]
theorem nn_m1 {x : Int32} (h : nn x) : x ≠ -1 := by rw [h]; exact nI_m1 (tn_lt _)
theorem gfK_data {σ τ : Sg} {ii : Nat} (h : gfK σ τ ii) : nwC τ = nwC σ ∧ noC τ = noC σ ∧ pC τ = pC σ ∧ mtC τ = mtC σ ∧ ofC τ = ofC σ ∧ LbC τ = LbC σ := by
  obtain ⟨h1, h2, h3, h4⟩ := h
  refine ⟨?_, ?_, ?_, ?_, ?_, ?_⟩
  · unfold nwC; rw [h2 2 (by decide)]
  · unfold noC; rw [h2 4 (by decide)]
  · funext i s
    show tn (τ (30 + i) s) = tn (σ (30 + i) s)
    rw [h1 (30 + i) (by simp; omega)]
  · funext i j
    show decide (¬ τ 37 (i * 6 + j) = nI 0) = decide (¬ σ 37 (i * 6 + j) = nI 0)
    rw [h1 37 (by decide)]
  · funext s
    show tn (τ 26 s) = tn (σ 26 s)
    rw [h1 26 (by decide)]
  · funext s
    show tn (τ 36 s) = tn (σ 36 s)
    rw [h1 36 (by decide)]
theorem asOK_K {σ τ : Sg} {ii : Nat} (h : gfK σ τ ii) (ha : asOK σ) : asOK τ := by
  obtain ⟨h1, h2, h3, h4⟩ := h
  unfold asOK nwC noC at *
  rw [h2 2 (by decide), h2 4 (by decide), h1 24 (by decide), h1 25 (by decide), h1 26 (by decide), h1 2 (by decide)]
  exact ha
theorem srOK_K {σ τ : Sg} {ii : Nat} (h : gfK σ τ ii) (ha : srOK σ) : srOK τ := by
  obtain ⟨e1, e2, e3, e4, e5, e6⟩ := gfK_data h
  unfold srOK at *
  rw [e1, e2, e3, e6]
  refine ⟨fun i s hi hs => ?_, fun i hi => ?_, ha.2.2⟩
  · rw [h.1 (30 + i) (by simp; omega)]; exact ha.1 i s hi hs
  · rw [h.1 36 (by decide)]; exact ha.2.1 i hi
theorem bsC_congr {σ τ : Sg} (h1 : τ 23 6 = σ 23 6) (h2 : τ 23 2 = σ 23 2) (h3 : τ 27 = σ 27) : bsC τ = bsC σ := by
  unfold bsC nwC
  rw [h1, h2, h3]
def ms_X0_giveFrom (d : Nat) : List Me := [(85, 0, 0, 1, false, pr_X0_remember, po_X0_remember), (89, 0, 0, 2, true, pr_X0_isUntaken, po_X0_isUntaken), (64, 0, 0, 2, false, (pr_X0_giveFrom d), po_X0_giveFrom)]
theorem mk_X0_giveFrom (d : Nat) (hih : kp_Met layC d yX0_giveFrom cX0_giveFrom 6 none (pr_X0_giveFrom d) po_X0_giveFrom) : ∀ q ∈ ms_X0_giveFrom d, kp_okM layC RX0 (d + 1) q := List.forall_mem_cons.mpr ⟨Or.inl ⟨0, yX0_remember, cX0_remember, 3, none, c_X0_remember, by omega, by decide, rfl, lk_X0_85⟩, List.forall_mem_cons.mpr ⟨Or.inl ⟨0, yX0_isUntaken, cX0_isUntaken, 4, (some .boolean), c_X0_isUntaken, by omega, by decide, rfl, lk_X0_89⟩, List.forall_mem_cons.mpr ⟨Or.inl ⟨d, yX0_giveFrom, cX0_giveFrom, 6, none, hih, by omega, by decide, rfl, lk_X0_64⟩, fun _ h => absurd h List.not_mem_nil⟩⟩⟩
set_option maxRecDepth 100000 in
theorem v_X0_giveFrom (d : Nat) {J : Nat → Lcl → List Value → Sg → Prop} {Q : Int32 → Sg → Prop} (i sum : Int32) (σ : Sg) (h : (i < (σ 23 2) → J 16 [some (.ref 23), some (.int i), some (.int sum), some (.int (nI 0)), none, none] [] σ) ∧ (¬ i < (σ 23 2) → pr_X0_remember [.ref 23, .int sum] σ ∧ ∀ (τ1 : Sg), po_X0_remember [.ref 23, .int sum] σ (nI 0) τ1 → (Q (nI 0) τ1))) : kp_T layC gl_X0 pl_X0 (ms_X0_giveFrom d) tb_X0_giveFrom (kp_rk none) J Q 68 tb_X0_giveFrom (kp_en [.ref 23, .int i, .int sum] 6) [] σ := h
set_option maxRecDepth 100000 in
theorem v_X0_giveFrom_16 (d : Nat) {J : Nat → Lcl → List Value → Sg → Prop} {Q : Int32 → Sg → Prop} (i sum s : Int32) (o4 o5 : Option Value) (σ : Sg) (h : (¬ s < (σ 23 4) → Q (nI 0) σ) ∧ (s < (σ 23 4) → (vp_in i 6 ∧ 6 = List.length [30, 31, 32, 33, 34, 35]) ∧ ∀ q1 : Nat, ([30, 31, 32, 33, 34, 35] : List Nat)[(i).toNatClampNeg]? = some q1 → (kp_arr layC q1 0 fun n2 _ => vp_in s n2 ∧ (((σ 23 6) = (-1) → ((nI 1) = (nI 0) → J 16 [some (.ref 23), some (.int i), some (.int sum), some (.int (s + nI 1)), some (.int (sum + (σ q1 (s).toNatClampNeg))), some (.int (nI 1))] [] σ) ∧ (¬ (nI 1) = (nI 0) → pr_X0_isUntaken [.ref 23, .int i, .int s] σ ∧ ∀ (x4 : Int32) (τ3 : Sg), po_X0_isUntaken [.ref 23, .int i, .int s] σ x4 τ3 → ((x4 = (nI 0) → J 16 [some (.ref 23), some (.int i), some (.int sum), some (.int (s + nI 1)), some (.int (sum + (σ q1 (s).toNatClampNeg))), some (.int (nI 1))] [] τ3) ∧ (¬ x4 = (nI 0) → vp_in i 6 ∧ ((pr_X0_giveFrom d) [.ref 23, .int (i + (nI 1)), .int (sum + (σ q1 (s).toNatClampNeg))] (kp_up τ3 28 (i).toNatClampNeg s) ∧ ∀ (τ5 : Sg), po_X0_giveFrom [.ref 23, .int (i + (nI 1)), .int (sum + (σ q1 (s).toNatClampNeg))] (kp_up τ3 28 (i).toNatClampNeg s) (nI 0) τ5 → (J 16 [some (.ref 23), some (.int i), some (.int sum), some (.int (s + nI 1)), some (.int (sum + (σ q1 (s).toNatClampNeg))), some (.int (nI 1))] [] τ5)))))) ∧ (¬ (σ 23 6) = (-1) → vp_in (i + (nI 1)) 7 ∧ ((¬ ((sum + (σ q1 (s).toNatClampNeg)) + (σ 36 (i + (nI 1)).toNatClampNeg)) < (σ 23 6) → ((nI 0) = (nI 0) → J 16 [some (.ref 23), some (.int i), some (.int sum), some (.int (s + nI 1)), some (.int (sum + (σ q1 (s).toNatClampNeg))), some (.int (nI 0))] [] σ) ∧ (¬ (nI 0) = (nI 0) → pr_X0_isUntaken [.ref 23, .int i, .int s] σ ∧ ∀ (x7 : Int32) (τ6 : Sg), po_X0_isUntaken [.ref 23, .int i, .int s] σ x7 τ6 → ((x7 = (nI 0) → J 16 [some (.ref 23), some (.int i), some (.int sum), some (.int (s + nI 1)), some (.int (sum + (σ q1 (s).toNatClampNeg))), some (.int (nI 0))] [] τ6) ∧ (¬ x7 = (nI 0) → vp_in i 6 ∧ ((pr_X0_giveFrom d) [.ref 23, .int (i + (nI 1)), .int (sum + (σ q1 (s).toNatClampNeg))] (kp_up τ6 28 (i).toNatClampNeg s) ∧ ∀ (τ8 : Sg), po_X0_giveFrom [.ref 23, .int (i + (nI 1)), .int (sum + (σ q1 (s).toNatClampNeg))] (kp_up τ6 28 (i).toNatClampNeg s) (nI 0) τ8 → (J 16 [some (.ref 23), some (.int i), some (.int sum), some (.int (s + nI 1)), some (.int (sum + (σ q1 (s).toNatClampNeg))), some (.int (nI 0))] [] τ8)))))) ∧ (((sum + (σ q1 (s).toNatClampNeg)) + (σ 36 (i + (nI 1)).toNatClampNeg)) < (σ 23 6) → ((nI 1) = (nI 0) → J 16 [some (.ref 23), some (.int i), some (.int sum), some (.int (s + nI 1)), some (.int (sum + (σ q1 (s).toNatClampNeg))), some (.int (nI 1))] [] σ) ∧ (¬ (nI 1) = (nI 0) → pr_X0_isUntaken [.ref 23, .int i, .int s] σ ∧ ∀ (x10 : Int32) (τ9 : Sg), po_X0_isUntaken [.ref 23, .int i, .int s] σ x10 τ9 → ((x10 = (nI 0) → J 16 [some (.ref 23), some (.int i), some (.int sum), some (.int (s + nI 1)), some (.int (sum + (σ q1 (s).toNatClampNeg))), some (.int (nI 1))] [] τ9) ∧ (¬ x10 = (nI 0) → vp_in i 6 ∧ ((pr_X0_giveFrom d) [.ref 23, .int (i + (nI 1)), .int (sum + (σ q1 (s).toNatClampNeg))] (kp_up τ9 28 (i).toNatClampNeg s) ∧ ∀ (τ11 : Sg), po_X0_giveFrom [.ref 23, .int (i + (nI 1)), .int (sum + (σ q1 (s).toNatClampNeg))] (kp_up τ9 28 (i).toNatClampNeg s) (nI 0) τ11 → (J 16 [some (.ref 23), some (.int i), some (.int sum), some (.int (s + nI 1)), some (.int (sum + (σ q1 (s).toNatClampNeg))), some (.int (nI 1))] [] τ11)))))))))))) : kp_T1 layC gl_X0 pl_X0 (ms_X0_giveFrom d) tb_X0_giveFrom (kp_rk none) J Q 68 16 [some (.ref 23), some (.int i), some (.int sum), some (.int s), o4, o5] [] σ := h
abbrev iv_X0_giveFrom (d : Nat) : List Value → Sg → Nat → Nat → Lcl → List Value → Sg → Prop := fun As σ n pc ls st τ => pc = 16 ∧ st = [] ∧ ∃ (ii ss s : Nat) (o4 o5 : Option Value), As = [.ref 23, .int (nI ii), .int (nI ss)] ∧ ii < nwC σ ∧ ss ≤ 110000 * ii ∧ nwC σ - ii < d + 1 ∧ gfS σ ii ss ∧ s ≤ noC σ ∧ n = noC σ - s ∧ ls = [some (.ref 23), some (.int (nI ii)), some (.int (nI ss)), some (.int (nI s)), o4, o5] ∧ gfK σ τ ii ∧ gvC σ ii ss = gvL (gvS (nwC σ) (noC σ) (pC σ) (mtC σ) (ofC σ) (nwC σ - (ii + 1)) ii ss (trC σ)) (noC σ - s) s (bsC τ)
set_option maxRecDepth 100000 in
set_option maxHeartbeats 4000000 in
theorem c_X0_giveFrom (d : Nat) (hih : kp_Met layC d yX0_giveFrom cX0_giveFrom 6 none (pr_X0_giveFrom d) po_X0_giveFrom) : kp_Met layC (d + 1) yX0_giveFrom cX0_giveFrom 6 none (pr_X0_giveFrom (d + 1)) po_X0_giveFrom := by
  refine kp_met (N := 68) (by decide) tk_X0_giveFrom gk_X0 pk_X0 (mk_X0_giveFrom d hih) rfl (iv_X0_giveFrom d) ?_ ?_
  · rintro As σ ⟨i, sum, rfl, hp⟩
    refine ⟨⟨rfl, Nat.le_of_ble_eq_true rfl⟩, v_X0_giveFrom d i sum σ ?_⟩
    obtain ⟨ha, hs, ii, ss, rfl, rfl, hd, hg⟩ := hp
    obtain ⟨a1, a2, a3, a4, a5, a6⟩ := id ha
    obtain ⟨g1, g2, g3, g4⟩ := id hg
    have en : nwC σ = tn (σ 23 2) := rfl
    have eo : noC σ = tn (σ 23 4) := rfl
    have ti : tn (nI ii) = ii := tn_nI (by omega)
    have ts : tn (nI ss) = ss := tn_nI (by omega)
    rw [(nn_lt a1 (show ii < 2 ^ 31 by omega)).1]
    refine ⟨fun h => ⟨noC σ, rfl, rfl, ii, ss, 0, none, none, rfl, h, g2, hd, hg, by omega, rfl, rfl, ⟨fr_rf, fun _ _ => rfl, fun _ _ => rfl, g4.imp id (fun z => ⟨z.1, z.2.2⟩)⟩, ?_⟩, fun h => ⟨⟨_, rfl, a1, a2, a4, fun j hj => g3 j (by omega)⟩, ?_⟩⟩
    · unfold gvC
      rw [show nwC σ - ii = (nwC σ - (ii + 1)) + 1 by omega]
      rfl
    · rintro τ1 ⟨k1, k2, k3, k4⟩
      have hii : ii = nwC σ := by have : ii ≤ nwC σ := g1; omega
      refine ⟨⟨fr_mono k1 (by decide), k2, fun j _ => by rw [k1 28 (by decide)], Or.inr ?_⟩, ?_⟩
      · rw [k3, ts]
        exact ⟨nn_nI (by omega), by omega⟩
      · rw [ti, ts]
        have e1 : nwC τ1 = nwC σ := by unfold nwC; rw [k2 2 (by decide)]
        have ev : (List.range (nwC τ1)).map (fun i => tn (τ1 27 i)) = vcT (nwC σ) (ofC σ) (trC σ) := by
          rw [e1]
          exact List.map_congr_left (fun j hj => by rw [k4 j (List.mem_range.mp hj)])
        unfold gvC
        rw [show nwC σ - ii = 0 by omega]
        show bsC τ1 = lfT (nwC σ) (ofC σ) ss (trC σ) (bsC σ)
        unfold bsC
        rw [if_neg (by rw [k3]; exact nI_m1 (by omega)), ev, k3, ts]
        rcases g4 with z | ⟨z1, z2, z3⟩
        · rw [if_pos z]; rfl
        · rw [if_neg (nn_m1 z1)]
          show _ = if ss < tn (σ 23 6) then _ else _
          rw [if_pos (by omega)]
  · rintro As σ ⟨i, sum, rfl, hp⟩ n pc ls st τ hI
    obtain ⟨ha, hs, -⟩ := hp
    obtain ⟨rfl, rfl, ii, ss, s, o4, o5, hAs, hii, hss, hd, hg, hsn, rfl, rfl, hK, hgv⟩ := hI
    cases hAs
    obtain ⟨a1, a2, a3, a4, a5, a6⟩ := id ha
    obtain ⟨s1, s2, s3, s4⟩ := id hs
    obtain ⟨g1, g2, g3, g4⟩ := id hg
    obtain ⟨k1, k2, k3, k4⟩ := id hK
    obtain ⟨e1, e2, e3, e4, e5, e6⟩ := gfK_data hK
    have en : nwC σ = tn (σ 23 2) := rfl
    have eo : noC σ = tn (σ 23 4) := rfl
    have ti : tn (nI ii) = ii := tn_nI (by omega)
    have ts : tn (nI ss) = ss := tn_nI (by omega)
    have q2 : τ 23 2 = σ 23 2 := k2 2 (by decide)
    have q4 : τ 23 4 = σ 23 4 := k2 4 (by decide)
    have q36 : τ 36 = σ 36 := k1 36 (by decide)
    refine v_X0_giveFrom_16 d _ _ _ o4 o5 τ ?_
    rw [q4, (nn_lt a3 (show s < 2 ^ 31 by omega)).1, nI_clamp (show ii < 2 ^ 31 by omega), nI_clamp (show s < 2 ^ 31 by omega), show nI s + nI 1 = nI (s + 1) from nI_add _ _, show nI ii + nI 1 = nI (ii + 1) from nI_add _ _, nI_clamp (show ii + 1 < 2 ^ 31 by omega)]
    refine ⟨fun h => ⟨by rw [ti]; exact hK, ?_⟩, fun h => ⟨⟨(kp_in (by omega)).mpr (by omega), rfl⟩, ?_⟩⟩
    · rw [ti, ts, hgv, show noC σ - s = 0 by omega]; rfl
    · intro q1 hq
      obtain ⟨rfl, -⟩ := kp_arr_row (i := ii) (q := q1) (f := fun _ _ => True) (by omega) hq
      refine (kp_arr_row (i := ii) (by omega) hq).2.mpr ⟨(kp_in (by omega)).mpr (by omega), ?_⟩
      have hP1 := s1 ii s hii h
      have q30 : τ (30 + ii) = σ (30 + ii) := k1 (30 + ii) (by simp; omega)
      have hP := hP1.2
      have esum : nI ss + τ (30 + ii) s = nI (ss + pC σ ii s) := by rw [q30, ← nI_add, ← hP1.1]
      rw [esum, q36]
      have hL1 := s2 (ii + 1) (by omega)
      have eL : nI (ss + pC σ ii s) + σ 36 (ii + 1) = nI (ss + pC σ ii s + LbC σ (ii + 1)) := (congrArg (nI (ss + pC σ ii s) + ·) hL1.1).trans (nI_add _ _)
      rw [eL]
      have hL2 := hL1.2
      have hgo : ∀ (τ' : Sg) (o4 o5 : Option Value), gfK σ τ' ii → bsC τ' = gvS (nwC σ) (noC σ) (pC σ) (mtC σ) (ofC σ) (nwC σ - (ii + 1)) ii ss (trC σ) s (bsC τ) → ∃ n', n' < noC σ - s ∧ iv_X0_giveFrom d [.ref 23, .int (nI ii), .int (nI ss)] σ n' 16 [some (.ref 23), some (.int (nI ii)), some (.int (nI ss)), some (.int (nI (s + 1))), o4, o5] [] τ' := by
        intro τ' o4 o5 hK' hb'
        refine ⟨noC σ - (s + 1), by omega, rfl, rfl, ii, ss, s + 1, o4, o5, rfl, hii, hss, hd, hg, by omega, rfl, rfl, hK', ?_⟩
        rw [hgv, hb', gvL_step h]
      have hrec : ∀ (w : Int32), (τ 23 6 = -1 ∨ (nn (τ 23 6) ∧ ss + pC σ ii s + LbC σ (ii + 1) < tn (τ 23 6) ∧ tn (τ 23 6) ≤ 660000)) → (pr_X0_isUntaken [.ref 23, .int (nI ii), .int (nI s)] τ ∧ ∀ (x4 : Int32) (τ3 : Sg), po_X0_isUntaken [.ref 23, .int (nI ii), .int (nI s)] τ x4 τ3 →
          ((x4 = (nI 0) → ∃ n', n' < noC σ - s ∧ iv_X0_giveFrom d [.ref 23, .int (nI ii), .int (nI ss)] σ n' 16 [some (.ref 23), some (.int (nI ii)), some (.int (nI ss)), some (.int (nI (s + 1))), some (.int (nI (ss + pC σ ii s))), some (.int w)] [] τ3) ∧
           (¬ x4 = (nI 0) → vp_in (nI ii) 6 ∧ (pr_X0_giveFrom d [.ref 23, .int (nI (ii + 1)), .int (nI (ss + pC σ ii s))] (kp_up τ3 28 ii (nI s)) ∧ ∀ (τ5 : Sg), po_X0_giveFrom [.ref 23, .int (nI (ii + 1)), .int (nI (ss + pC σ ii s))] (kp_up τ3 28 ii (nI s)) (nI 0) τ5 → ∃ n', n' < noC σ - s ∧ iv_X0_giveFrom d [.ref 23, .int (nI ii), .int (nI ss)] σ n' 16 [some (.ref 23), some (.int (nI ii)), some (.int (nI ss)), some (.int (nI (s + 1))), some (.int (nI (ss + pC σ ii s))), some (.int w)] [] τ5)))) := by
        intro w hprom
        refine ⟨⟨_, _, rfl, ii, s, rfl, by omega, rfl, by omega, fun j hj => by rw [k3 j hj]; exact (g3 j hj).1⟩, ?_⟩
        rintro x4 τ3 ⟨rfl, rfl⟩
        have eok : okT (mtC τ3) (trC τ3) (tn (nI ii)) (tn (nI s)) = okT (mtC σ) (trC σ) ii s := by
          rw [ti, tn_nI (show s < 2 ^ 31 by omega)]
          exact okT_congr (fun j hj => ⟨by show tn (τ3 28 j) = tn (σ 28 j); rw [k3 j hj], by rw [e4]⟩)
        rw [eok, bI_0]
        refine ⟨fun h2 => hgo τ3 _ _ hK (by unfold gvS; rw [if_neg (by rw [h2]; decide)]), fun h2 => ⟨(kp_in (by omega)).mpr (by omega), ?_, ?_⟩⟩
        · have hK2 : gfK σ (kp_up τ3 28 ii (nI s)) ii := ⟨fr_up k1 (by decide), fun k hk => by rw [up_c (by decide)]; exact k2 k hk, fun j hj => by rw [up_n (by omega)]; exact k3 j hj, by rw [up_c (by decide)]; exact k4⟩
          obtain ⟨f1, f2, f3, f4, f5, f6⟩ := gfK_data hK2
          refine ⟨_, _, rfl, asOK_K hK2 ha, srOK_K hK2 hs, ii + 1, ss + pC σ ii s, rfl, rfl, by rw [f1]; omega, by rw [f1]; omega, by omega, fun j hj => ?_, ?_⟩
          · rw [f2]
            show nn (kp_up τ3 28 ii (nI s) 28 j) ∧ tn (kp_up τ3 28 ii (nI s) 28 j) < noC σ
            by_cases e : j = ii
            · subst e
              rw [up_s, tn_nI (by omega)]
              exact ⟨nn_nI (by omega), h⟩
            · rw [up_n e, k3 j (by omega)]
              exact g3 j (by omega)
          · rw [up_c (by decide), f6]; exact hprom
        · have hK2 : gfK σ (kp_up τ3 28 ii (nI s)) ii := ⟨fr_up k1 (by decide), fun k hk => by rw [up_c (by decide)]; exact k2 k hk, fun j hj => by rw [up_n (by omega)]; exact k3 j hj, by rw [up_c (by decide)]; exact k4⟩
          obtain ⟨f1, f2, f3, f4, f5, f6⟩ := gfK_data hK2
          rintro τ5 ⟨⟨p1, p2, p3, p4⟩, p5⟩
          rw [tn_nI (show ii + 1 < 2 ^ 31 by omega)] at p3 p5
          rw [tn_nI (show ss + pC σ ii s < 2 ^ 31 by omega)] at p5
          refine hgo τ5 _ _ ⟨fr_tr hK2.1 p1, fun k hk => (p2 k hk).trans (hK2.2.1 k hk), fun j hj => (p3 j (by omega)).trans (hK2.2.2.1 j hj), p4⟩ ?_
          rw [p5]
          unfold gvC gvS
          rw [if_pos (by simpa using h2), f1, f2, f3, f4, f5, bsC_congr (σ := τ3) (by rw [up_c (by decide)]) (by rw [up_c (by decide)]) (by rw [up_c (by decide)])]
          refine gv_congr (fun _ _ _ _ => rfl) (fun _ _ _ _ => rfl) (fun _ _ => rfl) _ (ii + 1) _ _ _ _ (by omega) (fun j hj => ?_)
          show tn (kp_up τ3 28 ii (nI s) 28 j) = updN (trC σ) ii s j ∧ tn (kp_up τ3 28 ii (nI s) 28 j) < noC σ
          unfold updN
          by_cases e : j = ii
          · subst e
            rw [up_s, tn_nI (by omega), if_pos rfl]
            exact ⟨rfl, h⟩
          · rw [up_n e, k3 j (by omega), if_neg e]
            exact ⟨rfl, (g3 j (by omega)).2⟩
      refine ⟨fun h1 => ⟨fun z => absurd z (by decide), fun _ => hrec _ (Or.inl h1)⟩, fun h1 => ⟨(kp_in (by omega)).mpr (by omega), ?_⟩⟩
      obtain ⟨m1, m2⟩ := k4.resolve_left h1
      rw [(nn_lt m1 (show ss + pC σ ii s + LbC σ (ii + 1) < 2 ^ 31 by omega)).1]
      refine ⟨fun h2 => ⟨fun _ => hgo τ _ _ hK ?_, fun z => absurd rfl z⟩, fun h2 => ⟨fun z => absurd z (by decide), fun _ => hrec _ (Or.inr ⟨m1, h2, m2⟩)⟩⟩
      unfold gvS
      by_cases hk : okT (mtC σ) (trC σ) ii s = true
      · rw [if_pos hk]
        have eb : bsC τ = some (tn (τ 23 6), (List.range (nwC τ)).map fun i => tn (τ 27 i)) := by unfold bsC; rw [if_neg h1]
        rw [eb]
        exact (gv_A (Lb := LbC σ) s4 s3 _ (ii + 1) _ _ _ _ (by omega) (by omega)).symm
      · rw [if_neg hk]
theorem cc_giveFrom : ∀ d, kp_Met layC d yX0_giveFrom cX0_giveFrom 6 none (pr_X0_giveFrom d) po_X0_giveFrom
  | 0 => by
    intro l D cI cZ cR ad sz As σ h
    obtain ⟨i, sum, -, -, -, ii, ss, -, -, h, -⟩ := h
    exact absurd h (Nat.not_lt_zero _)
  | d + 1 => c_X0_giveFrom d (cc_giveFrom d)
end
section
/-! the data of the search: KeyPlan$Assigning.prepare, solve -/
abbrev cstC (σ : Sg) : Prop := cstOK (σ 19) (σ 20) (σ 21) (σ 22)
abbrev PT (σ : Sg) : Nat → Nat → Nat := fun i s => prc (σ 19) (σ 20) (σ 21) (σ 22) (tn (σ 24 i)) (tn (σ 26 s))
abbrev MT (σ : Sg) : Nat → Nat → Bool := fun i j => meets (σ 3) (tn (σ 25 i)) (tn (σ 25 j))
theorem prc_le {st us ha we : Nat → Int32} (h : cstOK st us ha we) {c s : Nat} (hc : c < 40) (h1 : 1 ≤ s) (h2 : s ≤ 240) : prc st us ha we c s ≤ 110000 := by
  obtain ⟨⟨-, u⟩, -, -, w⟩ := h.2 c hc
  obtain ⟨-, t⟩ := h.1 s h1 h2
  have : tn (us c) * tn (st s) ≤ 1000 * 100 := Nat.mul_le_mul u t
  unfold prc
  split <;> omega
def ppP (σ τ : Sg) (a : Nat) : Prop := ∀ i, a ≤ i → i < nwC σ → ∀ s, s < noC σ → τ (30 + i) s = nI (PT σ i s)
def ppL (σ τ : Sg) (a : Nat) : Prop := τ 36 (nwC σ) = nI 0 ∧ (∀ i, a ≤ i → i ≤ nwC σ → nn (τ 36 i) ∧ tn (τ 36 i) ≤ 110000 * (nwC σ - i)) ∧ ∀ i, a ≤ i → i < nwC σ → ∀ s, s < noC σ → tn (τ 36 i) ≤ PT σ i s + tn (τ 36 (i + 1))
def ppM (σ τ : Sg) (a : Nat) : Prop := ∀ i, a ≤ i → i < nwC σ → ∀ j, j < i → τ 37 (i * 6 + j) = bI (MT σ i j)
abbrev ppF : List Nat := [30, 31, 32, 33, 34, 35, 36, 37]
theorem im1 (x : Int32) : x + (-1) = x - nI 1 := (Int32.sub_eq_add_neg x 1).symm
theorem pp_mem {i : Nat} (h : i < 6) : 30 + i ∈ ppF := by
  rcases (show i = 0 ∨ i = 1 ∨ i = 2 ∨ i = 3 ∨ i = 4 ∨ i = 5 by omega) with rfl | rfl | rfl | rfl | rfl | rfl <;> decide
def pr_X0_prepare : SPre := fun As σ => As = [.ref 23, .ref 18, .ref 2] ∧ (asOK σ ∧ cstC σ ∧ ctxOK (σ 3) (σ 2 1))
def po_X0_prepare : SPost := fun As σ r τ => match As with
  | [.ref _, .ref _, .ref _] => (fr ppF σ τ ∧ ppP σ τ 0 ∧ ppL σ τ 0 ∧ ppM σ τ 0)
  | _ => True
def ms_X0_prepare : List Me := [(68, 0, 3, 2, true, pr_X3_price, po_X3_price), (74, 1, 0, 2, true, pr_J9_min_7cf53, po_J9_min_7cf53), (79, 0, 2, 2, true, pr_X2_meet, po_X2_meet)]
theorem mk_X0_prepare : ∀ q ∈ ms_X0_prepare, kp_okM layC RX0 4 q := List.forall_mem_cons.mpr ⟨Or.inl ⟨1, yX3_price, cX3_price, 4, (some .int), c_X3_price, by omega, by decide, rfl, lk_X0_68⟩, List.forall_mem_cons.mpr ⟨kp_okX_min (by omega) lk_X0_74, List.forall_mem_cons.mpr ⟨Or.inl ⟨3, yX2_meet, cX2_meet, 3, (some .boolean), c_X2_meet, by omega, by decide, rfl, lk_X0_79⟩, fun _ h => absurd h List.not_mem_nil⟩⟩⟩
set_option maxRecDepth 100000 in
theorem v_X0_prepare {J : Nat → Lcl → List Value → Sg → Prop} {Q : Int32 → Sg → Prop}  (σ : Sg) (h : vp_in (σ 23 2) 7 ∧ (J 17 [some (.ref 23), some (.ref 18), some (.ref 2), some (.int (((kp_up σ 36 (σ 23 2).toNatClampNeg (nI 0)) 23 2) - (nI 1))), none, none] [] (kp_up σ 36 (σ 23 2).toNatClampNeg (nI 0)))) : kp_T layC gl_X0 pl_X0 (ms_X0_prepare) tb_X0_prepare (kp_rk none) J Q 102 tb_X0_prepare (kp_en [.ref 23, .ref 18, .ref 2] 6) [] σ := h
set_option maxRecDepth 100000 in
theorem v_X0_prepare_17 {J : Nat → Lcl → List Value → Sg → Prop} {Q : Int32 → Sg → Prop} (i : Int32) (o4 o5 : Option Value) (σ : Sg) (h : (i < (nI 0) → Q (nI 0) σ) ∧ (¬ i < (nI 0) → J 27 [some (.ref 23), some (.ref 18), some (.ref 2), some (.int i), some (.int (nI 0)), some (.int (nI 0))] [] σ)) : kp_T1 layC gl_X0 pl_X0 (ms_X0_prepare) tb_X0_prepare (kp_rk none) J Q 102 17 [some (.ref 23), some (.ref 18), some (.ref 2), some (.int i), o4, o5] [] σ := h
set_option maxRecDepth 100000 in
theorem v_X0_prepare_27 {J : Nat → Lcl → List Value → Sg → Prop} {Q : Int32 → Sg → Prop} (i least s : Int32) (σ : Sg) (h : (¬ s < (σ 23 4) → vp_in (i + (nI 1)) 7 ∧ (vp_in i 7 ∧ (J 121 [some (.ref 23), some (.ref 18), some (.ref 2), some (.int i), some (.int least), some (.int (nI 0))] [] (kp_up σ 36 (i).toNatClampNeg ((σ 36 (i + (nI 1)).toNatClampNeg) + least))))) ∧ (s < (σ 23 4) → (vp_in i 6 ∧ 6 = List.length [30, 31, 32, 33, 34, 35]) ∧ ∀ q1 : Nat, ([30, 31, 32, 33, 34, 35] : List Nat)[(i).toNatClampNeg]? = some q1 → (vp_in i 6 ∧ (vp_in s 8 ∧ (pr_X3_price [.ref 18, .int (σ 24 (i).toNatClampNeg), .int (σ 26 (s).toNatClampNeg)] σ ∧ ∀ (x3 : Int32) (τ2 : Sg), po_X3_price [.ref 18, .int (σ 24 (i).toNatClampNeg), .int (σ 26 (s).toNatClampNeg)] σ x3 τ2 → (kp_arr layC q1 0 fun n4 _ => vp_in s n4 ∧ ((¬ s = (nI 0) → (vp_in i 6 ∧ 6 = List.length [30, 31, 32, 33, 34, 35]) ∧ ∀ q5 : Nat, ([30, 31, 32, 33, 34, 35] : List Nat)[(i).toNatClampNeg]? = some q5 → (kp_arr layC q5 0 fun n6 _ => vp_in s n6 ∧ (pr_J9_min_7cf53 [.int least, .int ((kp_up τ2 q1 (s).toNatClampNeg x3) q5 (s).toNatClampNeg)] (kp_up τ2 q1 (s).toNatClampNeg x3) ∧ ∀ (x8 : Int32) (τ7 : Sg), po_J9_min_7cf53 [.int least, .int ((kp_up τ2 q1 (s).toNatClampNeg x3) q5 (s).toNatClampNeg)] (kp_up τ2 q1 (s).toNatClampNeg x3) x8 τ7 → (J 27 [some (.ref 23), some (.ref 18), some (.ref 2), some (.int i), some (.int x8), some (.int (s + nI 1))] [] τ7)))) ∧ (s = (nI 0) → (vp_in i 6 ∧ 6 = List.length [30, 31, 32, 33, 34, 35]) ∧ ∀ q9 : Nat, ([30, 31, 32, 33, 34, 35] : List Nat)[(i).toNatClampNeg]? = some q9 → (kp_arr layC q9 0 fun n10 _ => vp_in s n10 ∧ (J 27 [some (.ref 23), some (.ref 18), some (.ref 2), some (.int i), some (.int ((kp_up τ2 q1 (s).toNatClampNeg x3) q9 (s).toNatClampNeg)), some (.int (s + nI 1))] [] (kp_up τ2 q1 (s).toNatClampNeg x3))))))))))) : kp_T1 layC gl_X0 pl_X0 (ms_X0_prepare) tb_X0_prepare (kp_rk none) J Q 102 27 [some (.ref 23), some (.ref 18), some (.ref 2), some (.int i), some (.int least), some (.int s)] [] σ := h
set_option maxRecDepth 100000 in
theorem v_X0_prepare_121 {J : Nat → Lcl → List Value → Sg → Prop} {Q : Int32 → Sg → Prop} (i least j : Int32) (σ : Sg) (h : (¬ j < i → J 17 [some (.ref 23), some (.ref 18), some (.ref 2), some (.int (i + (-1))), some (.int least), some (.int j)] [] σ) ∧ (j < i → vp_in i 6 ∧ (vp_in j 6 ∧ (pr_X2_meet [.ref 2, .int (σ 25 (i).toNatClampNeg), .int (σ 25 (j).toNatClampNeg)] σ ∧ ∀ (x2 : Int32) (τ1 : Sg), po_X2_meet [.ref 2, .int (σ 25 (i).toNatClampNeg), .int (σ 25 (j).toNatClampNeg)] σ x2 τ1 → (vp_in ((i * (nI 6)) + j) 36 ∧ ((x2 = nI 0 ∨ x2 = nI 1) ∧ (J 121 [some (.ref 23), some (.ref 18), some (.ref 2), some (.int i), some (.int least), some (.int (j + nI 1))] [] (kp_up τ1 37 ((i * (nI 6)) + j).toNatClampNeg x2)))))))) : kp_T1 layC gl_X0 pl_X0 (ms_X0_prepare) tb_X0_prepare (kp_rk none) J Q 102 121 [some (.ref 23), some (.ref 18), some (.ref 2), some (.int i), some (.int least), some (.int j)] [] σ := h
abbrev iv_X0_prepare : List Value → Sg → Nat → Nat → Lcl → List Value → Sg → Prop := fun As σ n pc ls st τ => st = [] ∧ As = [.ref 23, .ref 18, .ref 2] ∧ fr ppF σ τ ∧ ((pc = 17 ∧ ∃ (k : Nat) (o4 o5 : Option Value), k ≤ nwC σ ∧ n = 1000 * k + 999 ∧ ls = [some (.ref 23), some (.ref 18), some (.ref 2), some (.int (nI k - nI 1)), o4, o5] ∧ ppP σ τ k ∧ ppL σ τ k ∧ ppM σ τ k) ∨ (pc = 27 ∧ ∃ (i lv s : Nat), i < nwC σ ∧ s ≤ noC σ ∧ n = 1000 * (i + 1) + 500 + (noC σ - s) ∧ ls = [some (.ref 23), some (.ref 18), some (.ref 2), some (.int (nI i)), some (.int (nI lv)), some (.int (nI s))] ∧ ppP σ τ (i + 1) ∧ ppL σ τ (i + 1) ∧ ppM σ τ (i + 1) ∧ (∀ s', s' < s → τ (30 + i) s' = nI (PT σ i s')) ∧ lv ≤ 110000 ∧ (∀ s', s' < s → lv ≤ PT σ i s')) ∨ (pc = 121 ∧ ∃ (i lv j : Nat), i < nwC σ ∧ j ≤ i ∧ n = 1000 * (i + 1) + (i - j) ∧ ls = [some (.ref 23), some (.ref 18), some (.ref 2), some (.int (nI i)), some (.int (nI lv)), some (.int (nI j))] ∧ ppP σ τ i ∧ ppL σ τ i ∧ ppM σ τ (i + 1) ∧ ∀ j', j' < j → τ 37 (i * 6 + j') = bI (MT σ i j')))
set_option maxRecDepth 100000 in
set_option maxHeartbeats 4000000 in
theorem c_X0_prepare : kp_Met layC 4 yX0_prepare cX0_prepare 6 none (pr_X0_prepare) (po_X0_prepare) := by
  refine kp_met (N := 102) (by decide) tk_X0_prepare gk_X0 pk_X0 (mk_X0_prepare) rfl (iv_X0_prepare) ?_ ?_
  · rintro As σ ⟨rfl, hp⟩
    refine ⟨⟨rfl, Nat.le_of_ble_eq_true rfl⟩, v_X0_prepare σ ?_⟩
    obtain ⟨ha, hc, hx⟩ := hp
    obtain ⟨a1, a2, a3, a4, a5, a6⟩ := id ha
    have en : nwC σ = tn (σ 23 2) := rfl
    have e1 : (σ 23 2).toNatClampNeg = nwC σ := rfl
    have e2 : kp_up σ 36 (nwC σ) (nI 0) 23 2 = nI (nwC σ) := by rw [up_c (by decide)]; exact a1
    rw [e1, e2]
    refine ⟨?_, 1000 * nwC σ + 999, rfl, rfl, fr_up fr_rf (by decide), Or.inl ⟨rfl, nwC σ, none, none, by omega, rfl, rfl, fun i h1 h2 => by omega, ⟨up_s, fun i h1 h2 => ?_, fun i h1 h2 => by omega⟩, fun i h1 h2 => by omega⟩⟩
    · rw [a1]; exact (kp_in (tn_lt _)).mpr (by omega)
    · have : i = nwC σ := by omega
      rw [this, up_s]
      exact ⟨nn_nI (by omega), by rw [tn_nI (by omega)]; omega⟩
  · rintro As σ ⟨rfl, hp⟩ n pc ls st τ hI
    obtain ⟨ha, hc, hx⟩ := hp
    obtain ⟨a1, a2, a3, a4, a5, a6⟩ := id ha
    have en : nwC σ = tn (σ 23 2) := rfl
    have eo : noC σ = tn (σ 23 4) := rfl
    obtain ⟨rfl, hAs, hfr, hI⟩ := hI
    clear hAs
    have q2 : τ 2 = σ 2 := hfr 2 (by decide)
    have q3 : τ 3 = σ 3 := hfr 3 (by decide)
    have q19 : τ 19 = σ 19 := hfr 19 (by decide)
    have q20 : τ 20 = σ 20 := hfr 20 (by decide)
    have q21 : τ 21 = σ 21 := hfr 21 (by decide)
    have q22 : τ 22 = σ 22 := hfr 22 (by decide)
    have q23 : τ 23 = σ 23 := hfr 23 (by decide)
    have q24 : τ 24 = σ 24 := hfr 24 (by decide)
    have q25 : τ 25 = σ 25 := hfr 25 (by decide)
    have q26 : τ 26 = σ 26 := hfr 26 (by decide)
    rcases hI with ⟨rfl, k, o4, o5, hk, rfl, rfl, hP, hL, hM⟩ | ⟨rfl, i, lv, s, hi, hs, rfl, rfl, hP, hL, hM, hrow, hlv, hmin⟩ | ⟨rfl, i, lv, j, hi, hj, rfl, rfl, hP, hL, hM, hrow⟩
    · refine v_X0_prepare_17 _ o4 o5 τ ?_
      by_cases k0 : k = 0
      · subst k0
        refine ⟨fun _ => ⟨hfr, hP, hL, hM⟩, fun z => absurd (show (nI 0 - nI 1 : Int32) < nI 0 by decide) z⟩
      · rw [pk_sub (show 1 ≤ k by omega), nI_ltI (by omega) (by omega)]
        refine ⟨fun z => by omega, fun _ => ⟨1000 * (k - 1 + 1) + 500 + (noC σ - 0), by omega, rfl, rfl, hfr, Or.inr (Or.inl ⟨rfl, k - 1, 0, 0, by omega, by omega, rfl, rfl, ?_, ?_, ?_, fun s' h => by omega, by omega, fun s' h => by omega⟩)⟩⟩
        · rw [show k - 1 + 1 = k by omega]; exact hP
        · rw [show k - 1 + 1 = k by omega]; exact hL
        · rw [show k - 1 + 1 = k by omega]; exact hM
    · refine v_X0_prepare_27 _ _ _ τ ?_
      rw [q23, q24, q26, (nn_lt a3 (show s < 2 ^ 31 by omega)).1, nI_clamp (show i < 2 ^ 31 by omega), nI_clamp (show s < 2 ^ 31 by omega), show nI i + nI 1 = nI (i + 1) from nI_add _ _, nI_clamp (show i + 1 < 2 ^ 31 by omega), show nI s + nI 1 = nI (s + 1) from nI_add _ _]
      obtain ⟨l1, l2, l3⟩ := id hL
      refine ⟨fun g => ⟨(kp_in (by omega)).mpr (by omega), (kp_in (by omega)).mpr (by omega), 1000 * (i + 1) + (i - 0), by omega, rfl, rfl, fr_up hfr (by decide), Or.inr (Or.inr ⟨rfl, i, lv, 0, hi, by omega, rfl, rfl, ?_, ?_, ?_, fun j' h => by omega⟩)⟩, fun g => ⟨⟨(kp_in (by omega)).mpr (by omega), rfl⟩, ?_⟩⟩
      · intro i' h1 h2 s' h3
        rw [up_c (by omega)]
        by_cases e : i' = i
        · subst e; exact hrow s' (by omega)
        · exact hP i' (by omega) h2 s' h3
      · obtain ⟨m1, m2⟩ := l2 (i + 1) (by omega) (by omega)
        have ev : τ 36 (i + 1) + nI lv = nI (tn (τ 36 (i + 1)) + lv) := by rw [← nI_add, ← m1]
        rw [ev]
        refine ⟨by rw [up_n (by omega)]; exact l1, fun i' h1 h2 => ?_, fun i' h1 h2 s' h3 => ?_⟩
        · by_cases e : i' = i
          · subst e
            rw [up_s, tn_nI (by omega)]
            exact ⟨nn_nI (by omega), by omega⟩
          · rw [up_n e]; exact l2 i' (by omega) h2
        · by_cases e : i' = i
          · subst e
            rw [up_s, up_n (by omega), tn_nI (by omega)]
            have := hmin s' (by omega)
            omega
          · rw [up_n e, up_n (by omega)]; exact l3 i' (by omega) h2 s' h3
      · intro i' h1 h2 j' h3
        rw [up_c (by omega)]; exact hM i' h1 h2 j' h3
      · intro q1 hq
        obtain ⟨rfl, -⟩ := kp_arr_row (i := i) (q := q1) (f := fun _ _ => True) (by omega) hq
        obtain ⟨w1, w2, -, -⟩ := a5 i hi
        obtain ⟨o1, o2, o3⟩ := a6 s g
        refine ⟨(kp_in (by omega)).mpr (by omega), (kp_in (by omega)).mpr (by omega), ⟨_, _, rfl, by rw [q19, q20, q21, q22]; exact hc, tn (σ 24 i), tn (σ 26 s), w1, w2, o1, o2, o3⟩, ?_⟩
        rintro x3 τ2 ⟨rfl, rfl⟩
        rw [q19, q20, q21, q22]
        have hpl := prc_le hc w2 o2 o3
        have hgo : ∀ lv' : Nat, lv' ≤ 110000 → (∀ s', s' < s + 1 → lv' ≤ PT σ i s') → ∃ n', n' < 1000 * (i + 1) + 500 + (noC σ - s) ∧ iv_X0_prepare [.ref 23, .ref 18, .ref 2] σ n' 27 [some (.ref 23), some (.ref 18), some (.ref 2), some (.int (nI i)), some (.int (nI lv')), some (.int (nI (s + 1)))] [] (kp_up τ2 (30 + i) s (nI (PT σ i s))) := by
          intro lv' h1 h2
          refine ⟨1000 * (i + 1) + 500 + (noC σ - (s + 1)), by omega, rfl, rfl, fr_up hfr (pp_mem (by omega)), Or.inr (Or.inl ⟨rfl, i, lv', s + 1, hi, by omega, rfl, rfl, ?_, ?_, ?_, ?_, h1, h2⟩)⟩
          · intro i' b1 b2 s' b3
            rw [up_c (by omega)]; exact hP i' b1 b2 s' b3
          · unfold ppL
            rw [up_c (by omega)]; exact hL
          · intro i' b1 b2 j' b3
            rw [up_c (by omega)]; exact hM i' b1 b2 j' b3
          · intro s' b1
            by_cases e : s' = s
            · subst e; rw [up_s]
            · rw [up_n e]; exact hrow s' (by omega)
        refine (kp_arr_row (i := i) (by omega) hq).2.mpr ⟨(kp_in (by omega)).mpr (by omega), ?_⟩
        rw [nI_eq (by omega) (by omega)]
        refine ⟨fun s0 => ⟨⟨(kp_in (by omega)).mpr (by omega), rfl⟩, fun q5 hq5 => ?_⟩, fun s0 => ⟨⟨(kp_in (by omega)).mpr (by omega), rfl⟩, fun q9 hq9 => ?_⟩⟩
        · obtain ⟨rfl, -⟩ := kp_arr_row (i := i) (q := q5) (f := fun _ _ => True) (by omega) hq5
          refine (kp_arr_row (i := i) (by omega) hq5).2.mpr ⟨(kp_in (by omega)).mpr (by omega), ⟨_, _, rfl⟩, ?_⟩
          rw [up_s]
          rintro x8 τ7 ⟨rfl, rfl⟩
          have hlt := nI_ltI (a := PT σ i s) (b := lv) (by have : PT σ i s ≤ 110000 := hpl; omega) (by omega)
          by_cases hb : PT σ i s < lv
          · rw [if_pos (hlt.mpr hb)]
            refine hgo (PT σ i s) hpl (fun s' h => ?_)
            by_cases e : s' = s
            · subst e; exact Nat.le_refl _
            · have := hmin s' (by omega); omega
          · rw [if_neg (fun z => hb (hlt.mp z))]
            refine hgo _ hlv (fun s' h => ?_)
            by_cases e : s' = s
            · subst e; omega
            · exact hmin s' (by omega)
        · obtain ⟨rfl, -⟩ := kp_arr_row (i := i) (q := q9) (f := fun _ _ => True) (by omega) hq9
          refine (kp_arr_row (i := i) (by omega) hq9).2.mpr ⟨(kp_in (by omega)).mpr (by omega), ?_⟩
          rw [up_s]
          refine hgo (PT σ i s) hpl (fun s' h => ?_)
          have : s' = s := by omega
          subst this; exact Nat.le_refl _
    · refine v_X0_prepare_121 _ _ _ τ ?_
      rw [q25, nI_ltI (by omega) (by omega), nI_clamp (show i < 2 ^ 31 by omega), nI_clamp (show j < 2 ^ 31 by omega), show nI j + nI 1 = nI (j + 1) from nI_add _ _, pk_mul, nI_add, nI_clamp (show i * 6 + j < 2 ^ 31 by omega)]
      refine ⟨fun g => ⟨1000 * i + 999, by omega, rfl, rfl, hfr, Or.inl ⟨rfl, i, some (.int (nI lv)), some (.int (nI j)), by omega, rfl, by rw [im1], hP, hL, fun i' h1 h2 j' h3 => ?_⟩⟩, fun g => ⟨(kp_in (by omega)).mpr (by omega), (kp_in (by omega)).mpr (by omega), ?_⟩⟩
      · by_cases e : i' = i
        · subst e; exact hrow j' (by omega)
        · exact hM i' (by omega) h2 j' h3
      · obtain ⟨-, -, w3, w4⟩ := a5 i hi
        obtain ⟨-, -, v3, v4⟩ := a5 j (by omega)
        refine ⟨⟨_, _, rfl, by rw [q2, q3]; exact hx, tn (σ 25 i), tn (σ 25 j), w3, v3, by rw [q2]; exact w4, by rw [q2]; exact v4⟩, ?_⟩
        rintro x2 τ1 ⟨rfl, rfl⟩
        rw [q3]
        refine ⟨(kp_in (by omega)).mpr (by omega), bI_01 _, 1000 * (i + 1) + (i - (j + 1)), by omega, rfl, rfl, fr_up hfr (by decide), Or.inr (Or.inr ⟨rfl, i, lv, j + 1, hi, by omega, rfl, rfl, ?_, ?_, ?_, ?_⟩)⟩
        · intro i' b1 b2 s' b3
          rw [up_c (by omega)]; exact hP i' b1 b2 s' b3
        · unfold ppL
          rw [up_c (by decide)]; exact hL
        · intro i' b1 b2 j' b3
          rw [up_n (by omega)]; exact hM i' b1 b2 j' b3
        · intro j' b1
          by_cases e : j' = j
          · subst e; rw [up_s]
          · rw [up_n (by omega)]; exact hrow j' (by omega)
end
section
/-! the cheapest assignment: KeyPlan$Assigning.solve, brokenHabits, bestKey -/
abbrev RS (σ : Sg) : BS := gv (nwC σ) (noC σ) (PT σ) (MT σ) (ofC σ) (nwC σ) 0 0 (fun _ => 0) none
def bsR (nw no : Nat) (of : Nat → Nat) (b : BS) : Prop := ∀ v l, b = some (v, l) → l.length = nw ∧ ∀ x ∈ l, ∃ s, s < no ∧ x = of s
theorem vcT_R {nw no : Nat} {of tr : Nat → Nat} (ht : ∀ j, j < nw → tr j < no) : (vcT nw of tr).length = nw ∧ ∀ x ∈ vcT nw of tr, ∃ s, s < no ∧ x = of s := by
  unfold vcT
  refine ⟨by simp, fun x hx => ?_⟩
  obtain ⟨j, hj, rfl⟩ := List.mem_map.mp hx
  exact ⟨tr j, ht j (List.mem_range.mp hj), rfl⟩
theorem gvL_R {stp : Nat → BS → BS} {nw no : Nat} {of : Nat → Nat} : ∀ (k s : Nat) (b : BS), s + k ≤ no → bsR nw no of b → (∀ t, t < no → ∀ x, bsR nw no of x → bsR nw no of (stp t x)) → bsR nw no of (gvL stp k s b)
  | 0, _, _, _, h, _ => h
  | k + 1, s, b, hs, h, e => gvL_R k (s + 1) _ (by omega) (e s (by omega) b h) e
theorem gv_R {nw no : Nat} {P : Nat → Nat → Nat} {mt : Nat → Nat → Bool} {of : Nat → Nat} : ∀ (f i sum : Nat) (tr : Nat → Nat) (b : BS), i + f = nw → (∀ j, j < i → tr j < no) → bsR nw no of b → bsR nw no of (gv nw no P mt of f i sum tr b)
  | 0, i, sum, tr, b, h, ht, hb => by
    intro v l e
    have hv := vcT_R (nw := nw) (no := no) (of := of) (tr := tr) (fun j hj => ht j (by omega))
    cases b with
    | none =>
      cases e
      exact hv
    | some q =>
      have e : (if sum < q.1 then some (sum, vcT nw of tr) else some q) = some (v, l) := e
      by_cases hq : sum < q.1
      · rw [if_pos hq] at e; cases e; exact hv
      · rw [if_neg hq] at e; exact hb v l e
  | f + 1, i, sum, tr, b, h, ht, hb => by
    rw [gv_s]
    refine gvL_R (no := no) no 0 b (by omega) hb (fun s hs x hx => ?_)
    unfold gvS
    split
    · refine gv_R f (i + 1) _ _ x (by omega) (fun j hj => ?_) hx
      unfold updN
      split
      · exact hs
      · exact ht j (by omega)
    · exact hx
theorem RS_R (σ : Sg) : bsR (nwC σ) (noC σ) (ofC σ) (RS σ) := gv_R _ 0 0 _ _ (by omega) (fun j hj => by omega) (fun v l e => by cases e)
theorem tn_pos {x : Int32} (h : 1 ≤ tn x) : nn x := by
  unfold nn
  refine (nI_tn ?_).symm
  intro hx
  unfold tn Int32.toNatClampNeg at h
  rw [lt_I, nI_toInt (by omega)] at hx
  omega
/-- the assignment that is held is the cheapest one -/
def slv (σ : Sg) : Prop := (σ 23 6 = -1 ∨ nn (σ 23 6)) ∧ bsC σ = RS σ
theorem slv_strokes {σ : Sg} (ha : asOK σ) (h : slv σ) (h6 : σ 23 6 ≠ -1) : ∀ i, i < nwC σ → nn (σ 27 i) ∧ 1 ≤ tn (σ 27 i) ∧ tn (σ 27 i) ≤ 240 := by
  intro i hi
  have hr := RS_R σ
  rw [← h.2] at hr
  unfold bsC at hr
  rw [if_neg h6] at hr
  obtain ⟨-, h2⟩ := hr _ _ rfl
  obtain ⟨s, hs, e⟩ := h2 (tn (σ 27 i)) (List.mem_map.mpr ⟨i, List.mem_range.mpr hi, rfl⟩)
  obtain ⟨-, o2, o3⟩ := ha.2.2.2.2.2 s hs
  have e : tn (σ 27 i) = tn (σ 26 s) := e
  exact ⟨tn_pos (by omega), by omega, by omega⟩
abbrev svF : List Nat := [23, 27, 28, 30, 31, 32, 33, 34, 35, 36, 37]
def pr_X0_solve : SPre := fun As σ => As = [.ref 23, .ref 18, .ref 2] ∧ (asOK σ ∧ cstC σ ∧ ctxOK (σ 3) (σ 2 1) ∧ (σ 23 5 = nI 0 ∨ slv σ))
def po_X0_solve : SPost := fun As σ r τ => match As with
  | [.ref _, .ref _, .ref _] => (fr svF σ τ ∧ (∀ k, k ≠ 5 → k ≠ 6 → τ 23 k = σ 23 k) ∧ (τ 23 5 = nI 1 ∨ τ 23 5 = σ 23 5) ∧ ¬ τ 23 5 = nI 0 ∧ asOK τ ∧ RS τ = RS σ ∧ slv τ)
  | _ => True
def ms_X0_solve : List Me := [(60, 0, 0, 2, false, pr_X0_prepare, po_X0_prepare), (64, 0, 0, 2, false, (pr_X0_giveFrom 7), po_X0_giveFrom)]
theorem mk_X0_solve : ∀ q ∈ ms_X0_solve, kp_okM layC RX0 10 q := List.forall_mem_cons.mpr ⟨Or.inl ⟨4, yX0_prepare, cX0_prepare, 6, none, c_X0_prepare, by omega, by decide, rfl, lk_X0_60⟩, List.forall_mem_cons.mpr ⟨Or.inl ⟨7, yX0_giveFrom, cX0_giveFrom, 6, none, (cc_giveFrom 7), by omega, by decide, rfl, lk_X0_64⟩, fun _ h => absurd h List.not_mem_nil⟩⟩
set_option maxRecDepth 100000 in
theorem v_X0_solve {J : Nat → Lcl → List Value → Sg → Prop} {Q : Int32 → Sg → Prop}  (σ : Sg) (h : ((σ 23 5) = (nI 0) → pr_X0_prepare [.ref 23, .ref 18, .ref 2] σ ∧ ∀ (τ1 : Sg), po_X0_prepare [.ref 23, .ref 18, .ref 2] σ (nI 0) τ1 → ((pr_X0_giveFrom 7) [.ref 23, .int (nI 0), .int (nI 0)] (kp_up τ1 23 6 (-1)) ∧ ∀ (τ2 : Sg), po_X0_giveFrom [.ref 23, .int (nI 0), .int (nI 0)] (kp_up τ1 23 6 (-1)) (nI 0) τ2 → (((nI 1) = nI 0 ∨ (nI 1) = nI 1) ∧ (Q (nI 0) (kp_up τ2 23 5 (nI 1)))))) ∧ (¬ (σ 23 5) = (nI 0) → Q (nI 0) σ)) : kp_T layC gl_X0 pl_X0 (ms_X0_solve) tb_X0_solve (kp_rk none) J Q 30 tb_X0_solve (kp_en [.ref 23, .ref 18, .ref 2] 3) [] σ := h
set_option maxRecDepth 100000 in
set_option maxHeartbeats 4000000 in
theorem c_X0_solve : kp_Met layC 10 yX0_solve cX0_solve 3 none (pr_X0_solve) (po_X0_solve) := by
  refine kp_met (N := 30) (by decide) tk_X0_solve gk_X0 pk_X0 (mk_X0_solve) rfl (fun _ _ _ _ _ _ _ => False) ?_ (fun _ _ _ _ _ _ _ _ h => h.elim)
  rintro As σ ⟨rfl, hp⟩
  refine ⟨⟨rfl, Nat.le_of_ble_eq_true rfl⟩, v_X0_solve σ ?_⟩
  obtain ⟨ha, hc, hx, hsl⟩ := hp
  obtain ⟨a1, a2, a3, a4, a5, a6⟩ := id ha
  have en : nwC σ = tn (σ 23 2) := rfl
  refine ⟨fun g => ⟨⟨rfl, ha, hc, hx⟩, ?_⟩, fun g => ⟨fr_rf, fun _ _ _ => rfl, Or.inr rfl, g, ha, rfl, hsl.resolve_left g⟩⟩
  rintro τ1 ⟨f1, hP, hL, hM⟩
  obtain ⟨l1, l2, l3⟩ := id hL
  have q2 : τ1 2 = σ 2 := f1 2 (by decide)
  have q23 : τ1 23 = σ 23 := f1 23 (by decide)
  have q24 : τ1 24 = σ 24 := f1 24 (by decide)
  have q25 : τ1 25 = σ 25 := f1 25 (by decide)
  have q26 : τ1 26 = σ 26 := f1 26 (by decide)
  have r23 : ∀ k, k ≠ 6 → kp_up τ1 23 6 (-1) 23 k = σ 23 k := fun k hk => by rw [up_n hk, q23]
  have rc : ∀ c, c ≠ 23 → kp_up τ1 23 6 (-1) c = τ1 c := fun c hc => up_c hc
  have enw : nwC (kp_up τ1 23 6 (-1)) = nwC σ := by unfold nwC; rw [r23 2 (by decide)]
  have eno : noC (kp_up τ1 23 6 (-1)) = noC σ := by unfold noC; rw [r23 4 (by decide)]
  have eP : ∀ i s, i < nwC σ → s < noC σ → pC (kp_up τ1 23 6 (-1)) i s = PT σ i s := fun i s hi hs => by
    show tn (kp_up τ1 23 6 (-1) (30 + i) s) = _
    rw [rc _ (by omega), hP i (by omega) hi s hs]
    have := prc_le hc (a5 i hi).2.1 (a6 s hs).2.1 (a6 s hs).2.2
    exact tn_nI (by have : PT σ i s ≤ 110000 := this; omega)
  have eL : LbC (kp_up τ1 23 6 (-1)) = fun i => tn (τ1 36 i) := by
    funext i
    show tn (kp_up τ1 23 6 (-1) 36 i) = _
    rw [rc 36 (by decide)]
  have ha2 : asOK (kp_up τ1 23 6 (-1)) := by
    unfold asOK
    rw [enw, eno, r23 2 (by decide), r23 4 (by decide), rc 24 (by decide), rc 25 (by decide), rc 26 (by decide), rc 2 (by decide), q2, q24, q25, q26]
    exact ha
  have hs2 : srOK (kp_up τ1 23 6 (-1)) := by
    unfold srOK
    rw [enw, eno, eL]
    refine ⟨fun i s hi hs => ?_, fun i hi => ?_, ?_, fun i s hi hs => ?_⟩
    · have := prc_le hc (a5 i hi).2.1 (a6 s hs).2.1 (a6 s hs).2.2
      rw [eP i s hi hs, rc _ (by omega), hP i (by omega) hi s hs]
      exact ⟨nn_nI (by have : PT σ i s ≤ 110000 := this; omega), this⟩
    · rw [rc 36 (by decide)]
      obtain ⟨b1, b2⟩ := l2 i (by omega) hi
      exact ⟨b1, by show tn (τ1 36 i) ≤ 660000; omega⟩
    · show tn (τ1 36 (nwC σ)) = 0
      rw [l1]; rfl
    · rw [eP i s hi hs]; exact l3 i (by omega) hi s hs
  refine ⟨⟨_, _, rfl, ha2, hs2, 0, 0, rfl, rfl, by omega, by omega, by omega, fun j hj => by omega, Or.inl up_s⟩, ?_⟩
  rintro τ2 ⟨hK, hb⟩
  rw [tn_nI (by omega)] at hK hb
  obtain ⟨k1, k2, k3, k4⟩ := id hK
  obtain ⟨e1, e2, e3, e4, e5, e6⟩ := gfK_data hK
  have hfr : fr svF σ (kp_up τ2 23 5 (nI 1)) := fr_up (fr_tr (fr_up (fr_mono f1 (by decide)) (by decide)) (fr_mono k1 (by decide))) (by decide)
  have h23 : ∀ k, k ≠ 5 → k ≠ 6 → kp_up τ2 23 5 (nI 1) 23 k = σ 23 k := fun k h5 h6 => by rw [up_n h5, k2 k h6, r23 k h6]
  have hnw : nwC (kp_up τ2 23 5 (nI 1)) = nwC σ := by unfold nwC; rw [h23 2 (by decide) (by decide)]
  have hno : noC (kp_up τ2 23 5 (nI 1)) = noC σ := by unfold noC; rw [h23 4 (by decide) (by decide)]
  have ha3 : asOK (kp_up τ2 23 5 (nI 1)) := by
    unfold asOK
    rw [hnw, hno, h23 2 (by decide) (by decide), h23 4 (by decide) (by decide), hfr 24 (by decide), hfr 25 (by decide), hfr 26 (by decide), hfr 2 (by decide)]
    exact ha
  have hRS : RS (kp_up τ2 23 5 (nI 1)) = RS σ := by
    unfold RS PT MT ofC
    rw [hnw, hno, hfr 24 (by decide), hfr 25 (by decide), hfr 26 (by decide), hfr 19 (by decide), hfr 20 (by decide), hfr 21 (by decide), hfr 22 (by decide), hfr 3 (by decide)]
  refine ⟨Or.inr rfl, hfr, h23, Or.inl up_s, by rw [up_s]; decide, ha3, hRS, ?_, ?_⟩
  · rw [up_n (by decide)]
    exact k4.imp id (fun z => z.1)
  · rw [hRS]
    have hbc : bsC (kp_up τ2 23 5 (nI 1)) = bsC τ2 := bsC_congr (by rw [up_n (by decide)]) (by rw [up_n (by decide)]) (by rw [up_c (by decide)])
    rw [hbc, hb]
    unfold gvC
    have hbn : bsC (kp_up τ1 23 6 (-1)) = none := by unfold bsC; rw [if_pos up_s]
    rw [hbn, enw, eno, Nat.sub_zero]
    refine gv_congr (fun i s hi hs => eP i s hi hs) (fun i j hi hj => ?_) (fun s hs => ?_) _ 0 _ _ _ _ (by omega) (fun j hj => by omega)
    · show decide (¬ kp_up τ1 23 6 (-1) 37 (i * 6 + j) = nI 0) = _
      rw [rc 37 (by decide), hM i (by omega) hi j hj]
      have := bI_0 (b := MT σ i j)
      cases hmt : MT σ i j with
      | false => exact decide_eq_false (fun z => z (bI_0.mpr rfl))
      | true => exact decide_eq_true (fun z => by have := bI_0.mp z; cases this)
    · show tn (kp_up τ1 23 6 (-1) 26 s) = tn (σ 26 s)
      rw [rc 26 (by decide), q26]
def bkN (f : Nat → Bool) : Nat → Nat
  | 0 => 0
  | n + 1 => bkN f n + (if f n = true then 1 else 0)
theorem bkN_le {f : Nat → Bool} : ∀ n, bkN f n ≤ n
  | 0 => Nat.le_refl _
  | n + 1 => by
    have := bkN_le (f := f) n
    rw [bkN]; split <;> omega
theorem bkN_congr {f g : Nat → Bool} : ∀ n, (∀ i, i < n → f i = g i) → bkN f n = bkN g n
  | 0, _ => rfl
  | n + 1, h => by rw [bkN, bkN, bkN_congr n (fun i hi => h i (by omega)), h n (by omega)]
abbrev bkC (σ : Sg) : Nat → Bool := fun i => brk (σ 21) (tn (σ 24 i)) (tn (σ 27 i))
def pr_X0_brokenHabits : SPre := fun As σ => As = [.ref 23, .ref 18] ∧ (asOK σ ∧ cstC σ ∧ (∀ i, i < nwC σ → nn (σ 27 i)))
def po_X0_brokenHabits : SPost := fun As σ r τ => match As with
  | [.ref _, .ref _] => (τ = σ ∧ r = nI (bkN (bkC σ) (nwC σ)))
  | _ => True
def ms_X0_brokenHabits : List Me := [(92, 0, 3, 2, true, pr_X3_breaksHabit, po_X3_breaksHabit)]
theorem mk_X0_brokenHabits : ∀ q ∈ ms_X0_brokenHabits, kp_okM layC RX0 1 q := List.forall_mem_cons.mpr ⟨Or.inl ⟨0, yX3_breaksHabit, cX3_breaksHabit, 3, (some .boolean), c_X3_breaksHabit, by omega, by decide, rfl, lk_X0_92⟩, fun _ h => absurd h List.not_mem_nil⟩
set_option maxRecDepth 100000 in
theorem v_X0_brokenHabits {J : Nat → Lcl → List Value → Sg → Prop} {Q : Int32 → Sg → Prop}  (σ : Sg) (h : J 4 [some (.ref 23), some (.ref 18), some (.int (nI 0)), some (.int (nI 0))] [] σ) : kp_T layC gl_X0 pl_X0 (ms_X0_brokenHabits) tb_X0_brokenHabits (kp_rk (some .int)) J Q 34 tb_X0_brokenHabits (kp_en [.ref 23, .ref 18] 4) [] σ := h
set_option maxRecDepth 100000 in
theorem v_X0_brokenHabits_4 {J : Nat → Lcl → List Value → Sg → Prop} {Q : Int32 → Sg → Prop} (b i : Int32) (σ : Sg) (h : (¬ i < (σ 23 2) → Q b σ) ∧ (i < (σ 23 2) → vp_in i 6 ∧ (vp_in i 6 ∧ (pr_X3_breaksHabit [.ref 18, .int (σ 24 (i).toNatClampNeg), .int (σ 27 (i).toNatClampNeg)] σ ∧ ∀ (x2 : Int32) (τ1 : Sg), po_X3_breaksHabit [.ref 18, .int (σ 24 (i).toNatClampNeg), .int (σ 27 (i).toNatClampNeg)] σ x2 τ1 → ((x2 = (nI 0) → J 4 [some (.ref 23), some (.ref 18), some (.int (b + (nI 0))), some (.int (i + nI 1))] [] τ1) ∧ (¬ x2 = (nI 0) → J 4 [some (.ref 23), some (.ref 18), some (.int (b + (nI 1))), some (.int (i + nI 1))] [] τ1)))))) : kp_T1 layC gl_X0 pl_X0 (ms_X0_brokenHabits) tb_X0_brokenHabits (kp_rk (some .int)) J Q 34 4 [some (.ref 23), some (.ref 18), some (.int b), some (.int i)] [] σ := h
abbrev iv_X0_brokenHabits : List Value → Sg → Nat → Nat → Lcl → List Value → Sg → Prop := fun As σ n pc ls st τ => pc = 4 ∧ st = [] ∧ τ = σ ∧ As = [.ref 23, .ref 18] ∧ ∃ i : Nat, i ≤ nwC σ ∧ n = nwC σ - i ∧ ls = [some (.ref 23), some (.ref 18), some (.int (nI (bkN (bkC σ) i))), some (.int (nI i))]
set_option maxRecDepth 100000 in
set_option maxHeartbeats 4000000 in
theorem c_X0_brokenHabits : kp_Met layC 1 yX0_brokenHabits cX0_brokenHabits 4 (some .int) (pr_X0_brokenHabits) (po_X0_brokenHabits) := by
  refine kp_met (N := 34) (by decide) tk_X0_brokenHabits gk_X0 pk_X0 (mk_X0_brokenHabits) rfl (iv_X0_brokenHabits) ?_ ?_
  · rintro As σ ⟨rfl, hp⟩
    refine ⟨⟨rfl, Nat.le_of_ble_eq_true rfl⟩, v_X0_brokenHabits σ ?_⟩
    exact ⟨nwC σ, rfl, rfl, rfl, rfl, 0, by omega, by omega, rfl⟩
  · rintro As σ ⟨rfl, hp⟩ n pc ls st τ hI
    obtain ⟨ha, hc, hn⟩ := hp
    obtain ⟨a1, a2, a3, a4, a5, a6⟩ := id ha
    obtain ⟨rfl, rfl, rfl, hAs, i, hi, rfl, rfl⟩ := hI
    clear hAs
    have en : nwC τ = tn (τ 23 2) := rfl
    have hle := bkN_le (f := bkC τ) i
    refine v_X0_brokenHabits_4 _ _ τ ?_
    rw [(nn_lt a1 (show i < 2 ^ 31 by omega)).1, nI_clamp (show i < 2 ^ 31 by omega), show nI i + nI 1 = nI (i + 1) from nI_add _ _]
    refine ⟨fun g => ⟨rfl, by rw [show nwC τ = i by omega]⟩, fun g => ⟨(kp_in (by omega)).mpr (by omega), (kp_in (by omega)).mpr (by omega), ⟨_, _, rfl, fun c h => (hc.2 c h).2.1.1, tn (τ 24 i), tn (τ 27 i), (a5 i g).1, (a5 i g).2.1, hn i g, tn_lt _⟩, ?_⟩⟩
    rintro x2 τ1 ⟨rfl, rfl⟩
    rw [bI_0]
    refine ⟨fun h => ⟨nwC τ1 - (i + 1), by omega, rfl, rfl, rfl, rfl, i + 1, by omega, rfl, ?_⟩, fun h => ⟨nwC τ1 - (i + 1), by omega, rfl, rfl, rfl, rfl, i + 1, by omega, rfl, ?_⟩⟩
    · rw [bkN, if_neg (by rw [show bkC τ1 i = false from h]; decide), nI_add]
    · rw [bkN, if_pos (show bkC τ1 i = true by simpa using h), nI_add]
def pr_X0_bestKey : SPre := fun As σ => ∃ i : Int32, As = [.ref 23, .int i] ∧ (∃ k : Nat, i = nI k ∧ k < 6 ∧ nn (σ 25 k) ∧ tn (σ 25 k) < 12 ∧ nn (σ 27 k) ∧ tn (σ 27 k) < 16777216)
def po_X0_bestKey : SPost := fun As σ r τ => match As with
  | [.ref _, .int i] => (τ = σ ∧ r = nI (tn (σ 25 (tn i)) * 16777216 + tn (σ 27 (tn i))))
  | _ => True
def ms_X0_bestKey : List Me := [(95, 1, 1, 2, true, pr_X1_key, po_X1_key)]
theorem mk_X0_bestKey : ∀ q ∈ ms_X0_bestKey, kp_okM layC RX0 1 q := List.forall_mem_cons.mpr ⟨Or.inl ⟨0, yX1_key, cX1_key, 2, (some .int), c_X1_key, by omega, by decide, rfl, lk_X0_95⟩, fun _ h => absurd h List.not_mem_nil⟩
set_option maxRecDepth 100000 in
theorem v_X0_bestKey {J : Nat → Lcl → List Value → Sg → Prop} {Q : Int32 → Sg → Prop} (i : Int32) (σ : Sg) (h : vp_in i 6 ∧ (vp_in i 6 ∧ (pr_X1_key [.int (σ 25 (i).toNatClampNeg), .int (σ 27 (i).toNatClampNeg)] σ ∧ ∀ (x2 : Int32) (τ1 : Sg), po_X1_key [.int (σ 25 (i).toNatClampNeg), .int (σ 27 (i).toNatClampNeg)] σ x2 τ1 → (Q x2 τ1)))) : kp_T layC gl_X0 pl_X0 (ms_X0_bestKey) tb_X0_bestKey (kp_rk (some .int)) J Q 30 tb_X0_bestKey (kp_en [.ref 23, .int i] 2) [] σ := h
set_option maxRecDepth 100000 in
set_option maxHeartbeats 4000000 in
theorem c_X0_bestKey : kp_Met layC 1 yX0_bestKey cX0_bestKey 2 (some .int) (pr_X0_bestKey) (po_X0_bestKey) := by
  refine kp_met (N := 30) (by decide) tk_X0_bestKey gk_X0 pk_X0 (mk_X0_bestKey) rfl (fun _ _ _ _ _ _ _ => False) ?_ (fun _ _ _ _ _ _ _ _ h => h.elim)
  rintro As σ ⟨i, rfl, hp⟩
  refine ⟨⟨rfl, Nat.le_of_ble_eq_true rfl⟩, v_X0_bestKey i σ ?_⟩
  obtain ⟨k, rfl, hk, h1, h2, h3, h4⟩ := hp
  rw [nI_clamp (show k < 2 ^ 31 by omega)]
  refine ⟨(kp_in (by omega)).mpr hk, (kp_in (by omega)).mpr hk, ⟨_, _, rfl, tn (σ 25 k), tn (σ 27 k), h1, h2, h3, h4⟩, ?_⟩
  rintro x2 τ1 ⟨rfl, rfl⟩
  exact ⟨rfl, by rw [tn_nI (show k < 2 ^ 31 by omega)]⟩
end
section
/-! KeyPlan's own methods: contexts, map, fights, typing, costs, lists -/
def inR (x lo hi : Int32) : Bool := !decide (x < lo) && !decide (hi < x)
theorem inR_iff {x lo hi : Int32} : inR x lo hi = true ↔ ¬ x < lo ∧ ¬ hi < x := by
  unfold inR
  rw [Bool.and_eq_true]
  simp
theorem isSt_inR (x : Int32) : isSt x = inR x (nI 1) (nI 240) := rfl
theorem inR_nat {x : Int32} {a b : Nat} (ha : a < 2 ^ 31) (hb : b < 2 ^ 31) (h : inR x (nI a) (nI b) = true) : nn x ∧ a ≤ tn x ∧ tn x ≤ b := by
  obtain ⟨h1, h2⟩ := inR_iff.mp h
  have h0 : ¬ x < nI 0 := by
    rw [lt_I, nI_toInt ha] at h1
    rw [lt_I, nI_toInt (by omega)]
    omega
  have hn : nn x := (nI_tn h0).symm
  rw [(nn_lt hn ha).2] at h1
  rw [(nn_lt hn hb).1] at h2
  exact ⟨hn, by omega, by omega⟩
def InvC (σ : Sg) : Prop := LI σ ∧ bOK (σ 8) (σ 9) (σ 7 2) ∧ tyOK σ ∧ rlen (tn (σ 15 7)) ≤ 2 ∧ cstC σ ∧ asOK σ ∧ (σ 23 5 = nI 0 ∨ slv σ)
abbrev invR : List Nat := [2, 3, 4, 5, 6, 7, 8, 9, 15, 19, 20, 21, 22, 23, 24, 25, 26, 27]
theorem InvC_fr {l : List Nat} {σ τ : Sg} (h : InvC σ) (hf : fr l σ τ) (hl : ∀ c ∈ invR, c ∉ l) : InvC τ := by
  have q : ∀ c ∈ invR, τ c = σ c := fun c hc => hf c (hl c hc)
  unfold InvC LI tyOK cstC asOK slv bsC RS PT MT ofC nwC noC at *
  rw [q 2 (by decide), q 3 (by decide), q 4 (by decide), q 5 (by decide), q 6 (by decide), q 7 (by decide), q 8 (by decide), q 9 (by decide), q 15 (by decide), q 19 (by decide), q 20 (by decide), q 21 (by decide), q 22 (by decide), q 23 (by decide), q 24 (by decide), q 25 (by decide), q 26 (by decide), q 27 (by decide)]
  exact h
theorem wthn_congr {o o' : Nat → Int32} {nn : Int32} (h : ctxOK o nn) (ho : ∀ c, c < tn nn → o' c = o c) : ∀ (f c d : Nat), c < tn nn → wthn o' f c d = wthn o f c d
  | 0, _, _, _ => rfl
  | f + 1, c, d, hc => by
    rw [wthn_s, wthn_s, ho c hc]
    obtain ⟨n, rfl, hn1, hn2, h3, h4⟩ := id h
    rw [tn_nI (by omega)] at hc
    by_cases h0 : c = 0
    · subst h0; rw [h3, if_pos rfl, if_pos rfl]
    · obtain ⟨p, hp, he⟩ := h4 c (by omega) hc
      rw [he, tn_nI (by omega), wthn_congr h ho f p d (by rw [tn_nI (by omega)]; omega)]
theorem meets_congr {o o' : Nat → Int32} {nn : Int32} (h : ctxOK o nn) (ho : ∀ c, c < tn nn → o' c = o c) {c d : Nat} (hc : c < tn nn) (hd : d < tn nn) : meets o' c d = meets o c d := by
  unfold meets
  rw [wthn_congr h ho 12 c d hc, wthn_congr h ho 12 d c hd]
def pr_X9_context : SPre := fun As σ => ∃ x : Int32, As = [.ref 0, .int x] ∧ (InvC σ)
def po_X9_context : SPost := fun As σ r τ => match As with
  | [.ref _, .int x] => (InvC τ ∧ (isCx (σ 2 1) x = true ∧ σ 2 1 < nI 12 → τ = kp_up (kp_up σ 3 (tn (σ 2 1)) x) 2 1 (σ 2 1 + nI 1) ∧ r = σ 2 1) ∧ (¬ (isCx (σ 2 1) x = true ∧ σ 2 1 < nI 12) → τ = σ ∧ r = -1))
  | _ => True
def ms_X9_context : List Me := [(66, 0, 2, 1, true, pr_X2_add, po_X2_add)]
theorem mk_X9_context : ∀ q ∈ ms_X9_context, kp_okM layC RX9 2 q := List.forall_mem_cons.mpr ⟨Or.inl ⟨1, yX2_add, cX2_add, 2, (some .int), c_X2_add, by omega, by decide, rfl, lk_X9_66⟩, fun _ h => absurd h List.not_mem_nil⟩
set_option maxRecDepth 100000 in
theorem v_X9_context {J : Nat → Lcl → List Value → Sg → Prop} {Q : Int32 → Sg → Prop} (x : Int32) (σ : Sg) (h : pr_X2_add [.ref 2, .int x] σ ∧ ∀ (x2 : Int32) (τ1 : Sg), po_X2_add [.ref 2, .int x] σ x2 τ1 → (Q x2 τ1)) : kp_T layC gl_X9 pl_X9 (ms_X9_context) tb_X9_context (kp_rk (some .int)) J Q 30 tb_X9_context (kp_en [.ref 0, .int x] 2) [] σ := h
set_option maxRecDepth 100000 in
set_option maxHeartbeats 4000000 in
theorem c_X9_context : kp_Met layC 2 yX9_context cX9_context 2 (some .int) (pr_X9_context) (po_X9_context) := by
  refine kp_met (N := 30) (by decide) tk_X9_context gk_X9 pk_X9 (mk_X9_context) rfl (fun _ _ _ _ _ _ _ => False) ?_ (fun _ _ _ _ _ _ _ _ h => h.elim)
  rintro As σ ⟨x, rfl, hp⟩
  refine ⟨⟨rfl, Nat.le_of_ble_eq_true rfl⟩, v_X9_context x σ ?_⟩
  obtain ⟨⟨hcx, hbo⟩, hkb, hty, hrl, hco, has, hsl⟩ := id hp
  refine ⟨⟨_, rfl, hcx⟩, ?_⟩
  rintro x2 τ1 ⟨h1, h2⟩
  refine ⟨?_, h1, h2⟩
  by_cases hc : isCx (σ 2 1) x = true ∧ σ 2 1 < nI 12
  · obtain ⟨rfl, -⟩ := h1 hc
    obtain ⟨n, hn, n1, n2, n3, n4⟩ := id hcx
    have en : tn (σ 2 1) = n := by rw [hn, tn_nI (by omega)]
    have hlt : n < 12 := by have := hc.2; rw [hn, nI_ltI (by omega) (by omega)] at this; exact this
    rw [hn] at hc
    obtain ⟨p, hp1, rfl⟩ := (isCx_iff (by omega)).mp hc.1
    rw [en, hn, nI_add]
    have q : ∀ c, c ≠ 2 → c ≠ 3 → kp_up (kp_up σ 3 n (nI p)) 2 1 (nI (n + 1)) c = σ c := fun c h2 h3 => by rw [up_c h2, up_c h3]
    have q2 : kp_up (kp_up σ 3 n (nI p)) 2 1 (nI (n + 1)) 2 1 = nI (n + 1) := up_s
    have q3 : kp_up (kp_up σ 3 n (nI p)) 2 1 (nI (n + 1)) 3 = upd (σ 3) n (nI p) := by rw [up_c (by decide), kp_up_eq]
    have e2 : tn (nI (n + 1)) = n + 1 := tn_nI (by omega)
    have hold : ∀ c, c < tn (σ 2 1) → upd (σ 3) n (nI p) c = σ 3 c := fun c hc => pk_un (by omega)
    refine ⟨⟨?_, ?_⟩, ?_, ?_, ?_, ?_, ?_, ?_⟩
    · rw [q2, q3]
      refine ⟨n + 1, rfl, by omega, by omega, by rw [pk_un (by omega)]; exact n3, fun c h1 h2 => ?_⟩
      by_cases e : c = n
      · subst e; exact ⟨p, hp1, pk_us⟩
      · rw [pk_un e]; exact n4 c h1 (by omega)
    · rw [q 4 (by decide) (by decide), q 5 (by decide) (by decide), q 6 (by decide) (by decide)]; exact hbo
    · rw [q 7 (by decide) (by decide), q 8 (by decide) (by decide), q 9 (by decide) (by decide)]; exact hkb
    · unfold tyOK
      rw [q 15 (by decide) (by decide), q2, e2]
      obtain ⟨t1, t2, t3, t4, t5, t6, t7⟩ := hty
      exact ⟨t1, t2, t3, t4, t5, by omega, t7⟩
    · rw [q 15 (by decide) (by decide)]; exact hrl
    · unfold cstC
      rw [q 19 (by decide) (by decide), q 20 (by decide) (by decide), q 21 (by decide) (by decide), q 22 (by decide) (by decide)]; exact hco
    · unfold asOK nwC noC
      rw [q 23 (by decide) (by decide), q 24 (by decide) (by decide), q 25 (by decide) (by decide), q 26 (by decide) (by decide), q2, e2]
      obtain ⟨s1, s2, s3, s4, s5, s6⟩ := has
      exact ⟨s1, s2, s3, s4, fun i hi => ⟨(s5 i hi).1, (s5 i hi).2.1, (s5 i hi).2.2.1, by have := (s5 i hi).2.2.2; omega⟩, s6⟩
    · refine hsl.imp (fun z => by rw [q 23 (by decide) (by decide)]; exact z) (fun z => ⟨by rw [q 23 (by decide) (by decide)]; exact z.1, ?_⟩)
      have e1 : bsC (kp_up (kp_up σ 3 n (nI p)) 2 1 (nI (n + 1))) = bsC σ := bsC_congr (by rw [q 23 (by decide) (by decide)]) (by rw [q 23 (by decide) (by decide)]) (q 27 (by decide) (by decide))
      rw [e1, z.2]
      unfold RS nwC noC PT MT ofC
      rw [q 23 (by decide) (by decide), q 24 (by decide) (by decide), q 25 (by decide) (by decide), q 26 (by decide) (by decide), q 19 (by decide) (by decide), q 20 (by decide) (by decide), q 21 (by decide) (by decide), q 22 (by decide) (by decide), q3]
      obtain ⟨s1, s2, s3, s4, s5, s6⟩ := has
      refine gv_congr (fun _ _ _ _ => rfl) (fun i j hi hj => ?_) (fun _ _ => rfl) _ 0 _ _ _ _ (by omega) (fun j hj => by omega)
      exact (meets_congr hcx hold (s5 i hi).2.2.2 (s5 j (by show j < tn (σ 23 2); have : i < tn (σ 23 2) := hi; omega)).2.2.2).symm
  · obtain ⟨rfl, -⟩ := h2 hc
    exact hp
abbrev kyC (c r : Int32) : Nat := tn c * 16777216 + tn r
theorem cx_row {σ : Sg} (hcx : ctxOK (σ 3) (σ 2 1)) {c r : Int32} (h1 : isCx (σ 2 1) c = true) (h2 : isRw r = true) : (∃ a b : Nat, c = nI a ∧ a < 12 ∧ a < tn (σ 2 1) ∧ r = nI b ∧ rowOK b = true ∧ b < 16777216 ∧ tn c = a ∧ tn r = b ∧ keyOK (kyC c r)) := by
  obtain ⟨n, hn, n1, n2, -, -⟩ := hcx
  rw [hn] at h1
  obtain ⟨a, ha, rfl⟩ := (isCx_iff (by omega)).mp h1
  obtain ⟨b, rfl, hb⟩ := isRw_spec h2
  have hlt := rowOK_lt hb
  have e1 : tn (nI a) = a := tn_nI (by omega)
  have e2 : tn (nI b) = b := tn_nI (by omega)
  refine ⟨a, b, rfl, by omega, by rw [hn, tn_nI (by omega)]; exact ha, rfl, hb, hlt, e1, e2, ?_⟩
  unfold kyC keyOK
  rw [e1, e2]
  exact ⟨by omega, by rw [(key_div hlt).2]; exact hb⟩
def okB (σ : Sg) (c r m : Int32) : Prop := isCx (σ 2 1) c = true ∧ isRw r = true ∧ inR m (-1) (nI 40) = true ∧ ¬ (m ≠ -1 ∧ mC σ (kyC c r) = -1 ∧ ¬ tn (σ 4 2) < 120)
theorem m1_val {m : Int32} (h : inR m (-1) (nI 40) = true) : m = -1 ∨ ∃ v : Nat, v ≤ 40 ∧ m = nI v := by
  obtain ⟨h1, h2⟩ := inR_iff.mp h
  rw [lt_I] at h1 h2
  rw [nI_toInt (by omega)] at h2
  have e : (-1 : Int32).toInt = -1 := by decide
  rw [e] at h1
  by_cases h0 : m.toInt = -1
  · exact Or.inl (eq_I.mpr (by rw [h0, e]))
  · refine Or.inr ⟨m.toInt.toNat, by omega, eq_I.mpr ?_⟩
    rw [nI_toInt (by omega)]; omega
def pr_X9_bind : SPre := fun As σ => ∃ c : Int32, ∃ row : Int32, ∃ m : Int32, As = [.ref 0, .int c, .int row, .int m] ∧ (InvC σ)
def po_X9_bind : SPost := fun As σ r τ => match As with
  | [.ref _, .int c, .int row, .int m] => (InvC τ ∧ fr [4, 5, 6] σ τ ∧ (okB σ c row m → r = mC σ (kyC c row) ∧ (∀ k, mC τ k = if k = kyC c row then m else mC σ k) ∧ tn (τ 4 2) = szp (tn (σ 4 2)) (mC σ (kyC c row)) m) ∧ (¬ okB σ c row m → τ = σ ∧ r = -2))
  | _ => True
def ms_X9_bind : List Me := [(72, 0, 2, 1, true, pr_X2_hold, po_X2_hold), (76, 1, 0, 1, true, pr_X7_isRow, po_X7_isRow), (81, 1, 1, 2, true, pr_X1_key, po_X1_key), (88, 0, 1, 1, true, pr_X1_at, po_X1_at), (95, 0, 1, 2, false, pr_X1_put, po_X1_put)]
theorem mk_X9_bind : ∀ q ∈ ms_X9_bind, kp_okM layC RX9 2 q := List.forall_mem_cons.mpr ⟨Or.inl ⟨0, yX2_hold, cX2_hold, 2, (some .boolean), c_X2_hold, by omega, by decide, rfl, lk_X9_72⟩, List.forall_mem_cons.mpr ⟨Or.inl ⟨1, yX7_isRow, cX7_isRow, 4, (some .boolean), c_X7_isRow, by omega, by decide, rfl, lk_X9_76⟩, List.forall_mem_cons.mpr ⟨Or.inl ⟨0, yX1_key, cX1_key, 2, (some .int), c_X1_key, by omega, by decide, rfl, lk_X9_81⟩, List.forall_mem_cons.mpr ⟨Or.inl ⟨1, yX1_at, cX1_at, 3, (some .int), c_X1_at, by omega, by decide, rfl, lk_X9_88⟩, List.forall_mem_cons.mpr ⟨Or.inl ⟨1, yX1_put, cX1_put, 5, none, c_X1_put, by omega, by decide, rfl, lk_X9_95⟩, fun _ h => absurd h List.not_mem_nil⟩⟩⟩⟩⟩
set_option maxRecDepth 100000 in
theorem v_X9_bind {J : Nat → Lcl → List Value → Sg → Prop} {Q : Int32 → Sg → Prop} (c row m : Int32) (σ : Sg) (h : pr_X2_hold [.ref 2, .int c] σ ∧ ∀ (x2 : Int32) (τ1 : Sg), po_X2_hold [.ref 2, .int c] σ x2 τ1 → ((x2 = (nI 0) → Q (-2) τ1) ∧ (¬ x2 = (nI 0) → pr_X7_isRow [.int row] τ1 ∧ ∀ (x4 : Int32) (τ3 : Sg), po_X7_isRow [.int row] τ1 x4 τ3 → ((x4 = (nI 0) → Q (-2) τ3) ∧ (¬ x4 = (nI 0) → (m < (-1) → Q (-2) τ3) ∧ (¬ m < (-1) → (¬ (nI 40) < m → pr_X1_key [.int c, .int row] τ3 ∧ ∀ (x6 : Int32) (τ5 : Sg), po_X1_key [.int c, .int row] τ3 x6 τ5 → (pr_X1_at [.ref 4, .int x6] τ5 ∧ ∀ (x8 : Int32) (τ7 : Sg), po_X1_at [.ref 4, .int x6] τ5 x8 τ7 → ((m = (-1) → pr_X1_put [.ref 4, .int x6, .int m] τ7 ∧ ∀ (τ9 : Sg), po_X1_put [.ref 4, .int x6, .int m] τ7 (nI 0) τ9 → (Q x8 τ9)) ∧ (¬ m = (-1) → (¬ x8 = (-1) → pr_X1_put [.ref 4, .int x6, .int m] τ7 ∧ ∀ (τ10 : Sg), po_X1_put [.ref 4, .int x6, .int m] τ7 (nI 0) τ10 → (Q x8 τ10)) ∧ (x8 = (-1) → ((τ7 4 2) < (nI 120) → pr_X1_put [.ref 4, .int x6, .int m] τ7 ∧ ∀ (τ11 : Sg), po_X1_put [.ref 4, .int x6, .int m] τ7 (nI 0) τ11 → (Q x8 τ11)) ∧ (¬ (τ7 4 2) < (nI 120) → Q (-2) τ7)))))) ∧ ((nI 40) < m → Q (-2) τ3))))))) : kp_T layC gl_X9 pl_X9 (ms_X9_bind) tb_X9_bind (kp_rk (some .int)) J Q 54 tb_X9_bind (kp_en [.ref 0, .int c, .int row, .int m] 6) [] σ := h
set_option maxRecDepth 100000 in
set_option maxHeartbeats 4000000 in
theorem c_X9_bind : kp_Met layC 2 yX9_bind cX9_bind 6 (some .int) (pr_X9_bind) (po_X9_bind) := by
  refine kp_met (N := 54) (by decide) tk_X9_bind gk_X9 pk_X9 (mk_X9_bind) rfl (fun _ _ _ _ _ _ _ => False) ?_ (fun _ _ _ _ _ _ _ _ h => h.elim)
  rintro As σ ⟨c, row, m, rfl, hp⟩
  refine ⟨⟨rfl, Nat.le_of_ble_eq_true rfl⟩, v_X9_bind c row m σ ?_⟩
  obtain ⟨⟨hcx, hbo⟩, hkb, hty, hrl, hco, has, hsl⟩ := id hp
  obtain ⟨z, hz, hz1, -, -⟩ := id hbo
  have ez : tn (σ 4 2) = z := by rw [hz, tn_nI (by omega)]
  have hno : ¬ okB σ c row m → InvC σ ∧ fr [4, 5, 6] σ σ ∧ (okB σ c row m → (-2 : Int32) = mC σ (kyC c row) ∧ (∀ k, mC σ k = if k = kyC c row then m else mC σ k) ∧ tn (σ 4 2) = szp (tn (σ 4 2)) (mC σ (kyC c row)) m) ∧ (¬ okB σ c row m → σ = σ ∧ (-2 : Int32) = -2) := fun h => ⟨hp, fr_rf, fun q => absurd q h, fun _ => ⟨rfl, rfl⟩⟩
  refine ⟨⟨_, rfl, trivial⟩, ?_⟩
  rintro x2 τ1 ⟨rfl, rfl⟩
  rw [bI_0]
  refine ⟨fun h1 => hno (fun z => by have q := z.1; rw [h1] at q; cases q), fun h1 => ⟨⟨_, rfl, trivial⟩, ?_⟩⟩
  have h1 : isCx (τ1 2 1) c = true := by simpa using h1
  rintro x4 τ3 ⟨rfl, rfl⟩
  rw [bI_0]
  refine ⟨fun h2 => hno (fun z => by have q := z.2.1; rw [h2] at q; cases q), fun h2 => ⟨fun h3 => hno (fun z => (inR_iff.mp z.2.2.1).1 h3), fun h3 => ⟨fun h4 => ?_, fun h4 => hno (fun z => (inR_iff.mp z.2.2.1).2 h4)⟩⟩⟩
  have h2 : isRw row = true := by simpa using h2
  have hm : inR m (-1) (nI 40) = true := inR_iff.mpr ⟨h3, h4⟩
  obtain ⟨a, b, rfl, ha, ha2, rfl, hb, hb2, ea, eb, hk⟩ := cx_row hcx h1 h2
  have hkl := keyOK_lt hk
  refine ⟨⟨_, _, rfl, a, b, rfl, ha, rfl, hb2⟩, ?_⟩
  rintro x6 τ5 ⟨rfl, rfl⟩
  have e6 : tn (nI (kyC (nI a) (nI b))) = kyC (nI a) (nI b) := tn_nI (by omega)
  refine ⟨⟨4, _, rfl, Or.inl rfl, hbo, kyC (nI a) (nI b), rfl, by omega⟩, ?_⟩
  rintro x8 τ7 ⟨rfl, rfl⟩
  rw [e6]
  have hput : (m ≠ -1 → mC τ7 (kyC (nI a) (nI b)) = -1 → tn (τ7 4 2) < 120) → pr_X1_put [.ref 4, .int (nI (kyC (nI a) (nI b))), .int m] τ7 ∧ ∀ (τ9 : Sg), po_X1_put [.ref 4, .int (nI (kyC (nI a) (nI b))), .int m] τ7 (nI 0) τ9 → po_X9_bind [.ref 0, .int (nI a), .int (nI b), .int m] τ7 (mC τ7 (kyC (nI a) (nI b))) τ9 := by
    intro hr
    refine ⟨⟨_, _, rfl, hbo, ⟨_, rfl, hk⟩, m1_val hm, by rw [e6]; exact hr⟩, ?_⟩
    rintro τ9 ⟨p1, p2, p3, p4⟩
    rw [e6] at p3 p4
    have hI : InvC τ9 := by
      have q : ∀ c, c ≠ 4 → c ≠ 5 → c ≠ 6 → τ9 c = τ7 c := fun c h1 h2 h3 => p2 c (by simp [h1, h2, h3])
      unfold InvC LI tyOK cstC asOK slv bsC RS PT MT ofC nwC noC at *
      rw [q 2 (by decide) (by decide) (by decide), q 3 (by decide) (by decide) (by decide), q 7 (by decide) (by decide) (by decide), q 8 (by decide) (by decide) (by decide), q 9 (by decide) (by decide) (by decide), q 15 (by decide) (by decide) (by decide), q 19 (by decide) (by decide) (by decide), q 20 (by decide) (by decide) (by decide), q 21 (by decide) (by decide) (by decide), q 22 (by decide) (by decide) (by decide), q 23 (by decide) (by decide) (by decide), q 24 (by decide) (by decide) (by decide), q 25 (by decide) (by decide) (by decide), q 26 (by decide) (by decide) (by decide), q 27 (by decide) (by decide) (by decide)]
      exact ⟨⟨hp.1.1, p1⟩, hp.2⟩
    exact ⟨hI, p2, fun _ => ⟨rfl, p3, p4⟩, fun h => absurd ⟨h1, h2, hm, fun ⟨q1, q2, q3⟩ => q3 (hr q1 q2)⟩ h⟩
  refine ⟨fun h5 => hput (fun z => absurd h5 z), fun h5 => ⟨fun h6 => hput (fun _ z => absurd z h6), fun h6 => ⟨fun h7 => hput (fun _ _ => ?_), fun h7 => hno (fun q => q.2.2.2 ⟨h5, h6, ?_⟩)⟩⟩⟩
  · rw [hz, nI_ltI (by omega) (by omega)] at h7; omega
  · rw [hz, nI_ltI (by omega) (by omega)] at h7; omega
def pr_X9_has : SPre := fun As σ => ∃ c : Int32, ∃ row : Int32, As = [.ref 0, .int c, .int row] ∧ (InvC σ)
def po_X9_has : SPost := fun As σ r τ => match As with
  | [.ref _, .int c, .int row] => (τ = σ ∧ (isCx (σ 2 1) c = true ∧ isRw row = true → r = mC σ (kyC c row)) ∧ (¬ (isCx (σ 2 1) c = true ∧ isRw row = true) → r = -1))
  | _ => True
def ms_X9_has : List Me := [(72, 0, 2, 1, true, pr_X2_hold, po_X2_hold), (76, 1, 0, 1, true, pr_X7_isRow, po_X7_isRow), (81, 1, 1, 2, true, pr_X1_key, po_X1_key), (88, 0, 1, 1, true, pr_X1_at, po_X1_at)]
theorem mk_X9_has : ∀ q ∈ ms_X9_has, kp_okM layC RX9 2 q := List.forall_mem_cons.mpr ⟨Or.inl ⟨0, yX2_hold, cX2_hold, 2, (some .boolean), c_X2_hold, by omega, by decide, rfl, lk_X9_72⟩, List.forall_mem_cons.mpr ⟨Or.inl ⟨1, yX7_isRow, cX7_isRow, 4, (some .boolean), c_X7_isRow, by omega, by decide, rfl, lk_X9_76⟩, List.forall_mem_cons.mpr ⟨Or.inl ⟨0, yX1_key, cX1_key, 2, (some .int), c_X1_key, by omega, by decide, rfl, lk_X9_81⟩, List.forall_mem_cons.mpr ⟨Or.inl ⟨1, yX1_at, cX1_at, 3, (some .int), c_X1_at, by omega, by decide, rfl, lk_X9_88⟩, fun _ h => absurd h List.not_mem_nil⟩⟩⟩⟩
set_option maxRecDepth 100000 in
theorem v_X9_has {J : Nat → Lcl → List Value → Sg → Prop} {Q : Int32 → Sg → Prop} (c row : Int32) (σ : Sg) (h : pr_X2_hold [.ref 2, .int c] σ ∧ ∀ (x2 : Int32) (τ1 : Sg), po_X2_hold [.ref 2, .int c] σ x2 τ1 → ((x2 = (nI 0) → Q (-1) τ1) ∧ (¬ x2 = (nI 0) → pr_X7_isRow [.int row] τ1 ∧ ∀ (x4 : Int32) (τ3 : Sg), po_X7_isRow [.int row] τ1 x4 τ3 → ((¬ x4 = (nI 0) → pr_X1_key [.int c, .int row] τ3 ∧ ∀ (x6 : Int32) (τ5 : Sg), po_X1_key [.int c, .int row] τ3 x6 τ5 → (pr_X1_at [.ref 4, .int x6] τ5 ∧ ∀ (x8 : Int32) (τ7 : Sg), po_X1_at [.ref 4, .int x6] τ5 x8 τ7 → (Q x8 τ7))) ∧ (x4 = (nI 0) → Q (-1) τ3))))) : kp_T layC gl_X9 pl_X9 (ms_X9_has) tb_X9_has (kp_rk (some .int)) J Q 30 tb_X9_has (kp_en [.ref 0, .int c, .int row] 3) [] σ := h
set_option maxRecDepth 100000 in
set_option maxHeartbeats 4000000 in
theorem c_X9_has : kp_Met layC 2 yX9_has cX9_has 3 (some .int) (pr_X9_has) (po_X9_has) := by
  refine kp_met (N := 30) (by decide) tk_X9_has gk_X9 pk_X9 (mk_X9_has) rfl (fun _ _ _ _ _ _ _ => False) ?_ (fun _ _ _ _ _ _ _ _ h => h.elim)
  rintro As σ ⟨c, row, rfl, hp⟩
  refine ⟨⟨rfl, Nat.le_of_ble_eq_true rfl⟩, v_X9_has c row σ ?_⟩
  obtain ⟨⟨hcx, hbo⟩, -⟩ := id hp
  refine ⟨⟨_, rfl, trivial⟩, ?_⟩
  rintro x2 τ1 ⟨rfl, rfl⟩
  rw [bI_0]
  refine ⟨fun h1 => ⟨rfl, fun z => (by rw [h1] at z; cases z.1), fun _ => rfl⟩, fun h1 => ⟨⟨_, rfl, trivial⟩, ?_⟩⟩
  have h1 : isCx (τ1 2 1) c = true := by simpa using h1
  rintro x4 τ3 ⟨rfl, rfl⟩
  rw [bI_0]
  refine ⟨fun h2 => ?_, fun h2 => ⟨rfl, fun z => (by rw [h2] at z; cases z.2), fun _ => rfl⟩⟩
  have h2 : isRw row = true := by simpa using h2
  obtain ⟨a, b, rfl, ha, ha2, rfl, hb, hb2, ea, eb, hk⟩ := cx_row hcx h1 h2
  have hkl := keyOK_lt hk
  refine ⟨⟨_, _, rfl, a, b, rfl, ha, rfl, hb2⟩, ?_⟩
  rintro x6 τ5 ⟨rfl, rfl⟩
  have e6 : tn (nI (kyC (nI a) (nI b))) = kyC (nI a) (nI b) := tn_nI (by omega)
  refine ⟨⟨4, _, rfl, Or.inl rfl, hbo, kyC (nI a) (nI b), rfl, by omega⟩, ?_⟩
  rintro x8 τ7 ⟨rfl, rfl⟩
  rw [e6]
  exact ⟨rfl, fun _ => rfl, fun z => absurd ⟨h1, h2⟩ z⟩
def pr_X9_means : SPre := fun As σ => ∃ c : Int32, ∃ row : Int32, As = [.ref 0, .int c, .int row] ∧ (InvC σ)
def po_X9_means : SPost := fun As σ r τ => match As with
  | [.ref _, .int c, .int row] => (τ = σ ∧ (isCx (σ 2 1) c = true ∧ isRw row = true → r = mean (σ 3) (mC σ) (tn row) 12 (tn c)) ∧ (¬ (isCx (σ 2 1) c = true ∧ isRw row = true) → r = -1))
  | _ => True
def ms_X9_means : List Me := [(72, 0, 2, 1, true, pr_X2_hold, po_X2_hold), (76, 1, 0, 1, true, pr_X7_isRow, po_X7_isRow), (99, 0, 5, 2, true, pr_X5_meaning, po_X5_meaning)]
theorem mk_X9_means : ∀ q ∈ ms_X9_means, kp_okM layC RX9 3 q := List.forall_mem_cons.mpr ⟨Or.inl ⟨0, yX2_hold, cX2_hold, 2, (some .boolean), c_X2_hold, by omega, by decide, rfl, lk_X9_72⟩, List.forall_mem_cons.mpr ⟨Or.inl ⟨1, yX7_isRow, cX7_isRow, 4, (some .boolean), c_X7_isRow, by omega, by decide, rfl, lk_X9_76⟩, List.forall_mem_cons.mpr ⟨Or.inl ⟨2, yX5_meaning, cX5_meaning, 6, (some .int), c_X5_meaning, by omega, by decide, rfl, lk_X9_99⟩, fun _ h => absurd h List.not_mem_nil⟩⟩⟩
set_option maxRecDepth 100000 in
theorem v_X9_means {J : Nat → Lcl → List Value → Sg → Prop} {Q : Int32 → Sg → Prop} (c row : Int32) (σ : Sg) (h : pr_X2_hold [.ref 2, .int c] σ ∧ ∀ (x2 : Int32) (τ1 : Sg), po_X2_hold [.ref 2, .int c] σ x2 τ1 → ((x2 = (nI 0) → Q (-1) τ1) ∧ (¬ x2 = (nI 0) → pr_X7_isRow [.int row] τ1 ∧ ∀ (x4 : Int32) (τ3 : Sg), po_X7_isRow [.int row] τ1 x4 τ3 → ((¬ x4 = (nI 0) → pr_X5_meaning [.ref 1, .int c, .int row] τ3 ∧ ∀ (x6 : Int32) (τ5 : Sg), po_X5_meaning [.ref 1, .int c, .int row] τ3 x6 τ5 → (Q x6 τ5)) ∧ (x4 = (nI 0) → Q (-1) τ3))))) : kp_T layC gl_X9 pl_X9 (ms_X9_means) tb_X9_means (kp_rk (some .int)) J Q 30 tb_X9_means (kp_en [.ref 0, .int c, .int row] 3) [] σ := h
set_option maxRecDepth 100000 in
set_option maxHeartbeats 4000000 in
theorem c_X9_means : kp_Met layC 3 yX9_means cX9_means 3 (some .int) (pr_X9_means) (po_X9_means) := by
  refine kp_met (N := 30) (by decide) tk_X9_means gk_X9 pk_X9 (mk_X9_means) rfl (fun _ _ _ _ _ _ _ => False) ?_ (fun _ _ _ _ _ _ _ _ h => h.elim)
  rintro As σ ⟨c, row, rfl, hp⟩
  refine ⟨⟨rfl, Nat.le_of_ble_eq_true rfl⟩, v_X9_means c row σ ?_⟩
  obtain ⟨hL, -⟩ := id hp
  refine ⟨⟨_, rfl, trivial⟩, ?_⟩
  rintro x2 τ1 ⟨rfl, rfl⟩
  rw [bI_0]
  refine ⟨fun h1 => ⟨rfl, fun z => (by rw [h1] at z; cases z.1), fun _ => rfl⟩, fun h1 => ⟨⟨_, rfl, trivial⟩, ?_⟩⟩
  have h1 : isCx (τ1 2 1) c = true := by simpa using h1
  rintro x4 τ3 ⟨rfl, rfl⟩
  rw [bI_0]
  refine ⟨fun h2 => ?_, fun h2 => ⟨rfl, fun z => (by rw [h2] at z; cases z.2), fun _ => rfl⟩⟩
  have h2 : isRw row = true := by simpa using h2
  obtain ⟨a, b, rfl, ha, ha2, rfl, hb, hb2, ea, eb, hk⟩ := cx_row hL.1 h1 h2
  refine ⟨⟨_, _, rfl, hL, a, b, rfl, ha2, rfl, hb2⟩, ?_⟩
  rintro x6 τ5 ⟨rfl, rfl⟩
  exact ⟨rfl, fun _ => rfl, fun z => absurd ⟨h1, h2⟩ z⟩
def ftA (l : List (Nat × Nat)) (i w : Int32) : Int32 := if i < nI 0 then -1 else match l[tn i]? with
  | none => -1
  | some p => if w = nI 0 then nI p.1 else if w = nI 1 then nI p.2 else -1
def pr_X9_fight : SPre := fun As σ => ∃ c : Int32, ∃ i : Int32, ∃ w : Int32, As = [.ref 0, .int c, .int i, .int w] ∧ (InvC σ)
def po_X9_fight : SPost := fun As σ r τ => match As with
  | [.ref _, .int c, .int i, .int w] => (InvC τ ∧ fr [11, 12, 13, 14] σ τ ∧ (isCx (σ 2 1) c = true → ∃ (g : Nat → Int32) (f : Nat), isRows g f (σ 3) (mC σ) (tn c) ∧ r = ftA (FL (fun i => tn (g i)) f) i w) ∧ (¬ isCx (σ 2 1) c = true → r = -1))
  | _ => True
def ms_X9_fight : List Me := [(72, 0, 2, 1, true, pr_X2_hold, po_X2_hold), (102, 0, 4, 2, false, pr_X4_collect, po_X4_collect)]
theorem mk_X9_fight : ∀ q ∈ ms_X9_fight, kp_okM layC RX9 5 q := List.forall_mem_cons.mpr ⟨Or.inl ⟨0, yX2_hold, cX2_hold, 2, (some .boolean), c_X2_hold, by omega, by decide, rfl, lk_X9_72⟩, List.forall_mem_cons.mpr ⟨Or.inl ⟨4, yX4_collect, cX4_collect, 6, none, c_X4_collect, by omega, by decide, rfl, lk_X9_102⟩, fun _ h => absurd h List.not_mem_nil⟩⟩
set_option maxRecDepth 100000 in
theorem v_X9_fight {J : Nat → Lcl → List Value → Sg → Prop} {Q : Int32 → Sg → Prop} (c i w : Int32) (σ : Sg) (h : pr_X2_hold [.ref 2, .int c] σ ∧ ∀ (x2 : Int32) (τ1 : Sg), po_X2_hold [.ref 2, .int c] σ x2 τ1 → ((¬ x2 = (nI 0) → pr_X4_collect [.ref 11, .ref 1, .int c] τ1 ∧ ∀ (τ3 : Sg), po_X4_collect [.ref 11, .ref 1, .int c] τ1 (nI 0) τ3 → ((i < (nI 0) → Q (-1) τ3) ∧ (¬ i < (nI 0) → (i < (τ3 11 3) → (w = nI 0 → vp_in i 240 ∧ (Q (τ3 13 (i).toNatClampNeg) τ3)) ∧ (¬ w = nI 0 → (w = nI 1 → vp_in i 240 ∧ (Q (τ3 14 (i).toNatClampNeg) τ3)) ∧ (¬ w = nI 1 → Q (-1) τ3))) ∧ (¬ i < (τ3 11 3) → Q (-1) τ3)))) ∧ (x2 = (nI 0) → Q (-1) τ1))) : kp_T layC gl_X9 pl_X9 (ms_X9_fight) tb_X9_fight (kp_rk (some .int)) J Q 44 tb_X9_fight (kp_en [.ref 0, .int c, .int i, .int w] 4) [] σ := h
set_option maxRecDepth 100000 in
set_option maxHeartbeats 4000000 in
theorem c_X9_fight : kp_Met layC 5 yX9_fight cX9_fight 4 (some .int) (pr_X9_fight) (po_X9_fight) := by
  refine kp_met (N := 44) (by decide) tk_X9_fight gk_X9 pk_X9 (mk_X9_fight) rfl (fun _ _ _ _ _ _ _ => False) ?_ (fun _ _ _ _ _ _ _ _ h => h.elim)
  rintro As σ ⟨c, i, w, rfl, hp⟩
  refine ⟨⟨rfl, Nat.le_of_ble_eq_true rfl⟩, v_X9_fight c i w σ ?_⟩
  obtain ⟨hL, -⟩ := id hp
  refine ⟨⟨_, rfl, trivial⟩, ?_⟩
  rintro x2 τ1 ⟨rfl, rfl⟩
  rw [bI_0]
  refine ⟨fun h1 => ?_, fun h1 => ⟨hp, fr_rf, fun z => (by rw [h1] at z; cases z), fun _ => rfl⟩⟩
  have h1 : isCx (τ1 2 1) c = true := by simpa using h1
  obtain ⟨n, hn, n1, n2, -, -⟩ := hL.1
  have hcc : ∃ a, c = nI a ∧ a < tn (τ1 2 1) := by
    rw [hn] at h1 ⊢
    obtain ⟨a, ha, rfl⟩ := (isCx_iff (by omega)).mp h1
    exact ⟨a, rfl, by rw [tn_nI (by omega)]; exact ha⟩
  refine ⟨⟨_, rfl, hL, hcc⟩, ?_⟩
  rintro τ3 ⟨k1, g, f, k2, ⟨k3, k4⟩, k5⟩
  have hI := InvC_fr hp k1 (by decide)
  have hQ : ∀ r, r = ftA (FL (fun i => tn (g i)) f) i w → po_X9_fight [.ref 0, .int c, .int i, .int w] τ1 r τ3 := fun r h => ⟨hI, k1, fun _ => ⟨g, f, k2, h⟩, fun z => absurd h1 z⟩
  refine ⟨fun h2 => hQ _ (by unfold ftA; rw [if_pos h2]), fun h2 => ?_⟩
  have hni : nn i := (nI_tn h2).symm
  rw [k3, (nn_lt hni (show (FL (fun i => tn (g i)) f).length < 2 ^ 31 by omega)).2]
  refine ⟨fun h3 => ?_, fun h3 => hQ _ (by unfold ftA; rw [if_neg h2, List.getElem?_eq_none (by omega)])⟩
  have hget := List.getElem?_eq_getElem h3
  obtain ⟨m1, m2⟩ := k4 _ _ hget
  have hin : vp_in i 240 := by rw [hni]; exact (kp_in (tn_lt _)).mpr (by omega)
  have hcl : i.toNatClampNeg = tn i := rfl
  rw [hcl, m1, m2]
  refine ⟨fun h4 => ⟨hin, hQ _ (by unfold ftA; rw [if_neg h2, hget]; show _ = (if w = nI 0 then _ else _); rw [if_pos h4])⟩, fun h4 => ⟨fun h5 => ⟨hin, hQ _ (by unfold ftA; rw [if_neg h2, hget]; show _ = (if w = nI 0 then _ else if w = nI 1 then _ else _); rw [if_neg h4, if_pos h5])⟩, fun h5 => hQ _ (by unfold ftA; rw [if_neg h2, hget]; show _ = (if w = nI 0 then _ else if w = nI 1 then _ else _); rw [if_neg h4, if_neg h5])⟩⟩
def pr_X9_fights : SPre := fun As σ => ∃ c : Int32, As = [.ref 0, .int c] ∧ (InvC σ)
def po_X9_fights : SPost := fun As σ r τ => match As with
  | [.ref _, .int c] => (InvC τ ∧ fr [11, 12, 13, 14] σ τ ∧ (isCx (σ 2 1) c = true → ∃ (g : Nat → Int32) (f : Nat), isRows g f (σ 3) (mC σ) (tn c) ∧ r = nI (FL (fun i => tn (g i)) f).length) ∧ (¬ isCx (σ 2 1) c = true → r = -1))
  | _ => True
def ms_X9_fights : List Me := [(72, 0, 2, 1, true, pr_X2_hold, po_X2_hold), (102, 0, 4, 2, false, pr_X4_collect, po_X4_collect)]
theorem mk_X9_fights : ∀ q ∈ ms_X9_fights, kp_okM layC RX9 5 q := List.forall_mem_cons.mpr ⟨Or.inl ⟨0, yX2_hold, cX2_hold, 2, (some .boolean), c_X2_hold, by omega, by decide, rfl, lk_X9_72⟩, List.forall_mem_cons.mpr ⟨Or.inl ⟨4, yX4_collect, cX4_collect, 6, none, c_X4_collect, by omega, by decide, rfl, lk_X9_102⟩, fun _ h => absurd h List.not_mem_nil⟩⟩
set_option maxRecDepth 100000 in
theorem v_X9_fights {J : Nat → Lcl → List Value → Sg → Prop} {Q : Int32 → Sg → Prop} (c : Int32) (σ : Sg) (h : pr_X2_hold [.ref 2, .int c] σ ∧ ∀ (x2 : Int32) (τ1 : Sg), po_X2_hold [.ref 2, .int c] σ x2 τ1 → ((¬ x2 = (nI 0) → pr_X4_collect [.ref 11, .ref 1, .int c] τ1 ∧ ∀ (τ3 : Sg), po_X4_collect [.ref 11, .ref 1, .int c] τ1 (nI 0) τ3 → (Q (τ3 11 3) τ3)) ∧ (x2 = (nI 0) → Q (-1) τ1))) : kp_T layC gl_X9 pl_X9 (ms_X9_fights) tb_X9_fights (kp_rk (some .int)) J Q 30 tb_X9_fights (kp_en [.ref 0, .int c] 2) [] σ := h
set_option maxRecDepth 100000 in
set_option maxHeartbeats 4000000 in
theorem c_X9_fights : kp_Met layC 5 yX9_fights cX9_fights 2 (some .int) (pr_X9_fights) (po_X9_fights) := by
  refine kp_met (N := 30) (by decide) tk_X9_fights gk_X9 pk_X9 (mk_X9_fights) rfl (fun _ _ _ _ _ _ _ => False) ?_ (fun _ _ _ _ _ _ _ _ h => h.elim)
  rintro As σ ⟨c, rfl, hp⟩
  refine ⟨⟨rfl, Nat.le_of_ble_eq_true rfl⟩, v_X9_fights c σ ?_⟩
  obtain ⟨hL, -⟩ := id hp
  refine ⟨⟨_, rfl, trivial⟩, ?_⟩
  rintro x2 τ1 ⟨rfl, rfl⟩
  rw [bI_0]
  refine ⟨fun h1 => ?_, fun h1 => ⟨hp, fr_rf, fun z => (by rw [h1] at z; cases z), fun _ => rfl⟩⟩
  have h1 : isCx (τ1 2 1) c = true := by simpa using h1
  obtain ⟨n, hn, n1, n2, -, -⟩ := hL.1
  have hcc : ∃ a, c = nI a ∧ a < tn (τ1 2 1) := by
    rw [hn] at h1 ⊢
    obtain ⟨a, ha, rfl⟩ := (isCx_iff (by omega)).mp h1
    exact ⟨a, rfl, by rw [tn_nI (by omega)]; exact ha⟩
  refine ⟨⟨_, rfl, hL, hcc⟩, ?_⟩
  rintro τ3 ⟨k1, g, f, k2, ⟨k3, k4⟩, k5⟩
  exact ⟨InvC_fr hp k1 (by decide), k1, fun _ => ⟨g, f, k2, k3⟩, fun z => absurd h1 z⟩
def pr_X9_patience : SPre := fun As σ => ∃ t : Int32, As = [.ref 0, .int t] ∧ (InvC σ)
def po_X9_patience : SPost := fun As σ r τ => match As with
  | [.ref _, .int t] => (InvC τ ∧ (inR t (nI 0) (nI 100) = true → τ = kp_up σ 15 5 t ∧ r = nI 1) ∧ (¬ inR t (nI 0) (nI 100) = true → τ = σ ∧ r = nI 0))
  | _ => True
def ms_X9_patience : List Me := []
theorem mk_X9_patience : ∀ q ∈ ms_X9_patience, kp_okM layC RX9 0 q := fun _ h => absurd h List.not_mem_nil
set_option maxRecDepth 100000 in
theorem v_X9_patience {J : Nat → Lcl → List Value → Sg → Prop} {Q : Int32 → Sg → Prop} (t : Int32) (σ : Sg) (h : (t < (nI 0) → ((nI 0) = nI 0 ∨ (nI 0) = nI 1) ∧ Q (nI 0) σ) ∧ (¬ t < (nI 0) → (¬ (nI 100) < t → ((nI 1) = nI 0 ∨ (nI 1) = nI 1) ∧ Q (nI 1) (kp_up σ 15 5 t)) ∧ ((nI 100) < t → ((nI 0) = nI 0 ∨ (nI 0) = nI 1) ∧ Q (nI 0) σ))) : kp_T layC gl_X9 pl_X9 (ms_X9_patience) tb_X9_patience (kp_rk (some .boolean)) J Q 30 tb_X9_patience (kp_en [.ref 0, .int t] 2) [] σ := h
set_option maxRecDepth 100000 in
set_option maxHeartbeats 4000000 in
theorem c_X9_patience : kp_Met layC 0 yX9_patience cX9_patience 2 (some .boolean) (pr_X9_patience) (po_X9_patience) := by
  refine kp_met (N := 30) (by decide) tk_X9_patience gk_X9 pk_X9 (mk_X9_patience) rfl (fun _ _ _ _ _ _ _ => False) ?_ (fun _ _ _ _ _ _ _ _ h => h.elim)
  rintro As σ ⟨t, rfl, hp⟩
  refine ⟨⟨rfl, Nat.le_of_ble_eq_true rfl⟩, v_X9_patience t σ ?_⟩
  refine ⟨fun h1 => ⟨Or.inl rfl, hp, fun z => absurd h1 (inR_iff.mp z).1, fun _ => ⟨rfl, rfl⟩⟩, fun h1 => ⟨fun h2 => ⟨Or.inr rfl, ?_, fun _ => ⟨rfl, rfl⟩, fun z => absurd (inR_iff.mpr ⟨h1, h2⟩) z⟩, fun h2 => ⟨Or.inl rfl, hp, fun z => absurd h2 (inR_iff.mp z).2, fun _ => ⟨rfl, rfl⟩⟩⟩⟩
  obtain ⟨hL, hkb, hty, hrl, hco, has, hsl⟩ := id hp
  obtain ⟨w1, -, w2⟩ := inR_nat (by omega) (by omega) (inR_iff.mpr ⟨h1, h2⟩)
  have q : ∀ c, c ≠ 15 → kp_up σ 15 5 t c = σ c := fun c h => up_c h
  obtain ⟨t1, t2, t3, t4, t5, t6, t7, t8, t9, t10⟩ := hty
  unfold InvC LI tyOK cstC asOK slv bsC RS PT MT ofC nwC noC at *
  simp (disch := decide) only [up_c, kp_up_eq, pk_us, pk_un]
  exact ⟨hL, hkb, ⟨t1, t2, t3, t4, t5, t6, w1, w2, t9, t10⟩, hrl, hco, has, hsl⟩
end
section
/-! KeyPlan's own methods: typing, costs, what is wanted and offered -/
theorem InvC_ty {σ τ : Sg} (h : InvC σ) (hf : fr [15, 16, 17] σ τ) (h1 : tyOK τ) (h2 : rlen (tn (τ 15 7)) ≤ 2) : InvC τ := by
  have q : ∀ c, c ∉ [15, 16, 17] → τ c = σ c := fun c hc => hf c hc
  obtain ⟨a1, a2, a3, a4, a5, a6, a7⟩ := h
  refine ⟨?_, ?_, h1, h2, ?_, ?_, ?_⟩
  all_goals unfold LI cstC asOK slv bsC RS PT MT ofC nwC noC at *
  · rw [q 2 (by decide), q 3 (by decide), q 4 (by decide), q 5 (by decide), q 6 (by decide)]; exact a1
  · rw [q 7 (by decide), q 8 (by decide), q 9 (by decide)]; exact a2
  · rw [q 19 (by decide), q 20 (by decide), q 21 (by decide), q 22 (by decide)]; exact a5
  · rw [q 2 (by decide), q 23 (by decide), q 24 (by decide), q 25 (by decide), q 26 (by decide)]; exact a6
  · rw [q 3 (by decide), q 19 (by decide), q 20 (by decide), q 21 (by decide), q 22 (by decide), q 23 (by decide), q 24 (by decide), q 25 (by decide), q 26 (by decide), q 27 (by decide)]; exact a7
theorem InvC_cs {σ τ : Sg} (h : InvC σ) (hf : fr [19, 20, 21, 22, 23, 24, 25, 26] σ τ) (h1 : cstC τ) (h2 : asOK τ) (h3 : τ 23 5 = nI 0) : InvC τ := by
  have q : ∀ c, c ∉ [19, 20, 21, 22, 23, 24, 25, 26] → τ c = σ c := fun c hc => hf c hc
  obtain ⟨a1, a2, a3, a4, a5, a6, a7⟩ := h
  refine ⟨?_, ?_, ?_, ?_, h1, h2, Or.inl h3⟩
  · unfold LI at *; rw [q 2 (by decide), q 3 (by decide), q 4 (by decide), q 5 (by decide), q 6 (by decide)]; exact a1
  · rw [q 7 (by decide), q 8 (by decide), q 9 (by decide)]; exact a2
  · unfold tyOK at *; rw [q 2 (by decide), q 15 (by decide)]; exact a3
  · rw [q 15 (by decide)]; exact a4
theorem InvC_sv {σ τ : Sg} (h : InvC σ) (hf : fr svF σ τ) (h2 : asOK τ) (h3 : slv τ) : InvC τ := by
  have q : ∀ c, c ∉ svF → τ c = σ c := fun c hc => hf c hc
  obtain ⟨a1, a2, a3, a4, a5, a6, a7⟩ := h
  refine ⟨?_, ?_, ?_, ?_, ?_, h2, Or.inr h3⟩
  · unfold LI at *; rw [q 2 (by decide), q 3 (by decide), q 4 (by decide), q 5 (by decide), q 6 (by decide)]; exact a1
  · rw [q 7 (by decide), q 8 (by decide), q 9 (by decide)]; exact a2
  · unfold tyOK at *; rw [q 2 (by decide), q 15 (by decide)]; exact a3
  · rw [q 15 (by decide)]; exact a4
  · unfold cstC at *; rw [q 19 (by decide), q 20 (by decide), q 21 (by decide), q 22 (by decide)]; exact a5
theorem prT_ok {o M : Nat → Int32} {c pat last s tick : Nat} {t : TS} (h : lnOK t.1) (h2 : rlen t.1 ≤ 2) (hs : 1 ≤ s) (hs2 : s ≤ 240) : lnOK (prT o M c pat last s tick t).1 ∧ szT (prT o M c pat last s tick t) ≤ szT t + 1 ∧ rlen (prT o M c pat last s tick t).1 ≤ 2 := by
  have key : ∀ t1 : TS, lnOK t1.1 → rlen t1.1 ≤ 2 → szT t1 ≤ szT t → lnOK (fiT o M c (nI tick) (drT o M c (nI tick) 3 (t1.1 + s * 256 ^ rlen t1.1, t1.2))).1 ∧ szT (fiT o M c (nI tick) (drT o M c (nI tick) 3 (t1.1 + s * 256 ^ rlen t1.1, t1.2))) ≤ szT t + 1 ∧ rlen (fiT o M c (nI tick) (drT o M c (nI tick) 3 (t1.1 + s * 256 ^ rlen t1.1, t1.2))).1 ≤ 2 := by
    intro t1 g1 g2 g3
    obtain ⟨k1, k2⟩ := ln_add g1 g2 hs hs2
    obtain ⟨d1, d2, d3, d4⟩ := drT_ok (o := o) (M := M) (c := c) (tick := nI tick) 3 (t1.1 + s * 256 ^ rlen t1.1, t1.2) (Or.inr k1)
    have d4 := d4 (by show rlen (t1.1 + s * 256 ^ rlen t1.1) ≤ 3; omega)
    obtain ⟨f1, f2, f3⟩ := fiT_ok (tick := nI tick) d1 d4
    refine ⟨f1, ?_, f3⟩
    have : szT (t1.1 + s * 256 ^ rlen t1.1, t1.2) = szT t1 + 1 := by unfold szT; dsimp only; omega
    omega
  unfold prT
  by_cases hp : pat < tick - last
  · simp only [if_pos hp]
    obtain ⟨s1, s2, s3⟩ := stT_ok (o := o) (M := M) (c := c) (tick := nI (last + pat)) 3 t h
    refine key _ s1 ?_ s2
    have := s3 (by omega)
    rw [this]; decide
  · simp only [if_neg hp]
    exact key t h h2 (Nat.le_refl _)
def pr_X9_go : SPre := fun As σ => ∃ c : Int32, As = [.ref 0, .int c] ∧ (InvC σ ∧ szT (tsC σ) ≤ 700000)
def po_X9_go : SPost := fun As σ r τ => match As with
  | [.ref _, .int c] => (InvC τ ∧ szT (tsC τ) ≤ szT (tsC σ) ∧ (isCx (σ 2 1) c = true → fr [15, 16, 17] σ τ ∧ τ 15 4 = c ∧ τ 15 5 = σ 15 5 ∧ τ 15 6 = σ 15 6 ∧ tsC τ = stT (σ 3) (mC σ) (tn (σ 15 4)) (σ 15 6) 3 (tsC σ) ∧ r = nI 1) ∧ (¬ isCx (σ 2 1) c = true → τ = σ ∧ r = nI 0))
  | _ => True
def ms_X9_go : List Me := [(72, 0, 2, 1, true, pr_X2_hold, po_X2_hold), (119, 0, 7, 2, false, pr_X8_settleAll, po_X8_settleAll)]
theorem mk_X9_go : ∀ q ∈ ms_X9_go, kp_okM layC RX9 5 q := List.forall_mem_cons.mpr ⟨Or.inl ⟨0, yX2_hold, cX2_hold, 2, (some .boolean), c_X2_hold, by omega, by decide, rfl, lk_X9_72⟩, List.forall_mem_cons.mpr ⟨Or.inl ⟨4, yX8_settleAll, cX8_settleAll, 4, none, c_X8_settleAll, by omega, by decide, rfl, lk_X9_119⟩, fun _ h => absurd h List.not_mem_nil⟩⟩
set_option maxRecDepth 100000 in
theorem v_X9_go {J : Nat → Lcl → List Value → Sg → Prop} {Q : Int32 → Sg → Prop} (c : Int32) (σ : Sg) (h : pr_X2_hold [.ref 2, .int c] σ ∧ ∀ (x2 : Int32) (τ1 : Sg), po_X2_hold [.ref 2, .int c] σ x2 τ1 → ((¬ x2 = (nI 0) → pr_X8_settleAll [.ref 15, .ref 1, .int (τ1 15 6)] τ1 ∧ ∀ (τ3 : Sg), po_X8_settleAll [.ref 15, .ref 1, .int (τ1 15 6)] τ1 (nI 0) τ3 → (((nI 1) = nI 0 ∨ (nI 1) = nI 1) ∧ Q (nI 1) (kp_up τ3 15 4 c))) ∧ (x2 = (nI 0) → ((nI 0) = nI 0 ∨ (nI 0) = nI 1) ∧ Q (nI 0) τ1))) : kp_T layC gl_X9 pl_X9 (ms_X9_go) tb_X9_go (kp_rk (some .boolean)) J Q 30 tb_X9_go (kp_en [.ref 0, .int c] 2) [] σ := h
set_option maxRecDepth 100000 in
set_option maxHeartbeats 4000000 in
theorem c_X9_go : kp_Met layC 5 yX9_go cX9_go 2 (some .boolean) (pr_X9_go) (po_X9_go) := by
  refine kp_met (N := 30) (by decide) tk_X9_go gk_X9 pk_X9 (mk_X9_go) rfl (fun _ _ _ _ _ _ _ => False) ?_ (fun _ _ _ _ _ _ _ _ h => h.elim)
  rintro As σ ⟨c, rfl, hp⟩
  refine ⟨⟨rfl, Nat.le_of_ble_eq_true rfl⟩, v_X9_go c σ ?_⟩
  obtain ⟨hp, hsz⟩ := hp
  obtain ⟨hL, hkb, hty, hrl, hco, has, hsl⟩ := id hp
  refine ⟨⟨_, rfl, trivial⟩, ?_⟩
  rintro x2 τ1 ⟨rfl, rfl⟩
  rw [bI_0]
  refine ⟨fun h1 => ?_, fun h1 => ⟨Or.inl rfl, hp, Nat.le_refl _, fun z => (by rw [h1] at z; cases z), fun _ => ⟨rfl, rfl⟩⟩⟩
  have h1 : isCx (τ1 2 1) c = true := by simpa using h1
  refine ⟨⟨_, rfl, hL, hty, by omega⟩, ?_⟩
  rintro τ3 ⟨k1, k2, k3⟩
  refine ⟨Or.inr rfl, ?_⟩
  have et : tsC (kp_up τ3 15 4 c) = tsC τ3 := by unfold tsC; simp (disch := decide) only [up_c, kp_up_eq, pk_us, pk_un]
  obtain ⟨s1, s2, s3⟩ := stT_ok (o := τ1 3) (M := mC τ1) (c := tn (τ1 15 4)) (tick := τ1 15 6) 3 (tsC τ1) hty.2.1
  have hf : fr [15, 16, 17] τ1 (kp_up τ3 15 4 c) := fr_up k1.1 (by decide)
  have h0 : tn (τ3 15 7) = 0 := by
    have := s3 (show rlen (tsC τ1).1 ≤ 3 from rlen_le _)
    rw [← k3] at this
    exact this
  obtain ⟨n, hn, n1, n2, -, -⟩ := hL.1
  have hcc : nn c ∧ tn c < tn (τ1 2 1) := by
    rw [hn] at h1 ⊢
    obtain ⟨a, ha, rfl⟩ := (isCx_iff (by omega)).mp h1
    rw [tn_nI (show n < 2 ^ 31 by omega)]
    exact ⟨nn_nI (by omega), by rw [tn_nI (by omega)]; exact ha⟩
  refine ⟨InvC_ty hp hf ?_ ?_, ?_, fun _ => ⟨hf, up_s, ?_, ?_, et.trans k3, rfl⟩, fun z => absurd h1 z⟩
  · obtain ⟨t1, t2, t3, t4, t5, t6, t7, t8, t9, t10⟩ := k2
    unfold tyOK
    simp (disch := decide) only [up_c, kp_up_eq, pk_us, pk_un]
    refine ⟨t1, t2, t3, t4, hcc.1, ?_, t7, t8, t9, t10⟩
    rw [k1.1 2 (by decide)]; exact hcc.2
  · simp (disch := decide) only [up_c, kp_up_eq, pk_us, pk_un]
    rw [h0]; decide
  · rw [et, k3]; exact s2
  · simp (disch := decide) only [up_c, kp_up_eq, pk_us, pk_un]
    exact k1.2.2.1
  · simp (disch := decide) only [up_c, kp_up_eq, pk_us, pk_un]
    exact k1.2.2.2
def pr_X9_type : SPre := fun As σ => ∃ s : Int32, ∃ t : Int32, As = [.ref 0, .int s, .int t] ∧ (InvC σ ∧ szT (tsC σ) ≤ 700000)
def po_X9_type : SPost := fun As σ r τ => match As with
  | [.ref _, .int s, .int t] => (InvC τ ∧ szT (tsC τ) ≤ szT (tsC σ) + 1 ∧ (isSt s = true ∧ inR t (σ 15 6) (nI 1000000) = true → fr [15, 16, 17] σ τ ∧ τ 15 4 = σ 15 4 ∧ τ 15 5 = σ 15 5 ∧ τ 15 6 = t ∧ tsC τ = prT (σ 3) (mC σ) (tn (σ 15 4)) (tn (σ 15 5)) (tn (σ 15 6)) (tn s) (tn t) (tsC σ) ∧ r = nI (rlen (tsC τ).1)) ∧ (¬ (isSt s = true ∧ inR t (σ 15 6) (nI 1000000) = true) → τ = σ ∧ r = -1))
  | _ => True
def ms_X9_type : List Me := [(125, 1, 0, 1, true, pr_X7_isStroke, po_X7_isStroke), (128, 0, 7, 1, true, pr_X8_mayComeAt, po_X8_mayComeAt), (131, 0, 7, 3, false, pr_X8_press, po_X8_press), (138, 1, 0, 1, true, pr_X7_length, po_X7_length)]
theorem mk_X9_type : ∀ q ∈ ms_X9_type, kp_okM layC RX9 6 q := List.forall_mem_cons.mpr ⟨Or.inl ⟨0, yX7_isStroke, cX7_isStroke, 1, (some .boolean), c_X7_isStroke, by omega, by decide, rfl, lk_X9_125⟩, List.forall_mem_cons.mpr ⟨Or.inl ⟨0, yX8_mayComeAt, cX8_mayComeAt, 2, (some .boolean), c_X8_mayComeAt, by omega, by decide, rfl, lk_X9_128⟩, List.forall_mem_cons.mpr ⟨Or.inl ⟨5, yX8_press, cX8_press, 5, none, c_X8_press, by omega, by decide, rfl, lk_X9_131⟩, List.forall_mem_cons.mpr ⟨Or.inl ⟨1, yX7_length, cX7_length, 2, (some .int), c_X7_length, by omega, by decide, rfl, lk_X9_138⟩, fun _ h => absurd h List.not_mem_nil⟩⟩⟩⟩
set_option maxRecDepth 100000 in
theorem v_X9_type {J : Nat → Lcl → List Value → Sg → Prop} {Q : Int32 → Sg → Prop} (s t : Int32) (σ : Sg) (h : pr_X7_isStroke [.int s] σ ∧ ∀ (x2 : Int32) (τ1 : Sg), po_X7_isStroke [.int s] σ x2 τ1 → ((x2 = (nI 0) → Q (-1) τ1) ∧ (¬ x2 = (nI 0) → pr_X8_mayComeAt [.ref 15, .int t] τ1 ∧ ∀ (x4 : Int32) (τ3 : Sg), po_X8_mayComeAt [.ref 15, .int t] τ1 x4 τ3 → ((¬ x4 = (nI 0) → pr_X8_press [.ref 15, .ref 1, .int s, .int t] τ3 ∧ ∀ (τ5 : Sg), po_X8_press [.ref 15, .ref 1, .int s, .int t] τ3 (nI 0) τ5 → (pr_X7_length [.int (τ5 15 7)] τ5 ∧ ∀ (x7 : Int32) (τ6 : Sg), po_X7_length [.int (τ5 15 7)] τ5 x7 τ6 → (Q x7 τ6))) ∧ (x4 = (nI 0) → Q (-1) τ3))))) : kp_T layC gl_X9 pl_X9 (ms_X9_type) tb_X9_type (kp_rk (some .int)) J Q 30 tb_X9_type (kp_en [.ref 0, .int s, .int t] 3) [] σ := h
set_option maxRecDepth 100000 in
set_option maxHeartbeats 4000000 in
theorem c_X9_type : kp_Met layC 6 yX9_type cX9_type 3 (some .int) (pr_X9_type) (po_X9_type) := by
  refine kp_met (N := 30) (by decide) tk_X9_type gk_X9 pk_X9 (mk_X9_type) rfl (fun _ _ _ _ _ _ _ => False) ?_ (fun _ _ _ _ _ _ _ _ h => h.elim)
  rintro As σ ⟨s, t, rfl, hp⟩
  refine ⟨⟨rfl, Nat.le_of_ble_eq_true rfl⟩, v_X9_type s t σ ?_⟩
  obtain ⟨hp, hsz⟩ := hp
  obtain ⟨hL, hkb, hty, hrl, hco, has, hsl⟩ := id hp
  refine ⟨⟨_, rfl, trivial⟩, ?_⟩
  rintro x2 τ1 ⟨rfl, rfl⟩
  rw [bI_0]
  refine ⟨fun h1 => ⟨hp, Nat.le_succ _, fun z => (by rw [h1] at z; cases z.1), fun _ => ⟨rfl, rfl⟩⟩, fun h1 => ⟨⟨_, rfl, trivial⟩, ?_⟩⟩
  have h1 : isSt s = true := by simpa using h1
  rintro x4 τ3 ⟨rfl, rfl⟩
  rw [bI_0]
  refine ⟨fun h2 => ?_, fun h2 => ⟨hp, Nat.le_succ _, fun z => (by have q := z.2; unfold inR at q; rw [h2] at q; cases q), fun _ => ⟨rfl, rfl⟩⟩⟩
  have h2 : inR t (τ3 15 6) (nI 1000000) = true := by unfold inR; simpa using h2
  obtain ⟨u1, u2, u3⟩ := inR_nat (by omega) (by omega) (show inR s (nI 1) (nI 240) = true from h1)
  obtain ⟨t1, t2, t3, t4, t5, t6, t7, t8, t9, t10⟩ := id hty
  obtain ⟨v1, v2, v3⟩ := inR_nat (a := tn (τ3 15 6)) (b := 1000000) (tn_lt _) (by omega) (by rw [← t9]; exact h2)
  refine ⟨⟨_, _, rfl, hL, hty, by omega, hrl, tn s, tn t, u1, u2, u3, v1, v2, v3⟩, ?_⟩
  rintro τ5 ⟨k1, k2, k3, k4, k5, k6⟩
  obtain ⟨w1, w2, w3⟩ := prT_ok (o := τ3 3) (M := mC τ3) (c := tn (τ3 15 4)) (pat := tn (τ3 15 5)) (last := tn (τ3 15 6)) (s := tn s) (tick := tn t) (t := tsC τ3) t2 hrl u2 u3
  rw [← k6] at w1 w2 w3
  have hlt := lnOK_lt k5.2.1
  refine ⟨⟨_, rfl, tn (τ5 15 7), k5.1, hlt⟩, ?_⟩
  rintro x7 τ6 ⟨rfl, rfl⟩
  exact ⟨InvC_ty hp k1 k5 w3, w2, fun _ => ⟨k1, k2, k3, k4, k6, rfl⟩, fun z => absurd ⟨h1, h2⟩ z⟩
def pr_X9_settle : SPre := fun As σ => ∃ t : Int32, As = [.ref 0, .int t] ∧ (InvC σ ∧ szT (tsC σ) ≤ 700000)
def po_X9_settle : SPost := fun As σ r τ => match As with
  | [.ref _, .int t] => (InvC τ ∧ szT (tsC τ) ≤ szT (tsC σ) ∧ (inR t (σ 15 6) (nI 1000000) = true → fr [15, 16, 17] σ τ ∧ τ 15 4 = σ 15 4 ∧ τ 15 5 = σ 15 5 ∧ τ 15 6 = σ 15 6 ∧ tsC τ = stT (σ 3) (mC σ) (tn (σ 15 4)) t 3 (tsC σ) ∧ r = τ 15 2 - σ 15 2) ∧ (¬ inR t (σ 15 6) (nI 1000000) = true → τ = σ ∧ r = -1))
  | _ => True
def ms_X9_settle : List Me := [(128, 0, 7, 1, true, pr_X8_mayComeAt, po_X8_mayComeAt), (119, 0, 7, 2, false, pr_X8_settleAll, po_X8_settleAll)]
theorem mk_X9_settle : ∀ q ∈ ms_X9_settle, kp_okM layC RX9 5 q := List.forall_mem_cons.mpr ⟨Or.inl ⟨0, yX8_mayComeAt, cX8_mayComeAt, 2, (some .boolean), c_X8_mayComeAt, by omega, by decide, rfl, lk_X9_128⟩, List.forall_mem_cons.mpr ⟨Or.inl ⟨4, yX8_settleAll, cX8_settleAll, 4, none, c_X8_settleAll, by omega, by decide, rfl, lk_X9_119⟩, fun _ h => absurd h List.not_mem_nil⟩⟩
set_option maxRecDepth 100000 in
theorem v_X9_settle {J : Nat → Lcl → List Value → Sg → Prop} {Q : Int32 → Sg → Prop} (t : Int32) (σ : Sg) (h : pr_X8_mayComeAt [.ref 15, .int t] σ ∧ ∀ (x2 : Int32) (τ1 : Sg), po_X8_mayComeAt [.ref 15, .int t] σ x2 τ1 → ((¬ x2 = (nI 0) → pr_X8_settleAll [.ref 15, .ref 1, .int t] τ1 ∧ ∀ (τ3 : Sg), po_X8_settleAll [.ref 15, .ref 1, .int t] τ1 (nI 0) τ3 → (Q ((τ3 15 2) - (τ1 15 2)) τ3)) ∧ (x2 = (nI 0) → Q (-1) τ1))) : kp_T layC gl_X9 pl_X9 (ms_X9_settle) tb_X9_settle (kp_rk (some .int)) J Q 30 tb_X9_settle (kp_en [.ref 0, .int t] 3) [] σ := h
set_option maxRecDepth 100000 in
set_option maxHeartbeats 4000000 in
theorem c_X9_settle : kp_Met layC 5 yX9_settle cX9_settle 3 (some .int) (pr_X9_settle) (po_X9_settle) := by
  refine kp_met (N := 30) (by decide) tk_X9_settle gk_X9 pk_X9 (mk_X9_settle) rfl (fun _ _ _ _ _ _ _ => False) ?_ (fun _ _ _ _ _ _ _ _ h => h.elim)
  rintro As σ ⟨t, rfl, hp⟩
  refine ⟨⟨rfl, Nat.le_of_ble_eq_true rfl⟩, v_X9_settle t σ ?_⟩
  obtain ⟨hp, hsz⟩ := hp
  obtain ⟨hL, hkb, hty, hrl, hco, has, hsl⟩ := id hp
  refine ⟨⟨_, rfl, trivial⟩, ?_⟩
  rintro x2 τ1 ⟨rfl, rfl⟩
  rw [bI_0]
  refine ⟨fun h2 => ?_, fun h2 => ⟨hp, Nat.le_refl _, fun z => (by unfold inR at z; rw [h2] at z; cases z), fun _ => ⟨rfl, rfl⟩⟩⟩
  have h2 : inR t (τ1 15 6) (nI 1000000) = true := by unfold inR; simpa using h2
  refine ⟨⟨_, rfl, hL, hty, by omega⟩, ?_⟩
  rintro τ3 ⟨k1, k2, k3⟩
  obtain ⟨s1, s2, s3⟩ := stT_ok (o := τ1 3) (M := mC τ1) (c := tn (τ1 15 4)) (tick := t) 3 (tsC τ1) hty.2.1
  have h0 := s3 (show rlen (tsC τ1).1 ≤ 3 from rlen_le _)
  rw [← k3] at s2 h0
  have h0 : tn (τ3 15 7) = 0 := h0
  exact ⟨InvC_ty hp k1.1 k2 (by rw [h0]; decide), s2, fun _ => ⟨k1.1, k1.2.1, k1.2.2.1, k1.2.2.2, k3, rfl⟩, fun z => absurd h2 z⟩
def pr_X9_stretch : SPre := fun As σ => ∃ s : Int32, ∃ p : Int32, As = [.ref 0, .int s, .int p] ∧ (InvC σ)
def po_X9_stretch : SPost := fun As σ r τ => match As with
  | [.ref _, .int s, .int p] => (InvC τ ∧ (isSt s = true ∧ inR p (nI 0) (nI 100) = true → τ = kp_up (kp_up σ 19 (tn s) p) 23 5 (nI 0) ∧ r = nI 1) ∧ (¬ (isSt s = true ∧ inR p (nI 0) (nI 100) = true) → τ = σ ∧ r = nI 0))
  | _ => True
def ms_X9_stretch : List Me := [(125, 1, 0, 1, true, pr_X7_isStroke, po_X7_isStroke), (162, 0, 0, 0, false, pr_X0_forget, po_X0_forget)]
theorem mk_X9_stretch : ∀ q ∈ ms_X9_stretch, kp_okM layC RX9 1 q := List.forall_mem_cons.mpr ⟨Or.inl ⟨0, yX7_isStroke, cX7_isStroke, 1, (some .boolean), c_X7_isStroke, by omega, by decide, rfl, lk_X9_125⟩, List.forall_mem_cons.mpr ⟨Or.inl ⟨0, yX0_forget, cX0_forget, 1, none, c_X0_forget, by omega, by decide, rfl, lk_X9_162⟩, fun _ h => absurd h List.not_mem_nil⟩⟩
set_option maxRecDepth 100000 in
theorem v_X9_stretch {J : Nat → Lcl → List Value → Sg → Prop} {Q : Int32 → Sg → Prop} (s p : Int32) (σ : Sg) (h : pr_X7_isStroke [.int s] σ ∧ ∀ (x2 : Int32) (τ1 : Sg), po_X7_isStroke [.int s] σ x2 τ1 → ((x2 = (nI 0) → ((nI 0) = nI 0 ∨ (nI 0) = nI 1) ∧ Q (nI 0) τ1) ∧ (¬ x2 = (nI 0) → (p < (nI 0) → ((nI 0) = nI 0 ∨ (nI 0) = nI 1) ∧ Q (nI 0) τ1) ∧ (¬ p < (nI 0) → (¬ (nI 100) < p → vp_in s 241 ∧ (pr_X0_forget [.ref 23] (kp_up τ1 19 (s).toNatClampNeg p) ∧ ∀ (τ3 : Sg), po_X0_forget [.ref 23] (kp_up τ1 19 (s).toNatClampNeg p) (nI 0) τ3 → (((nI 1) = nI 0 ∨ (nI 1) = nI 1) ∧ Q (nI 1) τ3))) ∧ ((nI 100) < p → ((nI 0) = nI 0 ∨ (nI 0) = nI 1) ∧ Q (nI 0) τ1))))) : kp_T layC gl_X9 pl_X9 (ms_X9_stretch) tb_X9_stretch (kp_rk (some .boolean)) J Q 30 tb_X9_stretch (kp_en [.ref 0, .int s, .int p] 3) [] σ := h
set_option maxRecDepth 100000 in
set_option maxHeartbeats 4000000 in
theorem c_X9_stretch : kp_Met layC 1 yX9_stretch cX9_stretch 3 (some .boolean) (pr_X9_stretch) (po_X9_stretch) := by
  refine kp_met (N := 30) (by decide) tk_X9_stretch gk_X9 pk_X9 (mk_X9_stretch) rfl (fun _ _ _ _ _ _ _ => False) ?_ (fun _ _ _ _ _ _ _ _ h => h.elim)
  rintro As σ ⟨s, p, rfl, hp⟩
  refine ⟨⟨rfl, Nat.le_of_ble_eq_true rfl⟩, v_X9_stretch s p σ ?_⟩
  obtain ⟨hL, hkb, hty, hrl, hco, has, hsl⟩ := id hp
  refine ⟨⟨_, rfl, trivial⟩, ?_⟩
  rintro x2 τ1 ⟨rfl, rfl⟩
  rw [bI_0]
  refine ⟨fun h1 => ⟨Or.inl rfl, hp, fun z => (by rw [h1] at z; cases z.1), fun _ => ⟨rfl, rfl⟩⟩, fun h1 => ⟨fun h2 => ⟨Or.inl rfl, hp, fun z => absurd h2 (inR_iff.mp z.2).1, fun _ => ⟨rfl, rfl⟩⟩, fun h2 => ⟨fun h3 => ?_, fun h3 => ⟨Or.inl rfl, hp, fun z => absurd h3 (inR_iff.mp z.2).2, fun _ => ⟨rfl, rfl⟩⟩⟩⟩⟩
  have h1 : isSt s = true := by simpa using h1
  have hq := inR_iff.mpr ⟨h2, h3⟩
  obtain ⟨u1, u2, u3⟩ := inR_nat (by omega) (by omega) (show inR s (nI 1) (nI 240) = true from h1)
  obtain ⟨v1, v2, v3⟩ := inR_nat (by omega) (by omega) hq
  refine ⟨by rw [u1]; exact (kp_in (tn_lt _)).mpr (by omega), ⟨rfl, trivial⟩, ?_⟩
  rintro τ3 rfl
  refine ⟨Or.inr rfl, InvC_cs hp (fr_up (fr_up fr_rf (by decide)) (by decide)) ?_ ?_ up_s, fun _ => ⟨rfl, rfl⟩, fun z => absurd ⟨h1, hq⟩ z⟩
  · unfold cstC cstOK
    simp (disch := decide) only [up_c, kp_up_eq, pk_us, pk_un]
    refine ⟨fun x hx hx2 => ?_, hco.2⟩
    by_cases e : x = tn s
    · rw [e]
      have : upd (τ1 19) s.toNatClampNeg p (tn s) = p := pk_us
      rw [this]; exact ⟨v1, v3⟩
    · have : upd (τ1 19) s.toNatClampNeg p x = τ1 19 x := pk_un e
      rw [this]; exact hco.1 x hx hx2
  · unfold asOK nwC noC at *
    simp (disch := decide) only [up_c, kp_up_eq, pk_us, pk_un]
    exact has
def pr_X9_uses : SPre := fun As σ => ∃ c : Int32, ∃ n : Int32, As = [.ref 0, .int c, .int n] ∧ (InvC σ)
def po_X9_uses : SPost := fun As σ r τ => match As with
  | [.ref _, .int c, .int n] => (InvC τ ∧ (isCx (nI 40) c = true ∧ inR n (nI 0) (nI 1000) = true → τ = kp_up (kp_up σ 20 (tn c) n) 23 5 (nI 0) ∧ r = nI 1) ∧ (¬ (isCx (nI 40) c = true ∧ inR n (nI 0) (nI 1000) = true) → τ = σ ∧ r = nI 0))
  | _ => True
def ms_X9_uses : List Me := [(165, 1, 8, 1, true, pr_X9_isCommand, po_X9_isCommand), (162, 0, 0, 0, false, pr_X0_forget, po_X0_forget)]
theorem mk_X9_uses : ∀ q ∈ ms_X9_uses, kp_okM layC RX9 1 q := List.forall_mem_cons.mpr ⟨Or.inl ⟨0, yX9_isCommand, cX9_isCommand, 1, (some .boolean), c_X9_isCommand, by omega, by decide, rfl, lk_X9_165⟩, List.forall_mem_cons.mpr ⟨Or.inl ⟨0, yX0_forget, cX0_forget, 1, none, c_X0_forget, by omega, by decide, rfl, lk_X9_162⟩, fun _ h => absurd h List.not_mem_nil⟩⟩
set_option maxRecDepth 100000 in
theorem v_X9_uses {J : Nat → Lcl → List Value → Sg → Prop} {Q : Int32 → Sg → Prop} (c n : Int32) (σ : Sg) (h : pr_X9_isCommand [.int c] σ ∧ ∀ (x2 : Int32) (τ1 : Sg), po_X9_isCommand [.int c] σ x2 τ1 → ((x2 = (nI 0) → ((nI 0) = nI 0 ∨ (nI 0) = nI 1) ∧ Q (nI 0) τ1) ∧ (¬ x2 = (nI 0) → (n < (nI 0) → ((nI 0) = nI 0 ∨ (nI 0) = nI 1) ∧ Q (nI 0) τ1) ∧ (¬ n < (nI 0) → (¬ (nI 1000) < n → vp_in c 40 ∧ (pr_X0_forget [.ref 23] (kp_up τ1 20 (c).toNatClampNeg n) ∧ ∀ (τ3 : Sg), po_X0_forget [.ref 23] (kp_up τ1 20 (c).toNatClampNeg n) (nI 0) τ3 → (((nI 1) = nI 0 ∨ (nI 1) = nI 1) ∧ Q (nI 1) τ3))) ∧ ((nI 1000) < n → ((nI 0) = nI 0 ∨ (nI 0) = nI 1) ∧ Q (nI 0) τ1))))) : kp_T layC gl_X9 pl_X9 (ms_X9_uses) tb_X9_uses (kp_rk (some .boolean)) J Q 30 tb_X9_uses (kp_en [.ref 0, .int c, .int n] 3) [] σ := h
set_option maxRecDepth 100000 in
set_option maxHeartbeats 4000000 in
theorem c_X9_uses : kp_Met layC 1 yX9_uses cX9_uses 3 (some .boolean) (pr_X9_uses) (po_X9_uses) := by
  refine kp_met (N := 30) (by decide) tk_X9_uses gk_X9 pk_X9 (mk_X9_uses) rfl (fun _ _ _ _ _ _ _ => False) ?_ (fun _ _ _ _ _ _ _ _ h => h.elim)
  rintro As σ ⟨c, n, rfl, hp⟩
  refine ⟨⟨rfl, Nat.le_of_ble_eq_true rfl⟩, v_X9_uses c n σ ?_⟩
  obtain ⟨hL, hkb, hty, hrl, hco, has, hsl⟩ := id hp
  refine ⟨⟨_, rfl, trivial⟩, ?_⟩
  rintro x2 τ1 ⟨rfl, rfl⟩
  rw [bI_0]
  refine ⟨fun h1 => ⟨Or.inl rfl, hp, fun z => (by rw [h1] at z; cases z.1), fun _ => ⟨rfl, rfl⟩⟩, fun h1 => ⟨fun h2 => ⟨Or.inl rfl, hp, fun z => absurd h2 (inR_iff.mp z.2).1, fun _ => ⟨rfl, rfl⟩⟩, fun h2 => ⟨fun h3 => ?_, fun h3 => ⟨Or.inl rfl, hp, fun z => absurd h3 (inR_iff.mp z.2).2, fun _ => ⟨rfl, rfl⟩⟩⟩⟩⟩
  have h1 : isCx (nI 40) c = true := by simpa using h1
  have hq := inR_iff.mpr ⟨h2, h3⟩
  obtain ⟨v1, v2, v3⟩ := inR_nat (by omega) (by omega) hq
  obtain ⟨a, ha, rfl⟩ := (isCx_iff (by omega)).mp h1
  refine ⟨(kp_in (by omega)).mpr ha, ⟨rfl, trivial⟩, ?_⟩
  rintro τ3 rfl
  refine ⟨Or.inr rfl, InvC_cs hp (fr_up (fr_up fr_rf (by decide)) (by decide)) ?_ ?_ up_s, fun _ => ⟨rfl, rfl⟩, fun z => absurd ⟨h1, hq⟩ z⟩
  · unfold cstC cstOK
    simp (disch := decide) only [up_c, kp_up_eq, pk_us, pk_un]
    refine ⟨hco.1, fun x hx => ?_⟩
    by_cases e : x = tn (nI a)
    · rw [e]
      have : upd (τ1 20) (nI a).toNatClampNeg n (tn (nI a)) = n := pk_us
      rw [this]; exact ⟨⟨v1, v3⟩, (hco.2 _ (by rw [← e]; exact hx)).2⟩
    · have : upd (τ1 20) (nI a).toNatClampNeg n x = τ1 20 x := pk_un e
      rw [this]; exact hco.2 x hx
  · unfold asOK nwC noC at *
    simp (disch := decide) only [up_c, kp_up_eq, pk_us, pk_un]
    exact has
theorem inR_0 (s : Int32) : (s = nI 0 ∨ isSt s = true) ↔ inR s (nI 0) (nI 240) = true := by
  rw [isSt_inR, inR_iff, inR_iff]
  rw [lt_I, lt_I, lt_I, eq_I, nI_toInt (by omega), nI_toInt (by omega), nI_toInt (by omega)]
  omega
def pr_X9_habit : SPre := fun As σ => ∃ c : Int32, ∃ s : Int32, ∃ w : Int32, As = [.ref 0, .int c, .int s, .int w] ∧ (InvC σ)
def po_X9_habit : SPost := fun As σ r τ => match As with
  | [.ref _, .int c, .int s, .int w] => (InvC τ ∧ (isCx (nI 40) c = true ∧ inR s (nI 0) (nI 240) = true ∧ inR w (nI 0) (nI 10000) = true → τ = kp_up (kp_up (kp_up σ 21 (tn c) s) 22 (tn c) w) 23 5 (nI 0) ∧ r = nI 1) ∧ (¬ (isCx (nI 40) c = true ∧ inR s (nI 0) (nI 240) = true ∧ inR w (nI 0) (nI 10000) = true) → τ = σ ∧ r = nI 0))
  | _ => True
def ms_X9_habit : List Me := [(125, 1, 0, 1, true, pr_X7_isStroke, po_X7_isStroke), (165, 1, 8, 1, true, pr_X9_isCommand, po_X9_isCommand), (162, 0, 0, 0, false, pr_X0_forget, po_X0_forget)]
theorem mk_X9_habit : ∀ q ∈ ms_X9_habit, kp_okM layC RX9 1 q := List.forall_mem_cons.mpr ⟨Or.inl ⟨0, yX7_isStroke, cX7_isStroke, 1, (some .boolean), c_X7_isStroke, by omega, by decide, rfl, lk_X9_125⟩, List.forall_mem_cons.mpr ⟨Or.inl ⟨0, yX9_isCommand, cX9_isCommand, 1, (some .boolean), c_X9_isCommand, by omega, by decide, rfl, lk_X9_165⟩, List.forall_mem_cons.mpr ⟨Or.inl ⟨0, yX0_forget, cX0_forget, 1, none, c_X0_forget, by omega, by decide, rfl, lk_X9_162⟩, fun _ h => absurd h List.not_mem_nil⟩⟩⟩
set_option maxRecDepth 100000 in
theorem v_X9_habit {J : Nat → Lcl → List Value → Sg → Prop} {Q : Int32 → Sg → Prop} (c s w : Int32) (σ : Sg) (h : (s = (nI 0) → pr_X9_isCommand [.int c] σ ∧ ∀ (x2 : Int32) (τ1 : Sg), po_X9_isCommand [.int c] σ x2 τ1 → ((x2 = (nI 0) → ((nI 0) = nI 0 ∨ (nI 0) = nI 1) ∧ Q (nI 0) τ1) ∧ (¬ x2 = (nI 0) → ((nI 1) = (nI 0) → ((nI 0) = nI 0 ∨ (nI 0) = nI 1) ∧ Q (nI 0) τ1) ∧ (¬ (nI 1) = (nI 0) → (w < (nI 0) → ((nI 0) = nI 0 ∨ (nI 0) = nI 1) ∧ Q (nI 0) τ1) ∧ (¬ w < (nI 0) → (¬ (nI 10000) < w → vp_in c 40 ∧ (vp_in c 40 ∧ (pr_X0_forget [.ref 23] (kp_up (kp_up τ1 21 (c).toNatClampNeg s) 22 (c).toNatClampNeg w) ∧ ∀ (τ3 : Sg), po_X0_forget [.ref 23] (kp_up (kp_up τ1 21 (c).toNatClampNeg s) 22 (c).toNatClampNeg w) (nI 0) τ3 → (((nI 1) = nI 0 ∨ (nI 1) = nI 1) ∧ Q (nI 1) τ3)))) ∧ ((nI 10000) < w → ((nI 0) = nI 0 ∨ (nI 0) = nI 1) ∧ Q (nI 0) τ1)))))) ∧ (¬ s = (nI 0) → pr_X7_isStroke [.int s] σ ∧ ∀ (x5 : Int32) (τ4 : Sg), po_X7_isStroke [.int s] σ x5 τ4 → ((x5 = (nI 0) → pr_X9_isCommand [.int c] τ4 ∧ ∀ (x7 : Int32) (τ6 : Sg), po_X9_isCommand [.int c] τ4 x7 τ6 → ((x7 = (nI 0) → ((nI 0) = nI 0 ∨ (nI 0) = nI 1) ∧ Q (nI 0) τ6) ∧ (¬ x7 = (nI 0) → ((nI 0) = (nI 0) → ((nI 0) = nI 0 ∨ (nI 0) = nI 1) ∧ Q (nI 0) τ6) ∧ (¬ (nI 0) = (nI 0) → (w < (nI 0) → ((nI 0) = nI 0 ∨ (nI 0) = nI 1) ∧ Q (nI 0) τ6) ∧ (¬ w < (nI 0) → (¬ (nI 10000) < w → vp_in c 40 ∧ (vp_in c 40 ∧ (pr_X0_forget [.ref 23] (kp_up (kp_up τ6 21 (c).toNatClampNeg s) 22 (c).toNatClampNeg w) ∧ ∀ (τ8 : Sg), po_X0_forget [.ref 23] (kp_up (kp_up τ6 21 (c).toNatClampNeg s) 22 (c).toNatClampNeg w) (nI 0) τ8 → (((nI 1) = nI 0 ∨ (nI 1) = nI 1) ∧ Q (nI 1) τ8)))) ∧ ((nI 10000) < w → ((nI 0) = nI 0 ∨ (nI 0) = nI 1) ∧ Q (nI 0) τ6)))))) ∧ (¬ x5 = (nI 0) → pr_X9_isCommand [.int c] τ4 ∧ ∀ (x10 : Int32) (τ9 : Sg), po_X9_isCommand [.int c] τ4 x10 τ9 → ((x10 = (nI 0) → ((nI 0) = nI 0 ∨ (nI 0) = nI 1) ∧ Q (nI 0) τ9) ∧ (¬ x10 = (nI 0) → ((nI 1) = (nI 0) → ((nI 0) = nI 0 ∨ (nI 0) = nI 1) ∧ Q (nI 0) τ9) ∧ (¬ (nI 1) = (nI 0) → (w < (nI 0) → ((nI 0) = nI 0 ∨ (nI 0) = nI 1) ∧ Q (nI 0) τ9) ∧ (¬ w < (nI 0) → (¬ (nI 10000) < w → vp_in c 40 ∧ (vp_in c 40 ∧ (pr_X0_forget [.ref 23] (kp_up (kp_up τ9 21 (c).toNatClampNeg s) 22 (c).toNatClampNeg w) ∧ ∀ (τ11 : Sg), po_X0_forget [.ref 23] (kp_up (kp_up τ9 21 (c).toNatClampNeg s) 22 (c).toNatClampNeg w) (nI 0) τ11 → (((nI 1) = nI 0 ∨ (nI 1) = nI 1) ∧ Q (nI 1) τ11)))) ∧ ((nI 10000) < w → ((nI 0) = nI 0 ∨ (nI 0) = nI 1) ∧ Q (nI 0) τ9))))))))) : kp_T layC gl_X9 pl_X9 (ms_X9_habit) tb_X9_habit (kp_rk (some .boolean)) J Q 43 tb_X9_habit (kp_en [.ref 0, .int c, .int s, .int w] 5) [] σ := h
set_option maxRecDepth 100000 in
set_option maxHeartbeats 4000000 in
theorem c_X9_habit : kp_Met layC 1 yX9_habit cX9_habit 5 (some .boolean) (pr_X9_habit) (po_X9_habit) := by
  refine kp_met (N := 43) (by decide) tk_X9_habit gk_X9 pk_X9 (mk_X9_habit) rfl (fun _ _ _ _ _ _ _ => False) ?_ (fun _ _ _ _ _ _ _ _ h => h.elim)
  rintro As σ ⟨c, s, w, rfl, hp⟩
  refine ⟨⟨rfl, Nat.le_of_ble_eq_true rfl⟩, v_X9_habit c s w σ ?_⟩
  obtain ⟨hL, hkb, hty, hrl, hco, has, hsl⟩ := id hp
  have h01 : (nI 0 : Int32) ≠ nI 1 := by decide
  have h10 : (nI 1 : Int32) ≠ nI 0 := by decide
  have main : inR s (nI 0) (nI 240) = true → (pr_X9_isCommand [.int c] σ ∧ ∀ (x2 : Int32) (τ1 : Sg), po_X9_isCommand [.int c] σ x2 τ1 →
      (x2 = nI 0 → (nI 0 = nI 0 ∨ nI 0 = nI 1) ∧ po_X9_habit [.ref 0, .int c, .int s, .int w] σ (nI 0) τ1) ∧ (¬ x2 = nI 0 → ((nI 1 : Int32) = nI 0 → (nI 0 = nI 0 ∨ nI 0 = nI 1) ∧ po_X9_habit [.ref 0, .int c, .int s, .int w] σ (nI 0) τ1) ∧ (¬ (nI 1 : Int32) = nI 0 → (w < nI 0 → (nI 0 = nI 0 ∨ nI 0 = nI 1) ∧ po_X9_habit [.ref 0, .int c, .int s, .int w] σ (nI 0) τ1) ∧ (¬ w < nI 0 → (¬ nI 10000 < w → vp_in c 40 ∧ vp_in c 40 ∧ pr_X0_forget [.ref 23] (kp_up (kp_up τ1 21 c.toNatClampNeg s) 22 c.toNatClampNeg w) ∧ ∀ (τ3 : Sg), po_X0_forget [.ref 23] (kp_up (kp_up τ1 21 c.toNatClampNeg s) 22 c.toNatClampNeg w) (nI 0) τ3 → ((nI 1 = nI 0 ∨ nI 1 = nI 1) ∧ po_X9_habit [.ref 0, .int c, .int s, .int w] σ (nI 1) τ3)) ∧ (nI 10000 < w → (nI 0 = nI 0 ∨ nI 0 = nI 1) ∧ po_X9_habit [.ref 0, .int c, .int s, .int w] σ (nI 0) τ1))))) := by
    intro hs
    refine ⟨⟨_, rfl, trivial⟩, ?_⟩
    rintro x2 τ1 ⟨rfl, rfl⟩
    rw [bI_0]
    refine ⟨fun h1 => ⟨Or.inl rfl, hp, fun z => (by rw [h1] at z; cases z.1), fun _ => ⟨rfl, rfl⟩⟩, fun h1 => ⟨fun z => absurd z h10, fun _ => ⟨fun h2 => ⟨Or.inl rfl, hp, fun z => absurd h2 (inR_iff.mp z.2.2).1, fun _ => ⟨rfl, rfl⟩⟩, fun h2 => ⟨fun h3 => ?_, fun h3 => ⟨Or.inl rfl, hp, fun z => absurd h3 (inR_iff.mp z.2.2).2, fun _ => ⟨rfl, rfl⟩⟩⟩⟩⟩⟩
    have h1 : isCx (nI 40) c = true := by simpa using h1
    have hq := inR_iff.mpr ⟨h2, h3⟩
    obtain ⟨v1, v2, v3⟩ := inR_nat (by omega) (by omega) hq
    obtain ⟨s1, s2, s3⟩ := inR_nat (by omega) (by omega) hs
    obtain ⟨a, ha, rfl⟩ := (isCx_iff (by omega)).mp h1
    refine ⟨(kp_in (by omega)).mpr ha, (kp_in (by omega)).mpr ha, ⟨rfl, trivial⟩, ?_⟩
    rintro τ3 rfl
    refine ⟨Or.inr rfl, InvC_cs hp (fr_up (fr_up (fr_up fr_rf (by decide)) (by decide)) (by decide)) ?_ ?_ up_s, fun _ => ⟨rfl, rfl⟩, fun z => absurd ⟨h1, hs, hq⟩ z⟩
    · unfold cstC cstOK
      simp (disch := decide) only [up_c, kp_up_eq, pk_us, pk_un]
      refine ⟨hco.1, fun x hx => ?_⟩
      by_cases e : x = tn (nI a)
      · rw [e]
        have e1 : upd (τ1 21) (nI a).toNatClampNeg s (tn (nI a)) = s := pk_us
        have e2 : upd (τ1 22) (nI a).toNatClampNeg w (tn (nI a)) = w := pk_us
        rw [e1, e2]; exact ⟨(hco.2 _ (by rw [← e]; exact hx)).1, ⟨s1, s3⟩, v1, v3⟩
      · have e1 : upd (τ1 21) (nI a).toNatClampNeg s x = τ1 21 x := pk_un e
        have e2 : upd (τ1 22) (nI a).toNatClampNeg w x = τ1 22 x := pk_un e
        rw [e1, e2]; exact hco.2 x hx
    · unfold asOK nwC noC at *
      simp (disch := decide) only [up_c, kp_up_eq, pk_us, pk_un]
      exact has
  refine ⟨fun h => main ((inR_0 s).mp (Or.inl h)), fun h => ⟨⟨_, rfl, trivial⟩, ?_⟩⟩
  rintro x5 τ4 ⟨rfl, rfl⟩
  rw [bI_0]
  refine ⟨fun h1 => ⟨⟨_, rfl, trivial⟩, ?_⟩, fun h1 => main ((inR_0 s).mp (Or.inr (by simpa using h1)))⟩
  rintro x7 τ6 ⟨rfl, rfl⟩
  have hno : ¬ inR s (nI 0) (nI 240) = true := fun z => by
    rcases (inR_0 s).mpr z with q | q
    · exact h q
    · rw [h1] at q; cases q
  exact ⟨fun h2 => ⟨Or.inl rfl, hp, fun z => absurd z.2.1 hno, fun _ => ⟨rfl, rfl⟩⟩, fun h2 => ⟨fun _ => ⟨Or.inl rfl, hp, fun z => absurd z.2.1 hno, fun _ => ⟨rfl, rfl⟩⟩, fun z => absurd rfl z⟩⟩
def pr_X9_want : SPre := fun As σ => ∃ c : Int32, ∃ x : Int32, As = [.ref 0, .int c, .int x] ∧ (InvC σ)
def po_X9_want : SPost := fun As σ r τ => match As with
  | [.ref _, .int c, .int x] => (InvC τ ∧ (isCx (nI 40) c = true ∧ isCx (σ 2 1) x = true ∧ nwC σ < 6 ∧ (∀ j, j < nwC σ → σ 24 j ≠ c) → τ = kp_up (kp_up (kp_up (kp_up σ 24 (nwC σ) c) 25 (nwC σ) x) 23 2 (nI (nwC σ + 1))) 23 5 (nI 0) ∧ r = nI (nwC σ + 1)) ∧ (¬ (isCx (nI 40) c = true ∧ isCx (σ 2 1) x = true ∧ nwC σ < 6 ∧ (∀ j, j < nwC σ → σ 24 j ≠ c)) → τ = σ ∧ r = -1))
  | _ => True
def ms_X9_want : List Me := [(165, 1, 8, 1, true, pr_X9_isCommand, po_X9_isCommand), (72, 0, 2, 1, true, pr_X2_hold, po_X2_hold), (177, 0, 0, 2, true, pr_X0_addWanted, po_X0_addWanted)]
theorem mk_X9_want : ∀ q ∈ ms_X9_want, kp_okM layC RX9 2 q := List.forall_mem_cons.mpr ⟨Or.inl ⟨0, yX9_isCommand, cX9_isCommand, 1, (some .boolean), c_X9_isCommand, by omega, by decide, rfl, lk_X9_165⟩, List.forall_mem_cons.mpr ⟨Or.inl ⟨0, yX2_hold, cX2_hold, 2, (some .boolean), c_X2_hold, by omega, by decide, rfl, lk_X9_72⟩, List.forall_mem_cons.mpr ⟨Or.inl ⟨1, yX0_addWanted, cX0_addWanted, 3, (some .int), c_X0_addWanted, by omega, by decide, rfl, lk_X9_177⟩, fun _ h => absurd h List.not_mem_nil⟩⟩⟩
set_option maxRecDepth 100000 in
theorem v_X9_want {J : Nat → Lcl → List Value → Sg → Prop} {Q : Int32 → Sg → Prop} (c x : Int32) (σ : Sg) (h : pr_X9_isCommand [.int c] σ ∧ ∀ (x2 : Int32) (τ1 : Sg), po_X9_isCommand [.int c] σ x2 τ1 → ((x2 = (nI 0) → Q (-1) τ1) ∧ (¬ x2 = (nI 0) → pr_X2_hold [.ref 2, .int x] τ1 ∧ ∀ (x4 : Int32) (τ3 : Sg), po_X2_hold [.ref 2, .int x] τ1 x4 τ3 → ((¬ x4 = (nI 0) → pr_X0_addWanted [.ref 23, .int c, .int x] τ3 ∧ ∀ (x6 : Int32) (τ5 : Sg), po_X0_addWanted [.ref 23, .int c, .int x] τ3 x6 τ5 → (Q x6 τ5)) ∧ (x4 = (nI 0) → Q (-1) τ3))))) : kp_T layC gl_X9 pl_X9 (ms_X9_want) tb_X9_want (kp_rk (some .int)) J Q 30 tb_X9_want (kp_en [.ref 0, .int c, .int x] 3) [] σ := h
set_option maxRecDepth 100000 in
set_option maxHeartbeats 4000000 in
theorem c_X9_want : kp_Met layC 2 yX9_want cX9_want 3 (some .int) (pr_X9_want) (po_X9_want) := by
  refine kp_met (N := 30) (by decide) tk_X9_want gk_X9 pk_X9 (mk_X9_want) rfl (fun _ _ _ _ _ _ _ => False) ?_ (fun _ _ _ _ _ _ _ _ h => h.elim)
  rintro As σ ⟨c, x, rfl, hp⟩
  refine ⟨⟨rfl, Nat.le_of_ble_eq_true rfl⟩, v_X9_want c x σ ?_⟩
  obtain ⟨hL, hkb, hty, hrl, hco, has, hsl⟩ := id hp
  refine ⟨⟨_, rfl, trivial⟩, ?_⟩
  rintro x2 τ1 ⟨rfl, rfl⟩
  rw [bI_0]
  refine ⟨fun h1 => ⟨hp, fun z => (by have q := z.1; rw [h1] at q; cases q), fun _ => ⟨rfl, rfl⟩⟩, fun h1 => ⟨⟨_, rfl, trivial⟩, ?_⟩⟩
  have h1 : isCx (nI 40) c = true := by simpa using h1
  rintro x4 τ3 ⟨rfl, rfl⟩
  rw [bI_0]
  refine ⟨fun h2 => ?_, fun h2 => ⟨hp, fun z => (by have q := z.2.1; rw [h2] at q; cases q), fun _ => ⟨rfl, rfl⟩⟩⟩
  have h2 : isCx (τ3 2 1) x = true := by simpa using h2
  refine ⟨⟨_, _, rfl, has.1, has.2.1⟩, ?_⟩
  rintro x6 τ5 ⟨k1, k2⟩
  by_cases hc : nwC τ3 < 6 ∧ (∀ j, j < nwC τ3 → τ3 24 j ≠ c)
  · obtain ⟨rfl, rfl⟩ := k1 hc
    refine ⟨InvC_cs hp (fr_up (fr_up (fr_up (fr_up fr_rf (by decide)) (by decide)) (by decide)) (by decide)) ?_ ?_ up_s, fun _ => ⟨rfl, rfl⟩, fun z => absurd ⟨h1, h2, hc⟩ z⟩
    · unfold cstC
      simp (disch := decide) only [up_c, kp_up_eq, pk_us, pk_un]
      exact hco
    · obtain ⟨n, hn, n1, n2, -, -⟩ := hL.1
      have hcc : nn x ∧ tn x < tn (τ3 2 1) := by
        rw [hn] at h2 ⊢
        obtain ⟨a, ha, rfl⟩ := (isCx_iff (by omega)).mp h2
        rw [tn_nI (show n < 2 ^ 31 by omega)]
        exact ⟨nn_nI (by omega), by rw [tn_nI (by omega)]; exact ha⟩
      have hcd : nn c ∧ tn c < 40 := by
        obtain ⟨a, ha, rfl⟩ := (isCx_iff (by omega)).mp h1
        exact ⟨nn_nI (by omega), by rw [tn_nI (by omega)]; exact ha⟩
      obtain ⟨s1, s2, s3, s4, s5, s6⟩ := has
      have en : nwC τ3 = tn (τ3 23 2) := rfl
      unfold asOK nwC noC
      simp (disch := decide) only [up_c, kp_up_eq, pk_us, pk_un]
      rw [tn_nI (by omega)]
      refine ⟨nn_nI (by omega), by omega, s3, s4, fun i hi => ?_, s6⟩
      by_cases e : i = tn (τ3 23 2)
      · rw [e, pk_us, pk_us]; exact ⟨hcd.1, hcd.2, hcc.1, hcc.2⟩
      · rw [pk_un e, pk_un e]; exact s5 i (by omega)
  · obtain ⟨rfl, rfl⟩ := k2 hc
    exact ⟨hp, fun z => absurd z.2.2 hc, fun _ => ⟨rfl, rfl⟩⟩
def pr_X9_offer : SPre := fun As σ => ∃ s : Int32, As = [.ref 0, .int s] ∧ (InvC σ)
def po_X9_offer : SPost := fun As σ r τ => match As with
  | [.ref _, .int s] => (InvC τ ∧ (isSt s = true ∧ noC σ < 8 ∧ (∀ j, j < noC σ → σ 26 j ≠ s) → τ = kp_up (kp_up (kp_up σ 26 (noC σ) s) 23 4 (nI (noC σ + 1))) 23 5 (nI 0) ∧ r = nI (noC σ + 1)) ∧ (¬ (isSt s = true ∧ noC σ < 8 ∧ (∀ j, j < noC σ → σ 26 j ≠ s)) → τ = σ ∧ r = -1))
  | _ => True
def ms_X9_offer : List Me := [(125, 1, 0, 1, true, pr_X7_isStroke, po_X7_isStroke), (180, 0, 0, 1, true, pr_X0_addOffered, po_X0_addOffered)]
theorem mk_X9_offer : ∀ q ∈ ms_X9_offer, kp_okM layC RX9 2 q := List.forall_mem_cons.mpr ⟨Or.inl ⟨0, yX7_isStroke, cX7_isStroke, 1, (some .boolean), c_X7_isStroke, by omega, by decide, rfl, lk_X9_125⟩, List.forall_mem_cons.mpr ⟨Or.inl ⟨1, yX0_addOffered, cX0_addOffered, 2, (some .int), c_X0_addOffered, by omega, by decide, rfl, lk_X9_180⟩, fun _ h => absurd h List.not_mem_nil⟩⟩
set_option maxRecDepth 100000 in
theorem v_X9_offer {J : Nat → Lcl → List Value → Sg → Prop} {Q : Int32 → Sg → Prop} (s : Int32) (σ : Sg) (h : pr_X7_isStroke [.int s] σ ∧ ∀ (x2 : Int32) (τ1 : Sg), po_X7_isStroke [.int s] σ x2 τ1 → ((¬ x2 = (nI 0) → pr_X0_addOffered [.ref 23, .int s] τ1 ∧ ∀ (x4 : Int32) (τ3 : Sg), po_X0_addOffered [.ref 23, .int s] τ1 x4 τ3 → (Q x4 τ3)) ∧ (x2 = (nI 0) → Q (-1) τ1))) : kp_T layC gl_X9 pl_X9 (ms_X9_offer) tb_X9_offer (kp_rk (some .int)) J Q 30 tb_X9_offer (kp_en [.ref 0, .int s] 2) [] σ := h
set_option maxRecDepth 100000 in
set_option maxHeartbeats 4000000 in
theorem c_X9_offer : kp_Met layC 2 yX9_offer cX9_offer 2 (some .int) (pr_X9_offer) (po_X9_offer) := by
  refine kp_met (N := 30) (by decide) tk_X9_offer gk_X9 pk_X9 (mk_X9_offer) rfl (fun _ _ _ _ _ _ _ => False) ?_ (fun _ _ _ _ _ _ _ _ h => h.elim)
  rintro As σ ⟨s, rfl, hp⟩
  refine ⟨⟨rfl, Nat.le_of_ble_eq_true rfl⟩, v_X9_offer s σ ?_⟩
  obtain ⟨hL, hkb, hty, hrl, hco, has, hsl⟩ := id hp
  refine ⟨⟨_, rfl, trivial⟩, ?_⟩
  rintro x2 τ1 ⟨rfl, rfl⟩
  rw [bI_0]
  refine ⟨fun h1 => ?_, fun h1 => ⟨hp, fun z => (by have q := z.1; rw [h1] at q; cases q), fun _ => ⟨rfl, rfl⟩⟩⟩
  have h1 : isSt s = true := by simpa using h1
  refine ⟨⟨_, rfl, has.2.2.1, has.2.2.2.1⟩, ?_⟩
  rintro x6 τ5 ⟨k1, k2⟩
  by_cases hc : noC τ1 < 8 ∧ (∀ j, j < noC τ1 → τ1 26 j ≠ s)
  · obtain ⟨rfl, rfl⟩ := k1 hc
    refine ⟨InvC_cs hp (fr_up (fr_up (fr_up fr_rf (by decide)) (by decide)) (by decide)) ?_ ?_ up_s, fun _ => ⟨rfl, rfl⟩, fun z => absurd ⟨h1, hc⟩ z⟩
    · unfold cstC
      simp (disch := decide) only [up_c, kp_up_eq, pk_us, pk_un]
      exact hco
    · obtain ⟨u1, u2, u3⟩ := inR_nat (by omega) (by omega) (show inR s (nI 1) (nI 240) = true from h1)
      obtain ⟨s1, s2, s3, s4, s5, s6⟩ := has
      have en : noC τ1 = tn (τ1 23 4) := rfl
      unfold asOK nwC noC
      simp (disch := decide) only [up_c, kp_up_eq, pk_us, pk_un]
      rw [tn_nI (show tn (τ1 23 4) + 1 < 2 ^ 31 by omega)]
      refine ⟨s1, s2, nn_nI (by omega), by omega, s5, fun i hi => ?_⟩
      by_cases e : i = tn (τ1 23 4)
      · rw [e, pk_us]; exact ⟨u1, u2, u3⟩
      · rw [pk_un e]; exact s6 i (by omega)
  · obtain ⟨rfl, rfl⟩ := k2 hc
    exact ⟨hp, fun z => absurd z.2 hc, fun _ => ⟨rfl, rfl⟩⟩
def pr_X9_clear : SPre := fun As σ => As = [.ref 0] ∧ (InvC σ)
def po_X9_clear : SPost := fun As σ r τ => match As with
  | [.ref _] => (InvC τ ∧ τ = kp_up (kp_up (kp_up σ 23 2 (nI 0)) 23 4 (nI 0)) 23 5 (nI 0))
  | _ => True
def ms_X9_clear : List Me := [(183, 0, 0, 0, false, pr_X0_empty, po_X0_empty)]
theorem mk_X9_clear : ∀ q ∈ ms_X9_clear, kp_okM layC RX9 2 q := List.forall_mem_cons.mpr ⟨Or.inl ⟨1, yX0_empty, cX0_empty, 1, none, c_X0_empty, by omega, by decide, rfl, lk_X9_183⟩, fun _ h => absurd h List.not_mem_nil⟩
set_option maxRecDepth 100000 in
theorem v_X9_clear {J : Nat → Lcl → List Value → Sg → Prop} {Q : Int32 → Sg → Prop}  (σ : Sg) (h : pr_X0_empty [.ref 23] σ ∧ ∀ (τ1 : Sg), po_X0_empty [.ref 23] σ (nI 0) τ1 → (Q (nI 0) τ1)) : kp_T layC gl_X9 pl_X9 (ms_X9_clear) tb_X9_clear (kp_rk none) J Q 30 tb_X9_clear (kp_en [.ref 0] 1) [] σ := h
set_option maxRecDepth 100000 in
set_option maxHeartbeats 4000000 in
theorem c_X9_clear : kp_Met layC 2 yX9_clear cX9_clear 1 none (pr_X9_clear) (po_X9_clear) := by
  refine kp_met (N := 30) (by decide) tk_X9_clear gk_X9 pk_X9 (mk_X9_clear) rfl (fun _ _ _ _ _ _ _ => False) ?_ (fun _ _ _ _ _ _ _ _ h => h.elim)
  rintro As σ ⟨rfl, hp⟩
  refine ⟨⟨rfl, Nat.le_of_ble_eq_true rfl⟩, v_X9_clear σ ?_⟩
  obtain ⟨hL, hkb, hty, hrl, hco, has, hsl⟩ := id hp
  refine ⟨⟨rfl, trivial⟩, ?_⟩
  rintro τ1 rfl
  refine ⟨InvC_cs hp (fr_up (fr_up (fr_up fr_rf (by decide)) (by decide)) (by decide)) ?_ ?_ up_s, rfl⟩
  · unfold cstC
    simp (disch := decide) only [up_c, kp_up_eq, pk_us, pk_un]
    exact hco
  · unfold asOK nwC noC
    simp (disch := decide) only [up_c, kp_up_eq, pk_us, pk_un]
    rw [tn_nI (by omega)]
    exact ⟨nn_nI (by omega), by omega, nn_nI (by omega), by omega, fun i hi => by omega, fun i hi => by omega⟩
end
section
/-! KeyPlan's own methods: the cheapest assignment, what changed, what is to be learnt -/
def bsV : BS → Int32
  | none => -1
  | some q => nI q.1
def asA (b : BS) (i : Int32) : Int32 := match b with
  | none => -1
  | some q => if i < nI 0 then -1 else match q.2[tn i]? with
    | none => -1
    | some s => nI s
def brA (ha wc : Nat → Int32) (nw : Nat) : BS → Int32
  | none => -1
  | some q => nI (bkN (fun i => brk ha (tn (wc i)) (q.2.getD i 0)) nw)
theorem rmap_get {n : Nat} {f : Nat → Nat} {i : Nat} (h : i < n) : ((List.range n).map f)[i]? = some (f i) := by simp [h]
theorem rmap_gn {n : Nat} {f : Nat → Nat} {i : Nat} (h : ¬ i < n) : ((List.range n).map f)[i]? = none := by simp; omega
theorem rmap_gD {n : Nat} {f : Nat → Nat} {i : Nat} (h : i < n) : ((List.range n).map f).getD i 0 = f i := by rw [List.getD_eq_getElem?_getD, rmap_get h]; rfl
theorem sv_case {σ τ : Sg} (h : slv τ) (he : RS τ = RS σ) : (τ 23 6 = -1 ∧ RS σ = none) ∨ (τ 23 6 ≠ -1 ∧ nn (τ 23 6) ∧ RS σ = some (tn (τ 23 6), (List.range (nwC τ)).map fun i => tn (τ 27 i))) := by
  obtain ⟨h1, h2⟩ := h
  rw [he] at h2
  unfold bsC at h2
  by_cases q : τ 23 6 = -1
  · rw [if_pos q] at h2; exact Or.inl ⟨q, h2.symm⟩
  · rw [if_neg q] at h2; exact Or.inr ⟨q, h1.resolve_left q, h2.symm⟩
def pr_X9_cheapest : SPre := fun As σ => As = [.ref 0] ∧ (InvC σ)
def po_X9_cheapest : SPost := fun As σ r τ => match As with
  | [.ref _] => (InvC τ ∧ fr svF σ τ ∧ τ 23 2 = σ 23 2 ∧ τ 23 4 = σ 23 4 ∧ r = bsV (RS σ))
  | _ => True
def ms_X9_cheapest : List Me := [(186, 0, 0, 2, false, pr_X0_solve, po_X0_solve)]
theorem mk_X9_cheapest : ∀ q ∈ ms_X9_cheapest, kp_okM layC RX9 11 q := List.forall_mem_cons.mpr ⟨Or.inl ⟨10, yX0_solve, cX0_solve, 3, none, c_X0_solve, by omega, by decide, rfl, lk_X9_186⟩, fun _ h => absurd h List.not_mem_nil⟩
set_option maxRecDepth 100000 in
theorem v_X9_cheapest {J : Nat → Lcl → List Value → Sg → Prop} {Q : Int32 → Sg → Prop}  (σ : Sg) (h : pr_X0_solve [.ref 23, .ref 18, .ref 2] σ ∧ ∀ (τ1 : Sg), po_X0_solve [.ref 23, .ref 18, .ref 2] σ (nI 0) τ1 → (Q (τ1 23 6) τ1)) : kp_T layC gl_X9 pl_X9 (ms_X9_cheapest) tb_X9_cheapest (kp_rk (some .int)) J Q 30 tb_X9_cheapest (kp_en [.ref 0] 1) [] σ := h
set_option maxRecDepth 100000 in
set_option maxHeartbeats 4000000 in
theorem c_X9_cheapest : kp_Met layC 11 yX9_cheapest cX9_cheapest 1 (some .int) (pr_X9_cheapest) (po_X9_cheapest) := by
  refine kp_met (N := 30) (by decide) tk_X9_cheapest gk_X9 pk_X9 (mk_X9_cheapest) rfl (fun _ _ _ _ _ _ _ => False) ?_ (fun _ _ _ _ _ _ _ _ h => h.elim)
  rintro As σ ⟨rfl, hp⟩
  refine ⟨⟨rfl, Nat.le_of_ble_eq_true rfl⟩, v_X9_cheapest σ ?_⟩
  obtain ⟨hL, hkb, hty, hrl, hco, has, hsl⟩ := id hp
  refine ⟨⟨rfl, has, hco, hL.1, hsl⟩, ?_⟩
  rintro τ1 ⟨k1, k2, k3, k4, k5, k6, k7⟩
  refine ⟨InvC_sv hp k1 k5 k7, k1, k2 2 (by decide) (by decide), k2 4 (by decide) (by decide), ?_⟩
  rcases sv_case k7 k6 with ⟨q1, q2⟩ | ⟨q1, q3, q2⟩
  · rw [q1, q2]; rfl
  · rw [q2]; exact q3
def pr_X9_assigned : SPre := fun As σ => ∃ i : Int32, As = [.ref 0, .int i] ∧ (InvC σ)
def po_X9_assigned : SPost := fun As σ r τ => match As with
  | [.ref _, .int i] => (InvC τ ∧ fr svF σ τ ∧ τ 23 2 = σ 23 2 ∧ τ 23 4 = σ 23 4 ∧ r = asA (RS σ) i)
  | _ => True
def ms_X9_assigned : List Me := [(186, 0, 0, 2, false, pr_X0_solve, po_X0_solve)]
theorem mk_X9_assigned : ∀ q ∈ ms_X9_assigned, kp_okM layC RX9 11 q := List.forall_mem_cons.mpr ⟨Or.inl ⟨10, yX0_solve, cX0_solve, 3, none, c_X0_solve, by omega, by decide, rfl, lk_X9_186⟩, fun _ h => absurd h List.not_mem_nil⟩
set_option maxRecDepth 100000 in
theorem v_X9_assigned {J : Nat → Lcl → List Value → Sg → Prop} {Q : Int32 → Sg → Prop} (i : Int32) (σ : Sg) (h : pr_X0_solve [.ref 23, .ref 18, .ref 2] σ ∧ ∀ (τ1 : Sg), po_X0_solve [.ref 23, .ref 18, .ref 2] σ (nI 0) τ1 → (((τ1 23 6) = (-1) → Q (-1) τ1) ∧ (¬ (τ1 23 6) = (-1) → (i < (nI 0) → Q (-1) τ1) ∧ (¬ i < (nI 0) → (i < (τ1 23 2) → vp_in i 6 ∧ (Q (τ1 27 (i).toNatClampNeg) τ1)) ∧ (¬ i < (τ1 23 2) → Q (-1) τ1))))) : kp_T layC gl_X9 pl_X9 (ms_X9_assigned) tb_X9_assigned (kp_rk (some .int)) J Q 33 tb_X9_assigned (kp_en [.ref 0, .int i] 2) [] σ := h
set_option maxRecDepth 100000 in
set_option maxHeartbeats 4000000 in
theorem c_X9_assigned : kp_Met layC 11 yX9_assigned cX9_assigned 2 (some .int) (pr_X9_assigned) (po_X9_assigned) := by
  refine kp_met (N := 33) (by decide) tk_X9_assigned gk_X9 pk_X9 (mk_X9_assigned) rfl (fun _ _ _ _ _ _ _ => False) ?_ (fun _ _ _ _ _ _ _ _ h => h.elim)
  rintro As σ ⟨i, rfl, hp⟩
  refine ⟨⟨rfl, Nat.le_of_ble_eq_true rfl⟩, v_X9_assigned i σ ?_⟩
  obtain ⟨hL, hkb, hty, hrl, hco, has, hsl⟩ := id hp
  refine ⟨⟨rfl, has, hco, hL.1, hsl⟩, ?_⟩
  rintro τ1 ⟨k1, k2, k3, k4, k5, k6, k7⟩
  have hQ : ∀ r, r = asA (RS σ) i → po_X9_assigned [.ref 0, .int i] σ r τ1 := fun r h => ⟨InvC_sv hp k1 k5 k7, k1, k2 2 (by decide) (by decide), k2 4 (by decide) (by decide), h⟩
  have hst := slv_strokes k5 k7
  rcases sv_case k7 k6 with ⟨q1, q2⟩ | ⟨q1, q3, q2⟩
  · exact ⟨fun _ => hQ _ (by rw [q2]; rfl), fun z => absurd q1 z⟩
  · refine ⟨fun z => absurd z q1, fun _ => ⟨fun h => hQ _ (by rw [q2]; show _ = (if i < nI 0 then _ else _); rw [if_pos h]), fun h => ?_⟩⟩
    have hni : nn i := (nI_tn h).symm
    have en : nwC τ1 = tn (τ1 23 2) := rfl
    have hlt : i < τ1 23 2 ↔ tn i < nwC τ1 := by rw [k5.1, (nn_lt hni (tn_lt _)).2]
    have h6 := k5.2.1
    rw [hlt]
    refine ⟨fun h2 => ⟨by rw [hni]; exact (kp_in (tn_lt _)).mpr (by omega), hQ _ ?_⟩, fun h2 => hQ _ ?_⟩
    · rw [q2]
      show _ = (if i < nI 0 then _ else _)
      rw [if_neg h]
      dsimp only
      rw [rmap_get h2]
      exact (hst q1 _ h2).1
    · rw [q2]
      show _ = (if i < nI 0 then _ else _)
      rw [if_neg h]
      dsimp only
      rw [rmap_gn h2]
def pr_X9_broken : SPre := fun As σ => As = [.ref 0] ∧ (InvC σ)
def po_X9_broken : SPost := fun As σ r τ => match As with
  | [.ref _] => (InvC τ ∧ fr svF σ τ ∧ τ 23 2 = σ 23 2 ∧ τ 23 4 = σ 23 4 ∧ r = brA (σ 21) (σ 24) (nwC σ) (RS σ))
  | _ => True
def ms_X9_broken : List Me := [(186, 0, 0, 2, false, pr_X0_solve, po_X0_solve), (199, 0, 0, 1, true, pr_X0_brokenHabits, po_X0_brokenHabits)]
theorem mk_X9_broken : ∀ q ∈ ms_X9_broken, kp_okM layC RX9 11 q := List.forall_mem_cons.mpr ⟨Or.inl ⟨10, yX0_solve, cX0_solve, 3, none, c_X0_solve, by omega, by decide, rfl, lk_X9_186⟩, List.forall_mem_cons.mpr ⟨Or.inl ⟨1, yX0_brokenHabits, cX0_brokenHabits, 4, (some .int), c_X0_brokenHabits, by omega, by decide, rfl, lk_X9_199⟩, fun _ h => absurd h List.not_mem_nil⟩⟩
set_option maxRecDepth 100000 in
theorem v_X9_broken {J : Nat → Lcl → List Value → Sg → Prop} {Q : Int32 → Sg → Prop}  (σ : Sg) (h : pr_X0_solve [.ref 23, .ref 18, .ref 2] σ ∧ ∀ (τ1 : Sg), po_X0_solve [.ref 23, .ref 18, .ref 2] σ (nI 0) τ1 → ((¬ (τ1 23 6) = (-1) → pr_X0_brokenHabits [.ref 23, .ref 18] τ1 ∧ ∀ (x3 : Int32) (τ2 : Sg), po_X0_brokenHabits [.ref 23, .ref 18] τ1 x3 τ2 → (Q x3 τ2)) ∧ ((τ1 23 6) = (-1) → Q (-1) τ1))) : kp_T layC gl_X9 pl_X9 (ms_X9_broken) tb_X9_broken (kp_rk (some .int)) J Q 30 tb_X9_broken (kp_en [.ref 0] 1) [] σ := h
set_option maxRecDepth 100000 in
set_option maxHeartbeats 4000000 in
theorem c_X9_broken : kp_Met layC 11 yX9_broken cX9_broken 1 (some .int) (pr_X9_broken) (po_X9_broken) := by
  refine kp_met (N := 30) (by decide) tk_X9_broken gk_X9 pk_X9 (mk_X9_broken) rfl (fun _ _ _ _ _ _ _ => False) ?_ (fun _ _ _ _ _ _ _ _ h => h.elim)
  rintro As σ ⟨rfl, hp⟩
  refine ⟨⟨rfl, Nat.le_of_ble_eq_true rfl⟩, v_X9_broken σ ?_⟩
  obtain ⟨hL, hkb, hty, hrl, hco, has, hsl⟩ := id hp
  refine ⟨⟨rfl, has, hco, hL.1, hsl⟩, ?_⟩
  rintro τ1 ⟨k1, k2, k3, k4, k5, k6, k7⟩
  have hI := InvC_sv hp k1 k5 k7
  have hQ : ∀ r, r = brA (σ 21) (σ 24) (nwC σ) (RS σ) → po_X9_broken [.ref 0] σ r τ1 := fun r h => ⟨hI, k1, k2 2 (by decide) (by decide), k2 4 (by decide) (by decide), h⟩
  rcases sv_case k7 k6 with ⟨q1, q2⟩ | ⟨q1, q3, q2⟩
  · exact ⟨fun z => absurd q1 z, fun _ => hQ _ (by rw [q2]; rfl)⟩
  · refine ⟨fun _ => ⟨⟨rfl, k5, hI.2.2.2.2.1, fun i hi => (slv_strokes k5 k7 q1 i hi).1⟩, ?_⟩, fun z => absurd z q1⟩
    rintro x3 τ2 ⟨rfl, rfl⟩
    refine hQ _ ?_
    have en : nwC τ2 = nwC σ := by show tn (τ2 23 2) = tn (σ 23 2); rw [k2 2 (by decide) (by decide)]
    rw [q2, en]
    show nI _ = nI _
    rw [bkN_congr (nwC σ) (fun i hi => ?_)]
    rw [rmap_gD hi]
    show brk (τ2 21) (tn (τ2 24 i)) (tn (τ2 27 i)) = _
    rw [k1 21 (by decide), k1 24 (by decide)]
def apM (K : Nat → Nat) (wc M : Nat → Int32) : Nat → Nat → Int32
  | 0 => M
  | n + 1 => fun k => if k = K n then wc n else apM K wc M n k
def apZ (K : Nat → Nat) (wc M : Nat → Int32) (Z : Nat) : Nat → Nat
  | 0 => Z
  | n + 1 => szp (apZ K wc M Z n) (apM K wc M n (K n)) (wc n)
abbrev moF (K : Nat → Nat) (M : Nat → Int32) : Nat → Bool := fun i => decide (M (K i) = -1)
abbrev otF (K : Nat → Nat) (wc M : Nat → Int32) : Nat → Bool := fun i => !decide (M (K i) = wc i)
def ap1 (K : Nat → Nat) (wc : Nat → Int32) (nw : Nat) (M : Nat → Int32) (Z : Nat) (M' : Nat → Int32) (Z' : Nat) (r : Int32) : Prop :=
  (120 < Z + bkN (moF K M) nw → (∀ k, M' k = M k) ∧ Z' = Z ∧ r = -1) ∧ (¬ 120 < Z + bkN (moF K M) nw → (∀ k, M' k = apM K wc M nw k) ∧ Z' = apZ K wc M Z nw ∧ r = nI (bkN (otF K wc M) nw))
def apP (b : BS) (wc wx : Nat → Int32) (nw : Nat) (M : Nat → Int32) (Z : Nat) (M' : Nat → Int32) (Z' : Nat) (r : Int32) : Prop := match b with
  | none => (∀ k, M' k = M k) ∧ Z' = Z ∧ r = -1
  | some q => ap1 (fun i => tn (wx i) * 16777216 + q.2.getD i 0) wc nw M Z M' Z' r
theorem apM_congr {K K' : Nat → Nat} {wc M : Nat → Int32} : ∀ n, (∀ i, i < n → K i = K' i) → apM K wc M n = apM K' wc M n
  | 0, _ => rfl
  | n + 1, h => by unfold apM; rw [apM_congr n (fun i hi => h i (by omega)), h n (by omega)]
theorem apZ_congr {K K' : Nat → Nat} {wc M : Nat → Int32} {Z : Nat} : ∀ n, (∀ i, i < n → K i = K' i) → apZ K wc M Z n = apZ K' wc M Z n
  | 0, _ => rfl
  | n + 1, h => by rw [apZ, apZ, apZ_congr n (fun i hi => h i (by omega)), apM_congr n (fun i hi => h i (by omega)), h n (by omega)]
theorem ap1_congr {K K' : Nat → Nat} {wc M M' : Nat → Int32} {nw Z Z' : Nat} {r : Int32} (h : ∀ i, i < nw → K i = K' i) (hq : ap1 K wc nw M Z M' Z' r) : ap1 K' wc nw M Z M' Z' r := by
  have e1 : bkN (moF K M) nw = bkN (moF K' M) nw := bkN_congr nw (fun i hi => by simp only [moF, h i hi])
  have e2 : bkN (otF K wc M) nw = bkN (otF K' wc M) nw := bkN_congr nw (fun i hi => by simp only [otF, h i hi])
  unfold ap1 at *
  rw [e1, e2, apM_congr nw h, apZ_congr nw h] at hq
  exact hq
theorem apM_m1 {K : Nat → Nat} {wc M : Nat → Int32} : ∀ n, (∀ i, i < n → wc i ≠ -1) → ∀ k, apM K wc M n k = -1 → M k = -1
  | 0, _, _, h => h
  | n + 1, hw, k, h => by
    unfold apM at h
    by_cases e : k = K n
    · rw [if_pos e] at h; exact absurd h (hw n (by omega))
    · rw [if_neg e] at h; exact apM_m1 n (fun i hi => hw i (by omega)) k h
theorem apZ_le {K : Nat → Nat} {wc M : Nat → Int32} {Z : Nat} : ∀ n, (∀ i, i < n → wc i ≠ -1) → apZ K wc M Z n ≤ Z + bkN (moF K M) n
  | 0, _ => Nat.le_refl _
  | n + 1, hw => by
    have ih := apZ_le (K := K) (M := M) (Z := Z) n (fun i hi => hw i (by omega))
    rw [apZ, bkN]
    unfold szp
    rw [if_neg (hw n (by omega))]
    by_cases e : apM K wc M n (K n) = -1
    · rw [if_pos e, if_pos (decide_eq_true (apM_m1 n (fun i hi => hw i (by omega)) _ e))]; omega
    · rw [if_neg e]; omega
theorem bkN_mono {f : Nat → Bool} : ∀ {n m : Nat}, n ≤ m → bkN f n ≤ bkN f m
  | n, 0, h => by have : n = 0 := by omega
                  subst this; exact Nat.le_refl _
  | n, m + 1, h => by
    by_cases e : n = m + 1
    · rw [e]; exact Nat.le_refl _
    · have := bkN_mono (f := f) (show n ≤ m by omega)
      rw [bkN]; omega
theorem ap_room {K : Nat → Nat} {wc M : Nat → Int32} {Z nw n : Nat} (hw : ∀ i, i < nw → wc i ≠ -1) (hn : n < nw) (h : ¬ 120 < Z + bkN (moF K M) nw) (he : apM K wc M n (K n) = -1) : apZ K wc M Z n < 120 := by
  have h1 := apZ_le (K := K) (M := M) (Z := Z) n (fun i hi => hw i (by omega))
  have h2 := bkN_mono (f := moF K M) (show n + 1 ≤ nw by omega)
  rw [bkN, if_pos (decide_eq_true (apM_m1 n (fun i hi => hw i (by omega)) _ he))] at h2
  omega
theorem InvC_mp {σ τ : Sg} (h : InvC σ) (hf : fr [4, 5, 6] σ τ) (h1 : bOK (τ 5) (τ 6) (τ 4 2)) : InvC τ := by
  have q : ∀ c, c ∉ [4, 5, 6] → τ c = σ c := fun c hc => hf c hc
  obtain ⟨a1, a2, a3, a4, a5, a6, a7⟩ := h
  refine ⟨⟨?_, h1⟩, ?_, ?_, ?_, ?_, ?_, ?_⟩
  · rw [q 2 (by decide), q 3 (by decide)]; exact a1.1
  · rw [q 7 (by decide), q 8 (by decide), q 9 (by decide)]; exact a2
  · unfold tyOK at *; rw [q 2 (by decide), q 15 (by decide)]; exact a3
  · rw [q 15 (by decide)]; exact a4
  · unfold cstC at *; rw [q 19 (by decide), q 20 (by decide), q 21 (by decide), q 22 (by decide)]; exact a5
  · unfold asOK nwC noC at *; rw [q 2 (by decide), q 23 (by decide), q 24 (by decide), q 25 (by decide), q 26 (by decide)]; exact a6
  · unfold slv bsC RS PT MT ofC nwC noC at *; rw [q 3 (by decide), q 19 (by decide), q 20 (by decide), q 21 (by decide), q 22 (by decide), q 23 (by decide), q 24 (by decide), q 25 (by decide), q 26 (by decide), q 27 (by decide)]; exact a7
def SVp (σ τ : Sg) : Prop := fr svF σ τ ∧ (∀ k, k ≠ 5 → k ≠ 6 → τ 23 k = σ 23 k) ∧ InvC τ ∧ slv τ ∧ RS τ = RS σ ∧ τ 23 6 ≠ -1
abbrev bK (τ : Sg) : Nat → Nat := fun i => tn (τ 25 i) * 16777216 + tn (τ 27 i)
theorem SVp_end {σ τ : Sg} (h : SVp σ τ) {M' : Nat → Int32} {Z' : Nat} {r : Int32} (hq : ap1 (bK τ) (τ 24) (nwC τ) (mC τ) (tn (τ 4 2)) M' Z' r) : apP (RS σ) (σ 24) (σ 25) (nwC σ) (mC σ) (tn (σ 4 2)) M' Z' r := by
  obtain ⟨k1, k2, hI, k7, k6, k8⟩ := h
  have en : nwC τ = nwC σ := by show tn (τ 23 2) = tn (σ 23 2); rw [k2 2 (by decide) (by decide)]
  have em : mC τ = mC σ := by unfold mC; rw [k1 4 (by decide), k1 5 (by decide), k1 6 (by decide)]
  rcases sv_case k7 k6 with ⟨q1, -⟩ | ⟨-, q3, q2⟩
  · exact absurd q1 k8
  · rw [q2]
    show ap1 _ _ _ _ _ _ _ _
    rw [k1 24 (by decide), em, en, k1 4 (by decide)] at hq
    refine ap1_congr (fun i hi => ?_) hq
    rw [en]
    dsimp only
    rw [rmap_gD hi]
    show tn (τ 25 i) * 16777216 + _ = _
    rw [k1 25 (by decide)]
abbrev apF : List Nat := [4, 5, 6, 23, 27, 28, 30, 31, 32, 33, 34, 35, 36, 37]
def pr_X9_apply : SPre := fun As σ => As = [.ref 0] ∧ (InvC σ)
def po_X9_apply : SPost := fun As σ r τ => match As with
  | [.ref _] => (InvC τ ∧ fr apF σ τ ∧ τ 23 2 = σ 23 2 ∧ τ 23 4 = σ 23 4 ∧ apP (RS σ) (σ 24) (σ 25) (nwC σ) (mC σ) (tn (σ 4 2)) (mC τ) (tn (τ 4 2)) r)
  | _ => True
def ms_X9_apply : List Me := [(186, 0, 0, 2, false, pr_X0_solve, po_X0_solve), (203, 0, 0, 1, true, pr_X0_bestKey, po_X0_bestKey), (88, 0, 1, 1, true, pr_X1_at, po_X1_at), (95, 0, 1, 2, false, pr_X1_put, po_X1_put)]
theorem mk_X9_apply : ∀ q ∈ ms_X9_apply, kp_okM layC RX9 11 q := List.forall_mem_cons.mpr ⟨Or.inl ⟨10, yX0_solve, cX0_solve, 3, none, c_X0_solve, by omega, by decide, rfl, lk_X9_186⟩, List.forall_mem_cons.mpr ⟨Or.inl ⟨1, yX0_bestKey, cX0_bestKey, 2, (some .int), c_X0_bestKey, by omega, by decide, rfl, lk_X9_203⟩, List.forall_mem_cons.mpr ⟨Or.inl ⟨1, yX1_at, cX1_at, 3, (some .int), c_X1_at, by omega, by decide, rfl, lk_X9_88⟩, List.forall_mem_cons.mpr ⟨Or.inl ⟨1, yX1_put, cX1_put, 5, none, c_X1_put, by omega, by decide, rfl, lk_X9_95⟩, fun _ h => absurd h List.not_mem_nil⟩⟩⟩⟩
set_option maxRecDepth 100000 in
theorem v_X9_apply {J : Nat → Lcl → List Value → Sg → Prop} {Q : Int32 → Sg → Prop}  (σ : Sg) (h : pr_X0_solve [.ref 23, .ref 18, .ref 2] σ ∧ ∀ (τ1 : Sg), po_X0_solve [.ref 23, .ref 18, .ref 2] σ (nI 0) τ1 → ((¬ (τ1 23 6) = (-1) → J 37 [some (.ref 0), some (.int (nI 0)), some (.int (nI 0)), some (.int (nI 0)), none] [] τ1) ∧ ((τ1 23 6) = (-1) → Q (-1) τ1))) : kp_T layC gl_X9 pl_X9 (ms_X9_apply) tb_X9_apply (kp_rk (some .int)) J Q 98 tb_X9_apply (kp_en [.ref 0] 5) [] σ := h
set_option maxRecDepth 100000 in
theorem v_X9_apply_37 {J : Nat → Lcl → List Value → Sg → Prop} {Q : Int32 → Sg → Prop} (more other i : Int32) (o4 : Option Value) (σ : Sg) (h : (¬ i < (σ 23 2) → (¬ (nI 120) < ((σ 4 2) + more) → J 131 [some (.ref 0), some (.int more), some (.int other), some (.int (nI 0)), o4] [] σ) ∧ ((nI 120) < ((σ 4 2) + more) → Q (-1) σ)) ∧ (i < (σ 23 2) → pr_X0_bestKey [.ref 23, .int i] σ ∧ ∀ (x2 : Int32) (τ1 : Sg), po_X0_bestKey [.ref 23, .int i] σ x2 τ1 → (pr_X1_at [.ref 4, .int x2] τ1 ∧ ∀ (x4 : Int32) (τ3 : Sg), po_X1_at [.ref 4, .int x2] τ1 x4 τ3 → ((¬ x4 = (-1) → vp_in i 6 ∧ ((¬ x4 = (τ3 24 (i).toNatClampNeg) → J 37 [some (.ref 0), some (.int (more + (nI 0))), some (.int (other + (nI 1))), some (.int (i + nI 1)), some (.int x4)] [] τ3) ∧ (x4 = (τ3 24 (i).toNatClampNeg) → J 37 [some (.ref 0), some (.int (more + (nI 0))), some (.int (other + (nI 0))), some (.int (i + nI 1)), some (.int x4)] [] τ3))) ∧ (x4 = (-1) → vp_in i 6 ∧ ((¬ x4 = (τ3 24 (i).toNatClampNeg) → J 37 [some (.ref 0), some (.int (more + (nI 1))), some (.int (other + (nI 1))), some (.int (i + nI 1)), some (.int x4)] [] τ3) ∧ (x4 = (τ3 24 (i).toNatClampNeg) → J 37 [some (.ref 0), some (.int (more + (nI 1))), some (.int (other + (nI 0))), some (.int (i + nI 1)), some (.int x4)] [] τ3))))))) : kp_T1 layC gl_X9 pl_X9 (ms_X9_apply) tb_X9_apply (kp_rk (some .int)) J Q 98 37 [some (.ref 0), some (.int more), some (.int other), some (.int i), o4] [] σ := h
set_option maxRecDepth 100000 in
theorem v_X9_apply_131 {J : Nat → Lcl → List Value → Sg → Prop} {Q : Int32 → Sg → Prop} (more other i : Int32) (o4 : Option Value) (σ : Sg) (h : (¬ i < (σ 23 2) → Q other σ) ∧ (i < (σ 23 2) → pr_X0_bestKey [.ref 23, .int i] σ ∧ ∀ (x2 : Int32) (τ1 : Sg), po_X0_bestKey [.ref 23, .int i] σ x2 τ1 → (vp_in i 6 ∧ (pr_X1_put [.ref 4, .int x2, .int (τ1 24 (i).toNatClampNeg)] τ1 ∧ ∀ (τ3 : Sg), po_X1_put [.ref 4, .int x2, .int (τ1 24 (i).toNatClampNeg)] τ1 (nI 0) τ3 → (J 131 [some (.ref 0), some (.int more), some (.int other), some (.int (i + nI 1)), o4] [] τ3))))) : kp_T1 layC gl_X9 pl_X9 (ms_X9_apply) tb_X9_apply (kp_rk (some .int)) J Q 98 131 [some (.ref 0), some (.int more), some (.int other), some (.int i), o4] [] σ := h
abbrev iv_X9_apply : List Value → Sg → Nat → Nat → Lcl → List Value → Sg → Prop := fun As σ n pc ls st τ => st = [] ∧ As = [.ref 0] ∧ ((pc = 37 ∧ ∃ (i : Nat) (o4 : Option Value), n = 100 + (nwC τ - i) ∧ i ≤ nwC τ ∧ SVp σ τ ∧ ls = [some (.ref 0), some (.int (nI (bkN (moF (bK τ) (mC τ)) i))), some (.int (nI (bkN (otF (bK τ) (τ 24) (mC τ)) i))), some (.int (nI i)), o4]) ∨ (pc = 131 ∧ ∃ (τ0 : Sg) (i : Nat) (m : Int32) (o4 : Option Value), n = nwC τ0 - i ∧ i ≤ nwC τ0 ∧ SVp σ τ0 ∧ fr [4, 5, 6] τ0 τ ∧ bOK (τ 5) (τ 6) (τ 4 2) ∧ ¬ 120 < tn (τ0 4 2) + bkN (moF (bK τ0) (mC τ0)) (nwC τ0) ∧ (∀ k, mC τ k = apM (bK τ0) (τ0 24) (mC τ0) i k) ∧ tn (τ 4 2) = apZ (bK τ0) (τ0 24) (mC τ0) (tn (τ0 4 2)) i ∧ ls = [some (.ref 0), some (.int m), some (.int (nI (bkN (otF (bK τ0) (τ0 24) (mC τ0)) (nwC τ0)))), some (.int (nI i)), o4]))
set_option maxRecDepth 100000 in
set_option maxHeartbeats 4000000 in
theorem c_X9_apply : kp_Met layC 11 yX9_apply cX9_apply 5 (some .int) (pr_X9_apply) (po_X9_apply) := by
  refine kp_met (N := 98) (by decide) tk_X9_apply gk_X9 pk_X9 (mk_X9_apply) rfl (iv_X9_apply) ?_ ?_
  · rintro As σ ⟨rfl, hp⟩
    refine ⟨⟨rfl, Nat.le_of_ble_eq_true rfl⟩, v_X9_apply σ ?_⟩
    obtain ⟨hL, hkb, hty, hrl, hco, has, hsl⟩ := id hp
    refine ⟨⟨rfl, has, hco, hL.1, hsl⟩, ?_⟩
    rintro τ1 ⟨k1, k2, k3, k4, k5, k6, k7⟩
    have hI := InvC_sv hp k1 k5 k7
    refine ⟨fun h => ⟨_, rfl, rfl, Or.inl ⟨rfl, 0, none, rfl, Nat.zero_le _, ⟨k1, k2, hI, k7, k6, h⟩, rfl⟩⟩, fun h => ⟨hI, fr_mono k1 (by decide), k2 2 (by decide) (by decide), k2 4 (by decide) (by decide), ?_⟩⟩
    rcases sv_case k7 k6 with ⟨q1, q2⟩ | ⟨q1, q3, q2⟩
    · rw [q2]
      refine ⟨fun k => ?_, ?_, rfl⟩
      · unfold mC; rw [k1 4 (by decide), k1 5 (by decide), k1 6 (by decide)]
      · rw [k1 4 (by decide)]
    · exact absurd h q1
  · rintro As σ ⟨rfl, hp⟩ n pc ls st τ hI
    obtain ⟨rfl, hAs, hI⟩ := hI
    clear hAs
    rcases hI with ⟨rfl, i, o4, rfl, hi, hS, rfl⟩ | ⟨rfl, τ0, i, m, o4, rfl, hi, hS, hf, hb, hr, hM, hZ, rfl⟩
    · obtain ⟨k1, k2, hI, k7, k6, k8⟩ := id hS
      obtain ⟨hL, hkb, hty, hrl, hco, has, hsl⟩ := id hI
      obtain ⟨z, hz, hz1, -, -⟩ := id hL.2
      have ez : tn (τ 4 2) = z := by rw [hz, tn_nI (by omega)]
      obtain ⟨a1, a2, a3, a4, a5, a6⟩ := id has
      have en : nwC τ = tn (τ 23 2) := rfl
      have hst := slv_strokes has k7 k8
      have hlm := bkN_le (f := moF (bK τ) (mC τ)) i
      have hlo := bkN_le (f := otF (bK τ) (τ 24) (mC τ)) i
      refine v_X9_apply_37 _ _ _ o4 τ ?_
      rw [(nn_lt a1 (show i < 2 ^ 31 by omega)).1, nI_clamp (show i < 2 ^ 31 by omega), show nI i + nI 1 = nI (i + 1) from nI_add _ _, nI_add, nI_add, nI_add, nI_add, hz, nI_add, nI_ltI (by omega) (by omega)]
      refine ⟨fun g => ?_, fun g => ⟨⟨_, rfl, i, rfl, by omega, (a5 i g).2.2.1, ?_, (hst i g).1, by have := (hst i g).2.2; omega⟩, ?_⟩⟩
      · have ei : i = nwC τ := by omega
        have hfull : fr apF σ τ := fr_mono k1 (by decide)
        refine ⟨fun h => ⟨nwC τ, by omega, rfl, rfl, Or.inr ⟨rfl, τ, 0, _, o4, rfl, Nat.zero_le _, hS, fr_rf, hL.2, by rw [ez, ← ei]; exact h, fun _ => rfl, rfl, by rw [ei]⟩⟩, fun h => ⟨hI, hfull, k2 2 (by decide) (by decide), k2 4 (by decide) (by decide), SVp_end hS ⟨fun _ => ⟨fun _ => rfl, rfl, rfl⟩, fun z => absurd (by rw [ez, ← ei]; exact h) z⟩⟩⟩
      · obtain ⟨n, hn, n1, n2, -, -⟩ := hL.1
        have := (a5 i g).2.2.2
        rw [hn, tn_nI (by omega)] at this
        omega
      · rintro x2 τ1 ⟨rfl, rfl⟩
        have hkl : bK τ1 i < 2 ^ 31 := by
          obtain ⟨n, hn, n1, n2, -, -⟩ := hL.1
          have h1 := (a5 i g).2.2.2
          have h2 := (hst i g).2.2
          rw [hn, tn_nI (by omega)] at h1
          show tn (τ1 25 i) * 16777216 + tn (τ1 27 i) < 2 ^ 31
          omega
        rw [tn_nI (show i < 2 ^ 31 by omega)]
        refine ⟨⟨4, _, rfl, Or.inl rfl, hL.2, bK τ1 i, rfl, hkl⟩, ?_⟩
        rintro x4 τ3 ⟨rfl, rfl⟩
        have e6 : tn (nI (tn (τ3 25 i) * 16777216 + tn (τ3 27 i))) = bK τ3 i := tn_nI hkl
        rw [e6]
        have hJ : ∀ a b : Nat, (bkN (moF (bK τ3) (mC τ3)) (i + 1) = bkN (moF (bK τ3) (mC τ3)) i + a) → (bkN (otF (bK τ3) (τ3 24) (mC τ3)) (i + 1) = bkN (otF (bK τ3) (τ3 24) (mC τ3)) i + b) → ∃ n', n' < 100 + (nwC τ3 - i) ∧ iv_X9_apply [.ref 0] σ n' 37 [some (.ref 0), some (.int (nI (bkN (moF (bK τ3) (mC τ3)) i + a))), some (.int (nI (bkN (otF (bK τ3) (τ3 24) (mC τ3)) i + b))), some (.int (nI (i + 1))), some (.int (mpC (τ3 5) (τ3 6) (τ3 4 2) (bK τ3 i)))] [] τ3 := fun a b ha hb => ⟨100 + (nwC τ3 - (i + 1)), by omega, rfl, rfl, Or.inl ⟨rfl, i + 1, _, rfl, by omega, hS, by rw [ha, hb]⟩⟩
        have hin : vp_in (nI i) 6 := (kp_in (by omega)).mpr (by omega)
        have cmo : moF (bK τ3) (mC τ3) i = decide (mpC (τ3 5) (τ3 6) (τ3 4 2) (bK τ3 i) = -1) := rfl
        have cot : otF (bK τ3) (τ3 24) (mC τ3) i = !decide (mpC (τ3 5) (τ3 6) (τ3 4 2) (bK τ3 i) = τ3 24 i) := rfl
        refine ⟨fun h1 => ⟨hin, fun h2 => hJ 0 1 ?_ ?_, fun h2 => hJ 0 0 ?_ ?_⟩, fun h1 => ⟨hin, fun h2 => hJ 1 1 ?_ ?_, fun h2 => hJ 1 0 ?_ ?_⟩⟩
        · rw [bkN, cmo, decide_eq_false h1]; rfl
        · rw [bkN, cot, decide_eq_false h2]; rfl
        · rw [bkN, cmo, decide_eq_false h1]; rfl
        · rw [bkN, cot, decide_eq_true h2]; rfl
        · rw [bkN, cmo, decide_eq_true h1]; rfl
        · rw [bkN, cot, decide_eq_false h2]; rfl
        · rw [bkN, cmo, decide_eq_true h1]; rfl
        · rw [bkN, cot, decide_eq_true h2]; rfl
    · obtain ⟨k1, k2, hI, k7, k6, k8⟩ := id hS
      obtain ⟨hL, hkb, hty, hrl, hco, has, hsl⟩ := id hI
      obtain ⟨a1, a2, a3, a4, a5, a6⟩ := id has
      have en : nwC τ0 = tn (τ0 23 2) := rfl
      have hst := slv_strokes has k7 k8
      have q23 : τ 23 = τ0 23 := hf 23 (by decide)
      have q24 : τ 24 = τ0 24 := hf 24 (by decide)
      have q25 : τ 25 = τ0 25 := hf 25 (by decide)
      have q27 : τ 27 = τ0 27 := hf 27 (by decide)
      refine v_X9_apply_131 _ _ _ o4 τ ?_
      rw [q23, (nn_lt a1 (show i < 2 ^ 31 by omega)).1, nI_clamp (show i < 2 ^ 31 by omega), show nI i + nI 1 = nI (i + 1) from nI_add _ _]
      refine ⟨fun g => ?_, fun g => ?_⟩
      · have ei : i = nwC τ0 := by omega
        subst ei
        refine ⟨InvC_mp hI hf hb, fr_tr (fr_mono k1 (by decide)) (fr_mono hf (by decide)), by rw [q23]; exact k2 2 (by decide) (by decide), by rw [q23]; exact k2 4 (by decide) (by decide), SVp_end hS ⟨fun z => absurd z hr, fun _ => ⟨hM, hZ, rfl⟩⟩⟩
      · obtain ⟨n, hn, n1, n2, -, -⟩ := hL.1
        have g1 := (a5 i g).2.2.2
        have g2 := hst i g
        rw [hn, tn_nI (by omega)] at g1
        have hkl : bK τ0 i < 2 ^ 31 := by
          show tn (τ0 25 i) * 16777216 + tn (τ0 27 i) < 2 ^ 31
          omega
        have hko : keyOK (bK τ0 i) := by
          unfold keyOK
          have hlt : tn (τ0 27 i) < 16777216 := by omega
          show (tn (τ0 25 i) * 16777216 + tn (τ0 27 i)) / 16777216 < 12 ∧ _
          refine ⟨by omega, ?_⟩
          show rowOK ((tn (τ0 25 i) * 16777216 + tn (τ0 27 i)) % 16777216) = true
          rw [(key_div hlt).2]
          exact rowOK_iff.mpr (by omega)
        refine ⟨⟨_, rfl, i, rfl, by omega, by rw [q25]; exact (a5 i g).2.2.1, by rw [q25]; omega, by rw [q27]; exact g2.1, by rw [q27]; omega⟩, ?_⟩
        rintro x2 τ1 ⟨rfl, rfl⟩
        rw [tn_nI (show i < 2 ^ 31 by omega), q24, q25, q27]
        have e6 : tn (nI (tn (τ0 25 i) * 16777216 + tn (τ0 27 i))) = bK τ0 i := tn_nI hkl
        have hw : ∀ j, j < nwC τ0 → τ0 24 j ≠ -1 := fun j hj h => by
          have := (a5 j hj).1
          rw [this] at h
          exact nI_m1 (tn_lt _) h
        refine ⟨(kp_in (by omega)).mpr (by omega), ⟨_, _, rfl, hb, ⟨bK τ0 i, rfl, hko⟩, Or.inr ⟨tn (τ0 24 i), by have := (a5 i g).2.1; omega, (a5 i g).1⟩, fun _ h => ?_⟩, ?_⟩
        · rw [e6] at h
          have h : mC τ1 (bK τ0 i) = -1 := h
          rw [hM] at h
          rw [hZ]
          exact ap_room hw g hr h
        · rintro τ3 ⟨p1, p2, p3, p4⟩
          rw [e6] at p3 p4
          refine ⟨nwC τ0 - (i + 1), by omega, rfl, rfl, Or.inr ⟨rfl, τ0, i + 1, m, o4, rfl, by omega, hS, fr_tr hf p2, p1, hr, fun k => ?_, ?_, rfl⟩⟩
          · show mpC _ _ _ k = if k = bK τ0 i then τ0 24 i else apM (bK τ0) (τ0 24) (mC τ0) i k
            rw [p3 k, ← hM k]
          · rw [p4, apZ, ← hZ, ← hM]
theorem mpC_copy {ks cs ks' cs' : Nat → Int32} {nz : Int32} (h : bOK ks cs nz) (he : ∀ j, j < tn nz → ks' j = ks j ∧ cs' j = cs j) : bOK ks' cs' nz ∧ mpC ks' cs' nz = mpC ks cs nz := by
  obtain ⟨z, rfl, h1, h2, h3⟩ := h
  have ez : tn (nI z) = z := tn_nI (by omega)
  rw [ez] at he
  refine ⟨⟨z, rfl, h1, fun i hi => ?_, fun i j hij hj => ?_⟩, ?_⟩
  · rw [(he i hi).1, (he i hi).2]; exact h2 i hi
  · rw [(he i (by omega)).1, (he j hj).1]; exact h3 i j hij hj
  · funext k
    unfold mpC
    rw [ez]
    exact lk_congr (fun i hi => ⟨by rw [(he i hi).1], (he i hi).2⟩)
def pr_X9_keep : SPre := fun As σ => As = [.ref 0] ∧ (InvC σ)
def po_X9_keep : SPost := fun As σ r τ => match As with
  | [.ref _] => (InvC τ ∧ fr [7, 8, 9] σ τ ∧ kC τ = mC σ ∧ τ 7 2 = σ 4 2)
  | _ => True
def ms_X9_keep : List Me := [(209, 0, 1, 1, false, pr_X1_copyFrom, po_X1_copyFrom)]
theorem mk_X9_keep : ∀ q ∈ ms_X9_keep, kp_okM layC RX9 1 q := List.forall_mem_cons.mpr ⟨Or.inl ⟨0, yX1_copyFrom, cX1_copyFrom, 3, none, c_X1_copyFrom, by omega, by decide, rfl, lk_X9_209⟩, fun _ h => absurd h List.not_mem_nil⟩
set_option maxRecDepth 100000 in
theorem v_X9_keep {J : Nat → Lcl → List Value → Sg → Prop} {Q : Int32 → Sg → Prop}  (σ : Sg) (h : pr_X1_copyFrom [.ref 7, .ref 4] σ ∧ ∀ (τ1 : Sg), po_X1_copyFrom [.ref 7, .ref 4] σ (nI 0) τ1 → (Q (nI 0) τ1)) : kp_T layC gl_X9 pl_X9 (ms_X9_keep) tb_X9_keep (kp_rk none) J Q 30 tb_X9_keep (kp_en [.ref 0] 1) [] σ := h
set_option maxRecDepth 100000 in
set_option maxHeartbeats 4000000 in
theorem c_X9_keep : kp_Met layC 1 yX9_keep cX9_keep 1 none (pr_X9_keep) (po_X9_keep) := by
  refine kp_met (N := 30) (by decide) tk_X9_keep gk_X9 pk_X9 (mk_X9_keep) rfl (fun _ _ _ _ _ _ _ => False) ?_ (fun _ _ _ _ _ _ _ _ h => h.elim)
  rintro As σ ⟨rfl, hp⟩
  refine ⟨⟨rfl, Nat.le_of_ble_eq_true rfl⟩, v_X9_keep σ ?_⟩
  obtain ⟨hL, hkb, hty, hrl, hco, has, hsl⟩ := id hp
  obtain ⟨z, hz, hz1, -, -⟩ := id hL.2
  refine ⟨⟨7, 4, rfl, Or.inr ⟨rfl, rfl⟩, z, hz, hz1⟩, ?_⟩
  rintro τ1 ⟨k1, k2, k3⟩
  have k1 : fr [7, 8, 9] σ τ1 := k1
  have k3 : ∀ j, j < tn (σ 4 2) → τ1 8 j = σ 5 j ∧ τ1 9 j = σ 6 j := k3
  obtain ⟨b1, b2⟩ := mpC_copy hL.2 k3
  rw [← k2] at b1 b2
  refine ⟨?_, k1, ?_, k2⟩
  · have q : ∀ c, c ∉ [7, 8, 9] → τ1 c = σ c := fun c hc => k1 c hc
    refine ⟨?_, b1, ?_, ?_, ?_, ?_, ?_⟩
    · unfold LI at *; rw [q 2 (by decide), q 3 (by decide), q 4 (by decide), q 5 (by decide), q 6 (by decide)]; exact hL
    · unfold tyOK at *; rw [q 2 (by decide), q 15 (by decide)]; exact hty
    · rw [q 15 (by decide)]; exact hrl
    · unfold cstC at *; rw [q 19 (by decide), q 20 (by decide), q 21 (by decide), q 22 (by decide)]; exact hco
    · unfold asOK nwC noC at *; rw [q 2 (by decide), q 23 (by decide), q 24 (by decide), q 25 (by decide), q 26 (by decide)]; exact has
    · unfold slv bsC RS PT MT ofC nwC noC at *; rw [q 3 (by decide), q 19 (by decide), q 20 (by decide), q 21 (by decide), q 22 (by decide), q 23 (by decide), q 24 (by decide), q 25 (by decide), q 26 (by decide), q 27 (by decide)]; exact hsl
  · rw [k2] at b2
    show mpC (τ1 8) (τ1 9) (τ1 7 2) = _
    rw [k2]; exact b2
def pr_X9_back : SPre := fun As σ => As = [.ref 0] ∧ (InvC σ)
def po_X9_back : SPost := fun As σ r τ => match As with
  | [.ref _] => (InvC τ ∧ fr [4, 5, 6, 10] σ τ ∧ mC τ = kC σ ∧ τ 4 2 = σ 7 2 ∧ ∃ (g : Nat → Int32) (f : Nat), isD g f (mC σ) (kC σ) ∧ f ≤ 240 ∧ r = nI f)
  | _ => True
def ms_X9_back : List Me := [(213, 0, 1, 2, true, pr_X1_differences, po_X1_differences), (209, 0, 1, 1, false, pr_X1_copyFrom, po_X1_copyFrom)]
theorem mk_X9_back : ∀ q ∈ ms_X9_back, kp_okM layC RX9 1 q := List.forall_mem_cons.mpr ⟨Or.inl ⟨0, yX1_differences, cX1_differences, 11, (some .int), c_X1_differences, by omega, by decide, rfl, lk_X9_213⟩, List.forall_mem_cons.mpr ⟨Or.inl ⟨0, yX1_copyFrom, cX1_copyFrom, 3, none, c_X1_copyFrom, by omega, by decide, rfl, lk_X9_209⟩, fun _ h => absurd h List.not_mem_nil⟩⟩
set_option maxRecDepth 100000 in
theorem v_X9_back {J : Nat → Lcl → List Value → Sg → Prop} {Q : Int32 → Sg → Prop}  (σ : Sg) (h : pr_X1_differences [.ref 4, .ref 7, .ref 10] σ ∧ ∀ (x2 : Int32) (τ1 : Sg), po_X1_differences [.ref 4, .ref 7, .ref 10] σ x2 τ1 → (pr_X1_copyFrom [.ref 4, .ref 7] τ1 ∧ ∀ (τ3 : Sg), po_X1_copyFrom [.ref 4, .ref 7] τ1 (nI 0) τ3 → (Q x2 τ3))) : kp_T layC gl_X9 pl_X9 (ms_X9_back) tb_X9_back (kp_rk (some .int)) J Q 30 tb_X9_back (kp_en [.ref 0] 2) [] σ := h
set_option maxRecDepth 100000 in
set_option maxHeartbeats 4000000 in
theorem c_X9_back : kp_Met layC 1 yX9_back cX9_back 2 (some .int) (pr_X9_back) (po_X9_back) := by
  refine kp_met (N := 30) (by decide) tk_X9_back gk_X9 pk_X9 (mk_X9_back) rfl (fun _ _ _ _ _ _ _ => False) ?_ (fun _ _ _ _ _ _ _ _ h => h.elim)
  rintro As σ ⟨rfl, hp⟩
  refine ⟨⟨rfl, Nat.le_of_ble_eq_true rfl⟩, v_X9_back σ ?_⟩
  obtain ⟨hL, hkb, hty, hrl, hco, has, hsl⟩ := id hp
  refine ⟨⟨rfl, hL.2, hkb⟩, ?_⟩
  rintro x2 τ1 ⟨k1, f, hf, rfl, hD⟩
  have hI1 := InvC_fr hp k1 (by decide)
  have q7 := k1 7 (by decide)
  have q8 := k1 8 (by decide)
  have q9 := k1 9 (by decide)
  obtain ⟨z, hz, hz1, -, -⟩ := id hkb
  refine ⟨⟨4, 7, rfl, Or.inl ⟨rfl, rfl⟩, z, by rw [q7]; exact hz, hz1⟩, ?_⟩
  rintro τ3 ⟨p1, p2, p3⟩
  have p1 : fr [4, 5, 6] τ1 τ3 := p1
  have p3 : ∀ j, j < tn (τ1 7 2) → τ3 5 j = τ1 8 j ∧ τ3 6 j = τ1 9 j := p3
  obtain ⟨b1, b2⟩ := mpC_copy hI1.2.1 p3
  rw [← p2] at b1
  refine ⟨InvC_mp hI1 p1 b1, fr_tr (fr_mono k1 (by decide)) (fr_mono p1 (by decide)), ?_, by rw [p2, q7], τ1 10, f, hD, hf, rfl⟩
  show mpC (τ3 5) (τ3 6) (τ3 4 2) = _
  rw [p2, b2, q7, q8, q9]
def chA (g : Nat → Int32) (f : Nat) (M K : Nat → Int32) (i w : Int32) : Int32 := if i < nI 0 then -1 else if tn i < f then (if w = nI 0 then nI (tn (g (tn i)) / 16777216) else if w = nI 1 then nI (tn (g (tn i)) % 16777216) else if w = nI 2 then K (tn (g (tn i))) else if w = nI 3 then M (tn (g (tn i))) else -1) else -1
def pr_X9_change : SPre := fun As σ => ∃ i : Int32, ∃ w : Int32, As = [.ref 0, .int i, .int w] ∧ (InvC σ)
def po_X9_change : SPost := fun As σ r τ => match As with
  | [.ref _, .int i, .int w] => (InvC τ ∧ fr [10] σ τ ∧ ∃ (g : Nat → Int32) (f : Nat), isD g f (mC σ) (kC σ) ∧ f ≤ 240 ∧ r = chA g f (mC σ) (kC σ) i w)
  | _ => True
def ms_X9_change : List Me := [(213, 0, 1, 2, true, pr_X1_differences, po_X1_differences), (217, 1, 1, 1, true, pr_X1_contextOf, po_X1_contextOf), (220, 1, 1, 1, true, pr_X1_rowOf, po_X1_rowOf), (88, 0, 1, 1, true, pr_X1_at, po_X1_at)]
theorem mk_X9_change : ∀ q ∈ ms_X9_change, kp_okM layC RX9 2 q := List.forall_mem_cons.mpr ⟨Or.inl ⟨0, yX1_differences, cX1_differences, 11, (some .int), c_X1_differences, by omega, by decide, rfl, lk_X9_213⟩, List.forall_mem_cons.mpr ⟨Or.inl ⟨0, yX1_contextOf, cX1_contextOf, 1, (some .int), c_X1_contextOf, by omega, by decide, rfl, lk_X9_217⟩, List.forall_mem_cons.mpr ⟨Or.inl ⟨0, yX1_rowOf, cX1_rowOf, 1, (some .int), c_X1_rowOf, by omega, by decide, rfl, lk_X9_220⟩, List.forall_mem_cons.mpr ⟨Or.inl ⟨1, yX1_at, cX1_at, 3, (some .int), c_X1_at, by omega, by decide, rfl, lk_X9_88⟩, fun _ h => absurd h List.not_mem_nil⟩⟩⟩⟩
set_option maxRecDepth 100000 in
theorem v_X9_change {J : Nat → Lcl → List Value → Sg → Prop} {Q : Int32 → Sg → Prop} (i w : Int32) (σ : Sg) (h : pr_X1_differences [.ref 4, .ref 7, .ref 10] σ ∧ ∀ (x2 : Int32) (τ1 : Sg), po_X1_differences [.ref 4, .ref 7, .ref 10] σ x2 τ1 → ((i < (nI 0) → Q (-1) τ1) ∧ (¬ i < (nI 0) → (i < x2 → vp_in i 240 ∧ ((w = nI 0 → pr_X1_contextOf [.int (τ1 10 (i).toNatClampNeg)] τ1 ∧ ∀ (x10 : Int32) (τ9 : Sg), po_X1_contextOf [.int (τ1 10 (i).toNatClampNeg)] τ1 x10 τ9 → (Q x10 τ9)) ∧ (¬ w = nI 0 → (w = nI 1 → pr_X1_rowOf [.int (τ1 10 (i).toNatClampNeg)] τ1 ∧ ∀ (x8 : Int32) (τ7 : Sg), po_X1_rowOf [.int (τ1 10 (i).toNatClampNeg)] τ1 x8 τ7 → (Q x8 τ7)) ∧ (¬ w = nI 1 → (w = nI 2 → pr_X1_at [.ref 7, .int (τ1 10 (i).toNatClampNeg)] τ1 ∧ ∀ (x6 : Int32) (τ5 : Sg), po_X1_at [.ref 7, .int (τ1 10 (i).toNatClampNeg)] τ1 x6 τ5 → (Q x6 τ5)) ∧ (¬ w = nI 2 → (w = nI 3 → pr_X1_at [.ref 4, .int (τ1 10 (i).toNatClampNeg)] τ1 ∧ ∀ (x4 : Int32) (τ3 : Sg), po_X1_at [.ref 4, .int (τ1 10 (i).toNatClampNeg)] τ1 x4 τ3 → (Q x4 τ3)) ∧ (¬ w = nI 3 → Q (-1) τ1)))))) ∧ (¬ i < x2 → Q (-1) τ1)))) : kp_T layC gl_X9 pl_X9 (ms_X9_change) tb_X9_change (kp_rk (some .int)) J Q 47 tb_X9_change (kp_en [.ref 0, .int i, .int w] 5) [] σ := h
set_option maxRecDepth 100000 in
set_option maxHeartbeats 4000000 in
theorem c_X9_change : kp_Met layC 2 yX9_change cX9_change 5 (some .int) (pr_X9_change) (po_X9_change) := by
  refine kp_met (N := 47) (by decide) tk_X9_change gk_X9 pk_X9 (mk_X9_change) rfl (fun _ _ _ _ _ _ _ => False) ?_ (fun _ _ _ _ _ _ _ _ h => h.elim)
  rintro As σ ⟨i, w, rfl, hp⟩
  refine ⟨⟨rfl, Nat.le_of_ble_eq_true rfl⟩, v_X9_change i w σ ?_⟩
  obtain ⟨hL, hkb, hty, hrl, hco, has, hsl⟩ := id hp
  refine ⟨⟨rfl, hL.2, hkb⟩, ?_⟩
  rintro x2 τ1 ⟨k1, f, hf, rfl, hD⟩
  have hI1 := InvC_fr hp k1 (by decide)
  have hQ : ∀ r, r = chA (τ1 10) f (mC σ) (kC σ) i w → po_X9_change [.ref 0, .int i, .int w] σ r τ1 := fun r h => ⟨hI1, k1, τ1 10, f, hD, hf, h⟩
  have em : mC τ1 = mC σ := by unfold mC; rw [k1 4 (by decide), k1 5 (by decide), k1 6 (by decide)]
  have ek : kC τ1 = kC σ := by unfold kC; rw [k1 7 (by decide), k1 8 (by decide), k1 9 (by decide)]
  refine ⟨fun h => hQ _ (by unfold chA; rw [if_pos h]), fun h => ?_⟩
  have hni : nn i := (nI_tn h).symm
  rw [(nn_lt hni (show f < 2 ^ 31 by omega)).2]
  refine ⟨fun h2 => ⟨by rw [hni]; exact (kp_in (tn_lt _)).mpr (by omega), ?_⟩, fun h2 => hQ _ (by unfold chA; rw [if_neg h, if_neg h2])⟩
  have hg := hD.1 _ h2
  show (_ → pr_X1_contextOf [.int (τ1 10 (tn i))] τ1 ∧ _) ∧ _
  have hcl : i.toNatClampNeg = tn i := rfl
  rw [hcl]
  refine ⟨fun h3 => ⟨⟨_, rfl, _, hg, tn_lt _⟩, ?_⟩, fun h3 => ⟨fun h4 => ⟨⟨_, rfl, _, hg, tn_lt _⟩, ?_⟩, fun h4 => ⟨fun h5 => ⟨⟨7, _, rfl, Or.inr rfl, hI1.2.1, _, hg, tn_lt _⟩, ?_⟩, fun h5 => ⟨fun h6 => ⟨⟨4, _, rfl, Or.inl rfl, hI1.1.2, _, hg, tn_lt _⟩, ?_⟩, fun h6 => ?_⟩⟩⟩⟩
  · rintro x9 τ9 ⟨rfl, rfl⟩
    exact hQ _ (by unfold chA; rw [if_neg h, if_pos h2, if_pos h3])
  · rintro x9 τ9 ⟨rfl, rfl⟩
    exact hQ _ (by unfold chA; rw [if_neg h, if_pos h2, if_neg h3, if_pos h4])
  · rintro x9 τ9 ⟨rfl, rfl⟩
    exact hQ _ (by unfold chA; rw [if_neg h, if_pos h2, if_neg h3, if_neg h4, if_pos h5, ← ek])
  · rintro x9 τ9 ⟨rfl, rfl⟩
    exact hQ _ (by unfold chA; rw [if_neg h, if_pos h2, if_neg h3, if_neg h4, if_neg h5, if_pos h6, ← em])
  · exact hQ _ (by unfold chA; rw [if_neg h, if_pos h2, if_neg h3, if_neg h4, if_neg h5, if_neg h6])
def pr_X9_learn : SPre := fun As σ => ∃ i : Int32, As = [.ref 0, .int i] ∧ (InvC σ)
def po_X9_learn : SPost := fun As σ r τ => match As with
  | [.ref _, .int i] => (InvC τ ∧ fr [39] σ τ ∧ ∃ sv : Nat → Nat, (∀ c, c < 40 → sv c ≤ 30000 ∧ isSv (σ 19) (σ 20) (mC σ) c (sv c)) ∧ r = rkd sv i 40 0)
  | _ => True
def ms_X9_learn : List Me := [(223, 0, 6, 2, false, pr_X6_weigh, po_X6_weigh), (227, 0, 6, 1, true, pr_X6_ranked, po_X6_ranked)]
theorem mk_X9_learn : ∀ q ∈ ms_X9_learn, kp_okM layC RX9 4 q := List.forall_mem_cons.mpr ⟨Or.inl ⟨3, yX6_weigh, cX6_weigh, 6, none, c_X6_weigh, by omega, by decide, rfl, lk_X9_223⟩, List.forall_mem_cons.mpr ⟨Or.inl ⟨1, yX6_ranked, cX6_ranked, 3, (some .int), c_X6_ranked, by omega, by decide, rfl, lk_X9_227⟩, fun _ h => absurd h List.not_mem_nil⟩⟩
set_option maxRecDepth 100000 in
theorem v_X9_learn {J : Nat → Lcl → List Value → Sg → Prop} {Q : Int32 → Sg → Prop} (i : Int32) (σ : Sg) (h : pr_X6_weigh [.ref 38, .ref 4, .ref 18] σ ∧ ∀ (τ1 : Sg), po_X6_weigh [.ref 38, .ref 4, .ref 18] σ (nI 0) τ1 → (pr_X6_ranked [.ref 38, .int i] τ1 ∧ ∀ (x3 : Int32) (τ2 : Sg), po_X6_ranked [.ref 38, .int i] τ1 x3 τ2 → (Q x3 τ2))) : kp_T layC gl_X9 pl_X9 (ms_X9_learn) tb_X9_learn (kp_rk (some .int)) J Q 30 tb_X9_learn (kp_en [.ref 0, .int i] 2) [] σ := h
set_option maxRecDepth 100000 in
set_option maxHeartbeats 4000000 in
theorem c_X9_learn : kp_Met layC 4 yX9_learn cX9_learn 2 (some .int) (pr_X9_learn) (po_X9_learn) := by
  refine kp_met (N := 30) (by decide) tk_X9_learn gk_X9 pk_X9 (mk_X9_learn) rfl (fun _ _ _ _ _ _ _ => False) ?_ (fun _ _ _ _ _ _ _ _ h => h.elim)
  rintro As σ ⟨i, rfl, hp⟩
  refine ⟨⟨rfl, Nat.le_of_ble_eq_true rfl⟩, v_X9_learn i σ ?_⟩
  obtain ⟨hL, hkb, hty, hrl, hco, has, hsl⟩ := id hp
  refine ⟨⟨rfl, hL.2, hco⟩, ?_⟩
  rintro τ1 ⟨k1, k2⟩
  refine ⟨⟨_, rfl, fun d hd => ?_⟩, ?_⟩
  · obtain ⟨v, h1, h2, h3⟩ := k2 d hd
    rw [h1]; exact nn_nI (by omega)
  · rintro x3 τ2 ⟨rfl, rfl⟩
    refine ⟨InvC_fr hp k1 (by decide), k1, svS τ2, fun c hc => ?_, rfl⟩
    obtain ⟨v, h1, h2, h3⟩ := k2 c hc
    have : svS τ2 c = v := by show tn (τ2 39 c) = v; rw [h1, tn_nI (by omega)]
    rw [this]; exact ⟨h2, h3⟩
def pr_X9_saves : SPre := fun As σ => ∃ c : Int32, As = [.ref 0, .int c] ∧ (InvC σ)
def po_X9_saves : SPost := fun As σ r τ => match As with
  | [.ref _, .int c] => (InvC τ ∧ fr [39] σ τ ∧ (isCx (nI 40) c = true → ∃ v : Nat, v ≤ 30000 ∧ isSv (σ 19) (σ 20) (mC σ) (tn c) v ∧ r = nI v) ∧ (¬ isCx (nI 40) c = true → r = nI 0))
  | _ => True
def ms_X9_saves : List Me := [(165, 1, 8, 1, true, pr_X9_isCommand, po_X9_isCommand), (223, 0, 6, 2, false, pr_X6_weigh, po_X6_weigh)]
theorem mk_X9_saves : ∀ q ∈ ms_X9_saves, kp_okM layC RX9 4 q := List.forall_mem_cons.mpr ⟨Or.inl ⟨0, yX9_isCommand, cX9_isCommand, 1, (some .boolean), c_X9_isCommand, by omega, by decide, rfl, lk_X9_165⟩, List.forall_mem_cons.mpr ⟨Or.inl ⟨3, yX6_weigh, cX6_weigh, 6, none, c_X6_weigh, by omega, by decide, rfl, lk_X9_223⟩, fun _ h => absurd h List.not_mem_nil⟩⟩
set_option maxRecDepth 100000 in
theorem v_X9_saves {J : Nat → Lcl → List Value → Sg → Prop} {Q : Int32 → Sg → Prop} (c : Int32) (σ : Sg) (h : pr_X9_isCommand [.int c] σ ∧ ∀ (x2 : Int32) (τ1 : Sg), po_X9_isCommand [.int c] σ x2 τ1 → ((¬ x2 = (nI 0) → pr_X6_weigh [.ref 38, .ref 4, .ref 18] τ1 ∧ ∀ (τ3 : Sg), po_X6_weigh [.ref 38, .ref 4, .ref 18] τ1 (nI 0) τ3 → (vp_in c 40 ∧ (Q (τ3 39 (c).toNatClampNeg) τ3))) ∧ (x2 = (nI 0) → Q (nI 0) τ1))) : kp_T layC gl_X9 pl_X9 (ms_X9_saves) tb_X9_saves (kp_rk (some .int)) J Q 30 tb_X9_saves (kp_en [.ref 0, .int c] 2) [] σ := h
set_option maxRecDepth 100000 in
set_option maxHeartbeats 4000000 in
theorem c_X9_saves : kp_Met layC 4 yX9_saves cX9_saves 2 (some .int) (pr_X9_saves) (po_X9_saves) := by
  refine kp_met (N := 30) (by decide) tk_X9_saves gk_X9 pk_X9 (mk_X9_saves) rfl (fun _ _ _ _ _ _ _ => False) ?_ (fun _ _ _ _ _ _ _ _ h => h.elim)
  rintro As σ ⟨c, rfl, hp⟩
  refine ⟨⟨rfl, Nat.le_of_ble_eq_true rfl⟩, v_X9_saves c σ ?_⟩
  obtain ⟨hL, hkb, hty, hrl, hco, has, hsl⟩ := id hp
  refine ⟨⟨_, rfl, trivial⟩, ?_⟩
  rintro x2 τ1 ⟨rfl, rfl⟩
  rw [bI_0]
  refine ⟨fun h1 => ⟨⟨rfl, hL.2, hco⟩, ?_⟩, fun h1 => ⟨hp, fr_rf, fun z => (by rw [h1] at z; cases z), fun _ => rfl⟩⟩
  have h1 : isCx (nI 40) c = true := by simpa using h1
  rintro τ3 ⟨k1, k2⟩
  obtain ⟨a, ha, rfl⟩ := (isCx_iff (by omega)).mp h1
  obtain ⟨v, g1, g2, g3⟩ := k2 a ha
  have et : tn (nI a) = a := tn_nI (by omega)
  refine ⟨(kp_in (by omega)).mpr ha, InvC_fr hp k1 (by decide), k1, fun _ => ⟨v, g2, by rw [et]; exact g3, ?_⟩, fun z => absurd h1 z⟩
  show τ3 39 (tn (nI a)) = _
  rw [et]; exact g1
def cnA (w a0 a1 a2 a3 a4 a5 a6 a7 : Int32) : Int32 := if w = nI 0 then a0 else if w = nI 1 then a1 else if w = nI 2 then a2 else if w = nI 3 then a3 else if w = nI 4 then a4 else if w = nI 5 then a5 else if w = nI 6 then a6 else if w = nI 7 then a7 else -1
def pr_X9_count : SPre := fun As σ => ∃ w : Int32, As = [.ref 0, .int w] ∧ (InvC σ)
def po_X9_count : SPost := fun As σ r τ => match As with
  | [.ref _, .int w] => (InvC τ ∧ fr [10] σ τ ∧ (w = nI 8 → ∃ (g : Nat → Int32) (f : Nat), isD g f (mC σ) (kC σ) ∧ f ≤ 240 ∧ r = nI f) ∧ (¬ w = nI 8 → r = cnA w (σ 2 1) (σ 4 2) (nI (rlen (tn (σ 15 7)))) (σ 15 2) (σ 15 3) (σ 23 2) (σ 23 4) (σ 15 4)))
  | _ => True
def ms_X9_count : List Me := [(138, 1, 0, 1, true, pr_X7_length, po_X7_length), (213, 0, 1, 2, true, pr_X1_differences, po_X1_differences)]
theorem mk_X9_count : ∀ q ∈ ms_X9_count, kp_okM layC RX9 2 q := List.forall_mem_cons.mpr ⟨Or.inl ⟨1, yX7_length, cX7_length, 2, (some .int), c_X7_length, by omega, by decide, rfl, lk_X9_138⟩, List.forall_mem_cons.mpr ⟨Or.inl ⟨0, yX1_differences, cX1_differences, 11, (some .int), c_X1_differences, by omega, by decide, rfl, lk_X9_213⟩, fun _ h => absurd h List.not_mem_nil⟩⟩
set_option maxRecDepth 100000 in
theorem v_X9_count {J : Nat → Lcl → List Value → Sg → Prop} {Q : Int32 → Sg → Prop} (w : Int32) (σ : Sg) (h : (w = nI 0 → Q (σ 2 1) σ) ∧ (¬ w = nI 0 → (w = nI 1 → Q (σ 4 2) σ) ∧ (¬ w = nI 1 → (w = nI 2 → pr_X7_length [.int (σ 15 7)] σ ∧ ∀ (x4 : Int32) (τ3 : Sg), po_X7_length [.int (σ 15 7)] σ x4 τ3 → (Q x4 τ3)) ∧ (¬ w = nI 2 → (w = nI 3 → Q (σ 15 2) σ) ∧ (¬ w = nI 3 → (w = nI 4 → Q (σ 15 3) σ) ∧ (¬ w = nI 4 → (w = nI 5 → Q (σ 23 2) σ) ∧ (¬ w = nI 5 → (w = nI 6 → Q (σ 23 4) σ) ∧ (¬ w = nI 6 → (w = nI 7 → Q (σ 15 4) σ) ∧ (¬ w = nI 7 → (w = nI 8 → pr_X1_differences [.ref 4, .ref 7, .ref 10] σ ∧ ∀ (x2 : Int32) (τ1 : Sg), po_X1_differences [.ref 4, .ref 7, .ref 10] σ x2 τ1 → (Q x2 τ1)) ∧ (¬ w = nI 8 → Q (-1) σ)))))))))) : kp_T layC gl_X9 pl_X9 (ms_X9_count) tb_X9_count (kp_rk (some .int)) J Q 53 tb_X9_count (kp_en [.ref 0, .int w] 2) [] σ := h
set_option maxRecDepth 100000 in
set_option maxHeartbeats 4000000 in
theorem c_X9_count : kp_Met layC 2 yX9_count cX9_count 2 (some .int) (pr_X9_count) (po_X9_count) := by
  refine kp_met (N := 53) (by decide) tk_X9_count gk_X9 pk_X9 (mk_X9_count) rfl (fun _ _ _ _ _ _ _ => False) ?_ (fun _ _ _ _ _ _ _ _ h => h.elim)
  rintro As σ ⟨w, rfl, hp⟩
  refine ⟨⟨rfl, Nat.le_of_ble_eq_true rfl⟩, v_X9_count w σ ?_⟩
  obtain ⟨hL, hkb, hty, hrl, hco, has, hsl⟩ := id hp
  have hQ : ∀ r, (¬ w = nI 8 ∧ r = cnA w (σ 2 1) (σ 4 2) (nI (rlen (tn (σ 15 7)))) (σ 15 2) (σ 15 3) (σ 23 2) (σ 23 4) (σ 15 4)) → po_X9_count [.ref 0, .int w] σ r σ := fun r h => ⟨hp, fr_rf, fun z => absurd z h.1, fun _ => h.2⟩
  refine ⟨fun h0 => hQ _ ⟨by rw [h0]; decide, by unfold cnA; rw [if_pos h0]⟩, fun h0 => ⟨fun h1 => hQ _ ⟨by rw [h1]; decide, by unfold cnA; rw [if_neg h0, if_pos h1]⟩, fun h1 => ⟨fun h2 => ⟨⟨_, rfl, tn (σ 15 7), hty.1, lnOK_lt hty.2.1⟩, ?_⟩, fun h2 => ⟨fun h3 => hQ _ ⟨by rw [h3]; decide, by unfold cnA; rw [if_neg h0, if_neg h1, if_neg h2, if_pos h3]⟩, fun h3 => ⟨fun h4 => hQ _ ⟨by rw [h4]; decide, by unfold cnA; rw [if_neg h0, if_neg h1, if_neg h2, if_neg h3, if_pos h4]⟩, fun h4 => ⟨fun h5 => hQ _ ⟨by rw [h5]; decide, by unfold cnA; rw [if_neg h0, if_neg h1, if_neg h2, if_neg h3, if_neg h4, if_pos h5]⟩, fun h5 => ⟨fun h6 => hQ _ ⟨by rw [h6]; decide, by unfold cnA; rw [if_neg h0, if_neg h1, if_neg h2, if_neg h3, if_neg h4, if_neg h5, if_pos h6]⟩, fun h6 => ⟨fun h7 => hQ _ ⟨by rw [h7]; decide, by unfold cnA; rw [if_neg h0, if_neg h1, if_neg h2, if_neg h3, if_neg h4, if_neg h5, if_neg h6, if_pos h7]⟩, fun h7 => ⟨fun h8 => ⟨⟨rfl, hL.2, hkb⟩, ?_⟩, fun h8 => hQ _ ⟨h8, by unfold cnA; rw [if_neg h0, if_neg h1, if_neg h2, if_neg h3, if_neg h4, if_neg h5, if_neg h6, if_neg h7]⟩⟩⟩⟩⟩⟩⟩⟩⟩⟩
  · rintro x4 τ3 ⟨rfl, rfl⟩
    exact hQ _ ⟨by rw [h2]; decide, by unfold cnA; rw [if_neg h0, if_neg h1, if_pos h2]⟩
  · rintro x2 τ1 ⟨k1, f, hf, rfl, hD⟩
    exact ⟨InvC_fr hp k1 (by decide), k1, fun _ => ⟨τ1 10, f, hD, hf, rfl⟩, fun z => absurd h8 z⟩
end
section
/-! the model's own: rows, contexts, its map -/
def pr_X10_isIn : SPre := fun As σ => ∃ v : Int32, ∃ a : Int32, ∃ b : Int32, As = [.int v, .int a, .int b] ∧ (True)
def po_X10_isIn : SPost := fun As σ r τ => match As with
  | [.int v, .int a, .int b] => (τ = σ ∧ r = bI (inR v a b))
  | _ => True
def ms_X10_isIn : List Me := []
theorem mk_X10_isIn : ∀ q ∈ ms_X10_isIn, kp_okM layM RX10 0 q := fun _ h => absurd h List.not_mem_nil
set_option maxRecDepth 100000 in
theorem v_X10_isIn {J : Nat → Lcl → List Value → Sg → Prop} {Q : Int32 → Sg → Prop} (v a b : Int32) (σ : Sg) (h : (v < a → ((nI 0) = nI 0 ∨ (nI 0) = nI 1) ∧ Q (nI 0) σ) ∧ (¬ v < a → (b < v → ((nI 0) = nI 0 ∨ (nI 0) = nI 1) ∧ Q (nI 0) σ) ∧ (¬ b < v → ((nI 1) = nI 0 ∨ (nI 1) = nI 1) ∧ Q (nI 1) σ))) : kp_T layM gl_X10 pl_X10 (ms_X10_isIn) tb_X10_isIn (kp_rk (some .boolean)) J Q 30 tb_X10_isIn (kp_en [.int v, .int a, .int b] 3) [] σ := h
set_option maxRecDepth 100000 in
set_option maxHeartbeats 4000000 in
theorem c_X10_isIn : kp_Met layM 0 yX10_isIn cX10_isIn 3 (some .boolean) (pr_X10_isIn) (po_X10_isIn) := by
  refine kp_met (N := 30) (by decide) tk_X10_isIn gk_X10 pk_X10 (mk_X10_isIn) rfl (fun _ _ _ _ _ _ _ => False) ?_ (fun _ _ _ _ _ _ _ _ h => h.elim)
  rintro As σ ⟨v, a, b, rfl, hp⟩
  refine ⟨⟨rfl, Nat.le_of_ble_eq_true rfl⟩, v_X10_isIn v a b σ ?_⟩
  refine ⟨fun h1 => ⟨Or.inl rfl, rfl, ?_⟩, fun h1 => ⟨fun h2 => ⟨Or.inl rfl, rfl, ?_⟩, fun h2 => ⟨Or.inr rfl, rfl, ?_⟩⟩⟩
  · unfold inR; rw [decide_eq_true h1]; rfl
  · unfold inR; rw [decide_eq_false h1, decide_eq_true h2]; rfl
  · unfold inR; rw [decide_eq_false h1, decide_eq_false h2]; rfl
def pr_X10_isContext : SPre := fun As σ => ∃ c : Int32, As = [.ref 0, .int c] ∧ (True)
def po_X10_isContext : SPost := fun As σ r τ => match As with
  | [.ref _, .int c] => (τ = σ ∧ r = bI (isCx (σ 0 2) c))
  | _ => True
def ms_X10_isContext : List Me := []
theorem mk_X10_isContext : ∀ q ∈ ms_X10_isContext, kp_okM layM RX10 0 q := fun _ h => absurd h List.not_mem_nil
set_option maxRecDepth 100000 in
theorem v_X10_isContext {J : Nat → Lcl → List Value → Sg → Prop} {Q : Int32 → Sg → Prop} (c : Int32) (σ : Sg) (h : (c < (nI 0) → ((nI 0) = nI 0 ∨ (nI 0) = nI 1) ∧ Q (nI 0) σ) ∧ (¬ c < (nI 0) → (¬ c < (σ 0 2) → ((nI 0) = nI 0 ∨ (nI 0) = nI 1) ∧ Q (nI 0) σ) ∧ (c < (σ 0 2) → ((nI 1) = nI 0 ∨ (nI 1) = nI 1) ∧ Q (nI 1) σ))) : kp_T layM gl_X10 pl_X10 (ms_X10_isContext) tb_X10_isContext (kp_rk (some .boolean)) J Q 30 tb_X10_isContext (kp_en [.ref 0, .int c] 2) [] σ := h
set_option maxRecDepth 100000 in
set_option maxHeartbeats 4000000 in
theorem c_X10_isContext : kp_Met layM 0 yX10_isContext cX10_isContext 2 (some .boolean) (pr_X10_isContext) (po_X10_isContext) := by
  refine kp_met (N := 30) (by decide) tk_X10_isContext gk_X10 pk_X10 (mk_X10_isContext) rfl (fun _ _ _ _ _ _ _ => False) ?_ (fun _ _ _ _ _ _ _ _ h => h.elim)
  rintro As σ ⟨c, rfl, hp⟩
  refine ⟨⟨rfl, Nat.le_of_ble_eq_true rfl⟩, v_X10_isContext c σ ?_⟩
  refine ⟨fun h1 => ⟨Or.inl rfl, rfl, ?_⟩, fun h1 => ⟨fun h2 => ⟨Or.inl rfl, rfl, ?_⟩, fun h2 => ⟨Or.inr rfl, rfl, ?_⟩⟩⟩
  · unfold isCx; rw [decide_eq_true h1]; rfl
  · unfold isCx; rw [decide_eq_false h1, decide_eq_false h2]; rfl
  · unfold isCx; rw [decide_eq_false h1, decide_eq_true h2]; rfl
def pr_X10_isCommand : SPre := fun As σ => ∃ c : Int32, As = [.int c] ∧ (True)
def po_X10_isCommand : SPost := fun As σ r τ => match As with
  | [.int c] => (τ = σ ∧ r = bI (isCx (nI 40) c))
  | _ => True
def ms_X10_isCommand : List Me := []
theorem mk_X10_isCommand : ∀ q ∈ ms_X10_isCommand, kp_okM layM RX10 0 q := fun _ h => absurd h List.not_mem_nil
set_option maxRecDepth 100000 in
theorem v_X10_isCommand {J : Nat → Lcl → List Value → Sg → Prop} {Q : Int32 → Sg → Prop} (c : Int32) (σ : Sg) (h : (c < (nI 0) → ((nI 0) = nI 0 ∨ (nI 0) = nI 1) ∧ Q (nI 0) σ) ∧ (¬ c < (nI 0) → (¬ c < (nI 40) → ((nI 0) = nI 0 ∨ (nI 0) = nI 1) ∧ Q (nI 0) σ) ∧ (c < (nI 40) → ((nI 1) = nI 0 ∨ (nI 1) = nI 1) ∧ Q (nI 1) σ))) : kp_T layM gl_X10 pl_X10 (ms_X10_isCommand) tb_X10_isCommand (kp_rk (some .boolean)) J Q 30 tb_X10_isCommand (kp_en [.int c] 1) [] σ := h
set_option maxRecDepth 100000 in
set_option maxHeartbeats 4000000 in
theorem c_X10_isCommand : kp_Met layM 0 yX10_isCommand cX10_isCommand 1 (some .boolean) (pr_X10_isCommand) (po_X10_isCommand) := by
  refine kp_met (N := 30) (by decide) tk_X10_isCommand gk_X10 pk_X10 (mk_X10_isCommand) rfl (fun _ _ _ _ _ _ _ => False) ?_ (fun _ _ _ _ _ _ _ _ h => h.elim)
  rintro As σ ⟨c, rfl, hp⟩
  refine ⟨⟨rfl, Nat.le_of_ble_eq_true rfl⟩, v_X10_isCommand c σ ?_⟩
  refine ⟨fun h1 => ⟨Or.inl rfl, rfl, ?_⟩, fun h1 => ⟨fun h2 => ⟨Or.inl rfl, rfl, ?_⟩, fun h2 => ⟨Or.inr rfl, rfl, ?_⟩⟩⟩
  · unfold isCx; rw [decide_eq_true h1]; rfl
  · unfold isCx; rw [decide_eq_false h1, decide_eq_false h2]; rfl
  · unfold isCx; rw [decide_eq_false h1, decide_eq_true h2]; rfl
def pr_X10_stroke : SPre := fun As σ => ∃ row : Int32, ∃ k : Int32, As = [.int row, .int k] ∧ (∃ r q : Nat, row = nI r ∧ r < 2 ^ 31 ∧ k = nI q ∧ q < 3)
def po_X10_stroke : SPost := fun As σ r τ => match As with
  | [.int row, .int k] => (τ = σ ∧ r = nI (tn row / 256 ^ tn k % 256))
  | _ => True
def ms_X10_stroke : List Me := []
theorem mk_X10_stroke : ∀ q ∈ ms_X10_stroke, kp_okM layM RX10 0 q := fun _ h => absurd h List.not_mem_nil
set_option maxRecDepth 100000 in
theorem v_X10_stroke {J : Nat → Lcl → List Value → Sg → Prop} {Q : Int32 → Sg → Prop} (row k : Int32) (σ : Sg) (h : Q ((row >>> (((nI 8) * k) &&& 31)) &&& (nI 255)) σ) : kp_T layM gl_X10 pl_X10 (ms_X10_stroke) tb_X10_stroke (kp_rk (some .int)) J Q 30 tb_X10_stroke (kp_en [.int row, .int k] 2) [] σ := h
set_option maxRecDepth 100000 in
set_option maxHeartbeats 4000000 in
theorem c_X10_stroke : kp_Met layM 0 yX10_stroke cX10_stroke 2 (some .int) (pr_X10_stroke) (po_X10_stroke) := by
  refine kp_met (N := 30) (by decide) tk_X10_stroke gk_X10 pk_X10 (mk_X10_stroke) rfl (fun _ _ _ _ _ _ _ => False) ?_ (fun _ _ _ _ _ _ _ _ h => h.elim)
  rintro As σ ⟨row, k, rfl, hp⟩
  refine ⟨⟨rfl, Nat.le_of_ble_eq_true rfl⟩, v_X10_stroke row k σ ?_⟩
  obtain ⟨r, k, rfl, hr, rfl, hk⟩ := hp
  refine ⟨rfl, ?_⟩
  have hd : ∀ m, r / 2 ^ m < 2 ^ 32 := fun m => Nat.lt_of_le_of_lt (Nat.div_le_self _ _) (by omega)
  rw [tn_nI hr, tn_nI (by omega), pk_mul]
  rcases (show k = 0 ∨ k = 1 ∨ k = 2 by omega) with rfl | rfl | rfl
  · rw [pk_shrN hr _ 0 rfl, pk_andN (hd 0) 8 rfl]
  · rw [pk_shrN hr _ 8 rfl, pk_andN (hd 8) 8 rfl]
  · rw [pk_shrN hr _ 16 rfl, pk_andN (hd 16) 8 rfl]
/-- the model's length of a row: of no stroke it is 1 -/
def mlen (r : Nat) : Nat := if r / 65536 % 256 = 0 then (if r / 256 % 256 = 0 then 1 else 2) else 3
theorem mlen_row {r : Nat} (h : rowOK r = true) : mlen r = rlen r := by
  have := rowOK_iff.mp h
  have h0 : ¬ r % 256 = 0 := by omega
  unfold mlen rlen
  rw [if_neg h0]
  by_cases h1 : r / 65536 % 256 = 0
  · rw [if_pos h1, if_pos h1]
  · have h2 : ¬ r / 256 % 256 = 0 := by omega
    rw [if_neg h1, if_neg h1, if_neg h2]
def pr_X10_length : SPre := fun As σ => ∃ row : Int32, As = [.int row] ∧ (∃ r : Nat, row = nI r ∧ r < 2 ^ 31)
def po_X10_length : SPost := fun As σ r τ => match As with
  | [.int row] => (τ = σ ∧ r = nI (mlen (tn row)))
  | _ => True
def ms_X10_length : List Me := [(80, 1, 9, 2, true, pr_X10_stroke, po_X10_stroke)]
theorem mk_X10_length : ∀ q ∈ ms_X10_length, kp_okM layM RX10 1 q := List.forall_mem_cons.mpr ⟨Or.inl ⟨0, yX10_stroke, cX10_stroke, 2, (some .int), c_X10_stroke, by omega, by decide, rfl, lk_X10_80⟩, fun _ h => absurd h List.not_mem_nil⟩
set_option maxRecDepth 100000 in
theorem v_X10_length {J : Nat → Lcl → List Value → Sg → Prop} {Q : Int32 → Sg → Prop} (row : Int32) (σ : Sg) (h : pr_X10_stroke [.int row, .int (nI 2)] σ ∧ ∀ (x2 : Int32) (τ1 : Sg), po_X10_stroke [.int row, .int (nI 2)] σ x2 τ1 → ((x2 = (nI 0) → pr_X10_stroke [.int row, .int (nI 1)] τ1 ∧ ∀ (x4 : Int32) (τ3 : Sg), po_X10_stroke [.int row, .int (nI 1)] τ1 x4 τ3 → ((x4 = (nI 0) → Q (nI 1) τ3) ∧ (¬ x4 = (nI 0) → Q (nI 2) τ3))) ∧ (¬ x2 = (nI 0) → Q (nI 3) τ1))) : kp_T layM gl_X10 pl_X10 (ms_X10_length) tb_X10_length (kp_rk (some .int)) J Q 30 tb_X10_length (kp_en [.int row] 1) [] σ := h
set_option maxRecDepth 100000 in
set_option maxHeartbeats 4000000 in
theorem c_X10_length : kp_Met layM 1 yX10_length cX10_length 1 (some .int) (pr_X10_length) (po_X10_length) := by
  refine kp_met (N := 30) (by decide) tk_X10_length gk_X10 pk_X10 (mk_X10_length) rfl (fun _ _ _ _ _ _ _ => False) ?_ (fun _ _ _ _ _ _ _ _ h => h.elim)
  rintro As σ ⟨row, rfl, hp⟩
  refine ⟨⟨rfl, Nat.le_of_ble_eq_true rfl⟩, v_X10_length row σ ?_⟩
  obtain ⟨r, rfl, hr⟩ := hp
  have e1 : tn (nI r) / 256 ^ tn (nI 1) % 256 = r / 256 % 256 := by rw [tn_nI hr, tn_nI (by omega)]
  have e2 : tn (nI r) / 256 ^ tn (nI 2) % 256 = r / 65536 % 256 := by rw [tn_nI hr, tn_nI (by omega)]
  refine ⟨⟨_, _, rfl, r, 2, rfl, hr, rfl, by omega⟩, ?_⟩
  rintro x2 τ1 ⟨rfl, rfl⟩
  rw [e2, nI_eq (by omega) (by omega)]
  refine ⟨fun h => ⟨⟨_, _, rfl, r, 1, rfl, hr, rfl, by omega⟩, ?_⟩, fun h => ⟨rfl, by rw [tn_nI hr, mlen, if_neg h]⟩⟩
  rintro x4 τ3 ⟨rfl, rfl⟩
  rw [e1, nI_eq (by omega) (by omega)]
  exact ⟨fun h2 => ⟨rfl, by rw [tn_nI hr, mlen, if_pos h, if_pos h2]⟩, fun h2 => ⟨rfl, by rw [tn_nI hr, mlen, if_pos h, if_neg h2]⟩⟩
def pr_X10_isRow : SPre := fun As σ => ∃ row : Int32, As = [.int row] ∧ (True)
def po_X10_isRow : SPost := fun As σ r τ => match As with
  | [.int row] => (τ = σ ∧ r = bI (isRw row))
  | _ => True
def ms_X10_isRow : List Me := [(80, 1, 9, 2, true, pr_X10_stroke, po_X10_stroke), (84, 1, 9, 3, true, pr_X10_isIn, po_X10_isIn)]
theorem mk_X10_isRow : ∀ q ∈ ms_X10_isRow, kp_okM layM RX10 1 q := List.forall_mem_cons.mpr ⟨Or.inl ⟨0, yX10_stroke, cX10_stroke, 2, (some .int), c_X10_stroke, by omega, by decide, rfl, lk_X10_80⟩, List.forall_mem_cons.mpr ⟨Or.inl ⟨0, yX10_isIn, cX10_isIn, 3, (some .boolean), c_X10_isIn, by omega, by decide, rfl, lk_X10_84⟩, fun _ h => absurd h List.not_mem_nil⟩⟩
set_option maxRecDepth 100000 in
theorem v_X10_isRow {J : Nat → Lcl → List Value → Sg → Prop} {Q : Int32 → Sg → Prop} (row : Int32) (σ : Sg) (h : (row < (nI 0) → ((nI 0) = nI 0 ∨ (nI 0) = nI 1) ∧ Q (nI 0) σ) ∧ (¬ row < (nI 0) → ((row >>> ((nI 24) &&& 31)) = (nI 0) → pr_X10_stroke [.int row, .int (nI 0)] σ ∧ ∀ (x2 : Int32) (τ1 : Sg), po_X10_stroke [.int row, .int (nI 0)] σ x2 τ1 → (pr_X10_stroke [.int row, .int (nI 1)] τ1 ∧ ∀ (x4 : Int32) (τ3 : Sg), po_X10_stroke [.int row, .int (nI 1)] τ1 x4 τ3 → (pr_X10_stroke [.int row, .int (nI 2)] τ3 ∧ ∀ (x6 : Int32) (τ5 : Sg), po_X10_stroke [.int row, .int (nI 2)] τ3 x6 τ5 → (pr_X10_isIn [.int x2, .int (nI 1), .int (nI 240)] τ5 ∧ ∀ (x8 : Int32) (τ7 : Sg), po_X10_isIn [.int x2, .int (nI 1), .int (nI 240)] τ5 x8 τ7 → ((x8 = (nI 0) → ((nI 0) = nI 0 ∨ (nI 0) = nI 1) ∧ Q (nI 0) τ7) ∧ (¬ x8 = (nI 0) → ((nI 240) < x4 → ((nI 0) = nI 0 ∨ (nI 0) = nI 1) ∧ Q (nI 0) τ7) ∧ (¬ (nI 240) < x4 → ((nI 240) < x6 → ((nI 0) = nI 0 ∨ (nI 0) = nI 1) ∧ Q (nI 0) τ7) ∧ (¬ (nI 240) < x6 → (x6 = (nI 0) → ((nI 1) = nI 0 ∨ (nI 1) = nI 1) ∧ Q (nI 1) τ7) ∧ (¬ x6 = (nI 0) → (x4 = (nI 0) → ((nI 0) = nI 0 ∨ (nI 0) = nI 1) ∧ Q (nI 0) τ7) ∧ (¬ x4 = (nI 0) → ((nI 1) = nI 0 ∨ (nI 1) = nI 1) ∧ Q (nI 1) τ7)))))))))) ∧ (¬ (row >>> ((nI 24) &&& 31)) = (nI 0) → ((nI 0) = nI 0 ∨ (nI 0) = nI 1) ∧ Q (nI 0) σ))) : kp_T layM gl_X10 pl_X10 (ms_X10_isRow) tb_X10_isRow (kp_rk (some .boolean)) J Q 44 tb_X10_isRow (kp_en [.int row] 4) [] σ := h
set_option maxRecDepth 100000 in
set_option maxHeartbeats 4000000 in
theorem c_X10_isRow : kp_Met layM 1 yX10_isRow cX10_isRow 4 (some .boolean) (pr_X10_isRow) (po_X10_isRow) := by
  refine kp_met (N := 44) (by decide) tk_X10_isRow gk_X10 pk_X10 (mk_X10_isRow) rfl (fun _ _ _ _ _ _ _ => False) ?_ (fun _ _ _ _ _ _ _ _ h => h.elim)
  rintro As σ ⟨row, rfl, hp⟩
  refine ⟨⟨rfl, Nat.le_of_ble_eq_true rfl⟩, v_X10_isRow row σ ?_⟩
  have hneg : row < nI 0 → isRw row = false := fun h => by
    unfold isRw
    rw [decide_eq_true (by rw [lt_I, nI_toInt (by omega)] at *; omega)]; rfl
  refine ⟨fun h1 => ⟨Or.inl rfl, rfl, by rw [hneg h1]; rfl⟩, fun h1 => ?_⟩
  obtain ⟨r, hr, rfl⟩ := nI_of (show ¬ row < 0 from h1)
  have e0 : tn (nI r) / 256 ^ tn (nI 0) % 256 = r % 256 := by rw [tn_nI hr, tn_nI (by omega)]; simp
  have e1 : tn (nI r) / 256 ^ tn (nI 1) % 256 = r / 256 % 256 := by rw [tn_nI hr, tn_nI (by omega)]
  have e2 : tn (nI r) / 256 ^ tn (nI 2) % 256 = r / 65536 % 256 := by rw [tn_nI hr, tn_nI (by omega)]
  have hrw : isRw (nI r) = rowOK r := by
    by_cases h : 1 ≤ r
    · exact isRw_nI h hr
    · have : r = 0 := by omega
      subst this; decide
  have hlt : r / 2 ^ 24 < 2 ^ 31 := Nat.lt_of_le_of_lt (Nat.div_le_self _ _) hr
  rw [pk_shrN hr _ 24 (by decide), nI_eq hlt (by omega)]
  have k1 := nI_eq (a := r / 256 % 256) (b := 0) (by omega) (by omega)
  have k2 := nI_eq (a := r / 65536 % 256) (b := 0) (by omega) (by omega)
  refine ⟨fun h2 => ⟨⟨_, _, rfl, r, 0, rfl, hr, rfl, by omega⟩, ?_⟩, fun h2 => ⟨Or.inl rfl, rfl, ?_⟩⟩
  · rintro x2 τ1 ⟨rfl, rfl⟩
    refine ⟨⟨_, _, rfl, r, 1, rfl, hr, rfl, by omega⟩, ?_⟩
    rintro x4 τ3 ⟨rfl, rfl⟩
    refine ⟨⟨_, _, rfl, r, 2, rfl, hr, rfl, by omega⟩, ?_⟩
    rintro x6 τ5 ⟨rfl, rfl⟩
    rw [e0, e1, e2]
    refine ⟨⟨_, _, _, rfl, trivial⟩, ?_⟩
    rintro x8 τ7 ⟨rfl, rfl⟩
    have hst : inR (nI (r % 256)) (nI 1) (nI 240) = decide (1 ≤ r % 256 ∧ r % 256 ≤ 240) := by
      rw [← isSt_inR, isSt_nI (by omega)]
    rw [hst, bI_0, nI_ltI (by omega) (by omega), nI_ltI (by omega) (by omega), k1, k2]
    have no : ¬ (1 ≤ r % 256 ∧ r % 256 ≤ 240 ∧ r / 256 % 256 ≤ 240 ∧ r / 65536 ≤ 240 ∧ (r / 256 % 256 = 0 → r / 65536 = 0)) → nI 0 = bI (isRw (nI r)) := fun h => by
      rw [hrw, show rowOK r = false from decide_eq_false h]; rfl
    have ye : (1 ≤ r % 256 ∧ r % 256 ≤ 240 ∧ r / 256 % 256 ≤ 240 ∧ r / 65536 ≤ 240 ∧ (r / 256 % 256 = 0 → r / 65536 = 0)) → nI 1 = bI (isRw (nI r)) := fun h => by
      rw [hrw, show rowOK r = true from decide_eq_true h]; rfl
    refine ⟨fun h3 => ⟨Or.inl rfl, rfl, no ?_⟩, fun h3 => ⟨fun h4 => ⟨Or.inl rfl, rfl, no ?_⟩, fun h4 => ⟨fun h5 => ⟨Or.inl rfl, rfl, no ?_⟩, fun h5 => ⟨fun h6 => ⟨Or.inr rfl, rfl, ye ?_⟩, fun h6 => ⟨fun h7 => ⟨Or.inl rfl, rfl, no ?_⟩, fun h7 => ⟨Or.inr rfl, rfl, ye ?_⟩⟩⟩⟩⟩⟩
    · have := of_decide_eq_false h3; omega
    · omega
    · omega
    · rw [Bool.not_eq_false] at h3
      have := of_decide_eq_true h3; omega
    · omega
    · rw [Bool.not_eq_false] at h3
      have := of_decide_eq_true h3; omega
  · rw [hrw, show rowOK r = false from decide_eq_false (by omega)]; rfl
def pr_X10_begins : SPre := fun As σ => ∃ row : Int32, ∃ other : Int32, As = [.int row, .int other] ∧ (∃ a b : Nat, row = nI a ∧ a < 2 ^ 31 ∧ other = nI b ∧ b < 2 ^ 31)
def po_X10_begins : SPost := fun As σ r τ => match As with
  | [.int row, .int other] => (τ = σ ∧ r = bI (decide (mlen (tn row) < mlen (tn other) ∧ tn other % 256 ^ mlen (tn row) = tn row)))
  | _ => True
def ms_X10_begins : List Me := [(111, 1, 9, 1, true, pr_X10_length, po_X10_length)]
theorem mk_X10_begins : ∀ q ∈ ms_X10_begins, kp_okM layM RX10 2 q := List.forall_mem_cons.mpr ⟨Or.inl ⟨1, yX10_length, cX10_length, 1, (some .int), c_X10_length, by omega, by decide, rfl, lk_X10_111⟩, fun _ h => absurd h List.not_mem_nil⟩
set_option maxRecDepth 100000 in
theorem v_X10_begins {J : Nat → Lcl → List Value → Sg → Prop} {Q : Int32 → Sg → Prop} (row other : Int32) (σ : Sg) (h : pr_X10_length [.int row] σ ∧ ∀ (x2 : Int32) (τ1 : Sg), po_X10_length [.int row] σ x2 τ1 → (pr_X10_length [.int other] τ1 ∧ ∀ (x4 : Int32) (τ3 : Sg), po_X10_length [.int other] τ1 x4 τ3 → ((¬ x2 < x4 → ((nI 0) = nI 0 ∨ (nI 0) = nI 1) ∧ Q (nI 0) τ3) ∧ (x2 < x4 → pr_X10_length [.int row] τ3 ∧ ∀ (x6 : Int32) (τ5 : Sg), po_X10_length [.int row] τ3 x6 τ5 → ((¬ (other &&& (((nI 1) <<< (((nI 8) * x6) &&& 31)) - (nI 1))) = row → ((nI 0) = nI 0 ∨ (nI 0) = nI 1) ∧ Q (nI 0) τ5) ∧ ((other &&& (((nI 1) <<< (((nI 8) * x6) &&& 31)) - (nI 1))) = row → ((nI 1) = nI 0 ∨ (nI 1) = nI 1) ∧ Q (nI 1) τ5)))))) : kp_T layM gl_X10 pl_X10 (ms_X10_begins) tb_X10_begins (kp_rk (some .boolean)) J Q 30 tb_X10_begins (kp_en [.int row, .int other] 2) [] σ := h
set_option maxRecDepth 100000 in
set_option maxHeartbeats 4000000 in
theorem c_X10_begins : kp_Met layM 2 yX10_begins cX10_begins 2 (some .boolean) (pr_X10_begins) (po_X10_begins) := by
  refine kp_met (N := 30) (by decide) tk_X10_begins gk_X10 pk_X10 (mk_X10_begins) rfl (fun _ _ _ _ _ _ _ => False) ?_ (fun _ _ _ _ _ _ _ _ h => h.elim)
  rintro As σ ⟨row, other, rfl, hp⟩
  refine ⟨⟨rfl, Nat.le_of_ble_eq_true rfl⟩, v_X10_begins row other σ ?_⟩
  obtain ⟨a, b, rfl, ha, rfl, hb⟩ := hp
  have ea : tn (nI a) = a := tn_nI ha
  have eb : tn (nI b) = b := tn_nI hb
  refine ⟨⟨_, rfl, a, rfl, ha⟩, ?_⟩
  rintro x2 τ1 ⟨rfl, rfl⟩
  refine ⟨⟨_, rfl, b, rfl, hb⟩, ?_⟩
  rintro x4 τ3 ⟨rfl, rfl⟩
  rw [ea, eb]
  have ml : ∀ r, mlen r = 1 ∨ mlen r = 2 ∨ mlen r = 3 := fun r => by unfold mlen; split <;> (try split) <;> simp
  have mla := ml a
  have mlb := ml b
  rw [nI_ltI (by omega) (by omega)]
  refine ⟨fun h => ⟨Or.inl rfl, rfl, by rw [ea, eb, decide_eq_false (fun z => h z.1)]; rfl⟩, fun h => ⟨⟨_, rfl, a, rfl, ha⟩, ?_⟩⟩
  rintro x6 τ5 ⟨rfl, rfl⟩
  rw [ea]
  have hand : nI b &&& (nI 1 <<< (nI 8 * nI (mlen a) &&& 31) - nI 1) = nI (b % 256 ^ mlen a) := by
    rcases mla with e | e | e <;> rw [e]
    · exact pk_andN (by omega) 8 (by decide)
    · exact pk_andN (by omega) 16 (by decide)
    · exact pk_andN (by omega) 24 (by decide)
  rw [hand, nI_eq (Nat.lt_of_le_of_lt (Nat.mod_le _ _) hb) ha]
  exact ⟨fun h2 => ⟨Or.inl rfl, rfl, by rw [ea, eb, decide_eq_false (fun z => h2 z.2)]; rfl⟩, fun h2 => ⟨Or.inr rfl, rfl, by rw [ea, eb, decide_eq_true ⟨h, h2⟩]; rfl⟩⟩
/-- the model's rows of entries -/
abbrev eK (a r : Nat → Int32) : Nat → Nat := fun i => tn (a i) * 16777216 + tn (r i)
def mOK (a r c : Nat → Int32) (nz : Int32) : Prop := ∃ z : Nat, nz = nI z ∧ z ≤ 120 ∧ (∀ i, i < z → nn (a i) ∧ tn (a i) < 12 ∧ nn (r i) ∧ rowOK (tn (r i)) = true ∧ ∃ v : Nat, v ≤ 40 ∧ c i = nI v) ∧ ∀ i j, i < z → j < z → eK a r i = eK a r j → i = j
def mpM (a r c : Nat → Int32) (nz : Int32) (k : Nat) : Int32 := lk (eK a r) c (tn nz) k
abbrev mM (σ : Sg) : Nat → Int32 := mpM (σ 2) (σ 3) (σ 4) (σ 0 8)
abbrev kM (σ : Sg) : Nat → Int32 := mpM (σ 5) (σ 6) (σ 7) (σ 0 9)
theorem eK_iff {a r : Nat → Int32} {i c w : Nat} (h1 : nn (a i)) (h2 : nn (r i)) (h3 : tn (r i) < 16777216) (hc : c < 2 ^ 31) (hw : w < 16777216) : eK a r i = c * 16777216 + w ↔ a i = nI c ∧ r i = nI w := by
  constructor
  · intro h
    have h : tn (a i) * 16777216 + tn (r i) = c * 16777216 + w := h
    have e1 : tn (a i) = c := by omega
    have e2 : tn (r i) = w := by omega
    rw [← e1, ← e2]; exact ⟨h1, h2⟩
  · rintro ⟨e1, e2⟩
    show tn (a i) * 16777216 + tn (r i) = _
    rw [e1, e2, tn_nI hc, tn_nI (by omega)]
theorem mpM_val {a r c : Nat → Int32} {nz : Int32} (h : mOK a r c nz) (k : Nat) : mpM a r c nz k = -1 ∨ (keyOK k ∧ ∃ v : Nat, v ≤ 40 ∧ mpM a r c nz k = nI v) := by
  obtain ⟨z, rfl, h1, h2, h3⟩ := id h
  have ez : tn (nI z) = z := tn_nI (by omega)
  unfold mpM
  rw [ez]
  by_cases hh : lk (eK a r) c z k = -1
  · exact Or.inl hh
  · obtain ⟨i, hi, rfl⟩ := lk_some hh
    rw [lk_at (ks := eK a r) h3 hi]
    obtain ⟨g1, g2, g3, g4, g5⟩ := h2 i hi
    have := rowOK_lt g4
    refine Or.inr ⟨⟨?_, ?_⟩, g5⟩
    · show (tn (a i) * 16777216 + tn (r i)) / 16777216 < 12
      rw [(key_div this).1]; exact g2
    · show rowOK ((tn (a i) * 16777216 + tn (r i)) % 16777216) = true
      rw [(key_div this).2]; exact g4
def pr_X10_entry : SPre := fun As σ => ∃ c : Int32, ∃ row : Int32, As = [.ref 0, .int c, .int row] ∧ (mOK (σ 2) (σ 3) (σ 4) (σ 0 8) ∧ ∃ x w : Nat, c = nI x ∧ x < 12 ∧ row = nI w ∧ w < 16777216)
def po_X10_entry : SPost := fun As σ r τ => match As with
  | [.ref _, .int c, .int row] => (τ = σ ∧ ((∃ k : Nat, k < tn (σ 0 8) ∧ r = nI k ∧ eK (σ 2) (σ 3) k = tn c * 16777216 + tn row) ∨ (r = -1 ∧ ∀ k, k < tn (σ 0 8) → eK (σ 2) (σ 3) k ≠ tn c * 16777216 + tn row)))
  | _ => True
def ms_X10_entry : List Me := []
theorem mk_X10_entry : ∀ q ∈ ms_X10_entry, kp_okM layM RX10 0 q := fun _ h => absurd h List.not_mem_nil
set_option maxRecDepth 100000 in
theorem v_X10_entry {J : Nat → Lcl → List Value → Sg → Prop} {Q : Int32 → Sg → Prop} (c row : Int32) (σ : Sg) (h : J 2 [some (.ref 0), some (.int c), some (.int row), some (.int (nI 0))] [] σ) : kp_T layM gl_X10 pl_X10 (ms_X10_entry) tb_X10_entry (kp_rk (some .int)) J Q 30 tb_X10_entry (kp_en [.ref 0, .int c, .int row] 4) [] σ := h
set_option maxRecDepth 100000 in
theorem v_X10_entry_2 {J : Nat → Lcl → List Value → Sg → Prop} {Q : Int32 → Sg → Prop} (c row k : Int32) (σ : Sg) (h : (¬ k < (σ 0 8) → Q (-1) σ) ∧ (k < (σ 0 8) → vp_in k 120 ∧ ((¬ (σ 2 (k).toNatClampNeg) = c → J 2 [some (.ref 0), some (.int c), some (.int row), some (.int (k + nI 1))] [] σ) ∧ ((σ 2 (k).toNatClampNeg) = c → vp_in k 120 ∧ ((¬ (σ 3 (k).toNatClampNeg) = row → J 2 [some (.ref 0), some (.int c), some (.int row), some (.int (k + nI 1))] [] σ) ∧ ((σ 3 (k).toNatClampNeg) = row → Q k σ)))))) : kp_T1 layM gl_X10 pl_X10 (ms_X10_entry) tb_X10_entry (kp_rk (some .int)) J Q 30 2 [some (.ref 0), some (.int c), some (.int row), some (.int k)] [] σ := h
abbrev iv_X10_entry : List Value → Sg → Nat → Nat → Lcl → List Value → Sg → Prop := fun As σ n pc ls st τ => pc = 2 ∧ st = [] ∧ τ = σ ∧ ∃ (x w k : Nat), As = [.ref 0, .int (nI x), .int (nI w)] ∧ ls = [some (.ref 0), some (.int (nI x)), some (.int (nI w)), some (.int (nI k))] ∧ k ≤ tn (σ 0 8) ∧ n = tn (σ 0 8) - k ∧ x < 12 ∧ w < 16777216 ∧ ∀ j, j < k → eK (σ 2) (σ 3) j ≠ x * 16777216 + w
set_option maxRecDepth 100000 in
set_option maxHeartbeats 4000000 in
theorem c_X10_entry : kp_Met layM 0 yX10_entry cX10_entry 4 (some .int) (pr_X10_entry) (po_X10_entry) := by
  refine kp_met (N := 30) (by decide) tk_X10_entry gk_X10 pk_X10 (mk_X10_entry) rfl (iv_X10_entry) ?_ ?_
  · rintro As σ ⟨c, row, rfl, hp⟩
    refine ⟨⟨rfl, Nat.le_of_ble_eq_true rfl⟩, v_X10_entry c row σ ?_⟩
    obtain ⟨hm, x, w, rfl, hx, rfl, hw⟩ := hp
    exact ⟨_, rfl, rfl, rfl, x, w, 0, rfl, rfl, Nat.zero_le _, rfl, hx, hw, fun j hj => by omega⟩
  · rintro As σ ⟨c, row, rfl, hp⟩ n pc ls st τ hI
    obtain ⟨hm, -⟩ := hp
    obtain ⟨z, hz, hz1, h2, h3⟩ := id hm
    obtain ⟨rfl, rfl, rfl, x, w, k, hAs, rfl, hk, rfl, hx, hw, hj⟩ := hI
    cases hAs
    have ez : tn (τ 0 8) = z := by rw [hz, tn_nI (by omega)]
    rw [ez] at hk
    refine v_X10_entry_2 _ _ _ τ ?_
    rw [hz, nI_ltI (by omega) (by omega), nI_clamp (show k < 2 ^ 31 by omega), nI_add]
    have ex : tn (nI x) = x := tn_nI (by omega)
    have ew : tn (nI w) = w := tn_nI (by omega)
    refine ⟨fun g => ⟨rfl, Or.inr ⟨rfl, fun q hq => ?_⟩⟩, fun g => ⟨(kp_in (by omega)).mpr (by omega), ?_⟩⟩
    · rw [ex, ew]; exact hj q (by omega)
    obtain ⟨g1, g2, g3, g4, -⟩ := h2 k g
    have hiff := eK_iff (a := τ 2) (r := τ 3) (c := x) (w := w) g1 g3 (rowOK_lt g4) (by omega) hw
    have hgo : eK (τ 2) (τ 3) k ≠ x * 16777216 + w → ∃ n', n' < tn (nI z) - k ∧ iv_X10_entry [.ref 0, .int (nI x), .int (nI w)] τ n' 2 [some (.ref 0), some (.int (nI x)), some (.int (nI w)), some (.int (nI (k + 1)))] [] τ := fun h => ⟨tn (τ 0 8) - (k + 1), by rw [ez, tn_nI (by omega)]; omega, rfl, rfl, rfl, x, w, k + 1, rfl, rfl, by omega, rfl, hx, hw, fun j hj' => by
      by_cases e : j = k
      · rw [e]; exact h
      · exact hj j (by omega)⟩
    refine ⟨fun q1 => hgo (fun q => q1 (hiff.mp q).1), fun q1 => ⟨(kp_in (by omega)).mpr (by omega), fun q2 => hgo (fun q => q2 (hiff.mp q).2), fun q2 => ⟨rfl, Or.inl ⟨k, by omega, rfl, ?_⟩⟩⟩⟩
    rw [ex, ew]; exact hiff.mpr ⟨q1, q2⟩
def pr_X10_hasFor : SPre := fun As σ => ∃ c : Int32, ∃ row : Int32, As = [.ref 0, .int c, .int row] ∧ (mOK (σ 2) (σ 3) (σ 4) (σ 0 8) ∧ ∃ x w : Nat, c = nI x ∧ x < 12 ∧ row = nI w ∧ w < 16777216)
def po_X10_hasFor : SPost := fun As σ r τ => match As with
  | [.ref _, .int c, .int row] => (τ = σ ∧ r = mM σ (tn c * 16777216 + tn row))
  | _ => True
def ms_X10_hasFor : List Me := [(95, 0, 9, 2, true, pr_X10_entry, po_X10_entry)]
theorem mk_X10_hasFor : ∀ q ∈ ms_X10_hasFor, kp_okM layM RX10 1 q := List.forall_mem_cons.mpr ⟨Or.inl ⟨0, yX10_entry, cX10_entry, 4, (some .int), c_X10_entry, by omega, by decide, rfl, lk_X10_95⟩, fun _ h => absurd h List.not_mem_nil⟩
set_option maxRecDepth 100000 in
theorem v_X10_hasFor {J : Nat → Lcl → List Value → Sg → Prop} {Q : Int32 → Sg → Prop} (c row : Int32) (σ : Sg) (h : pr_X10_entry [.ref 0, .int c, .int row] σ ∧ ∀ (x2 : Int32) (τ1 : Sg), po_X10_entry [.ref 0, .int c, .int row] σ x2 τ1 → ((¬ x2 = (-1) → vp_in x2 120 ∧ (Q (τ1 4 (x2).toNatClampNeg) τ1)) ∧ (x2 = (-1) → Q (-1) τ1))) : kp_T layM gl_X10 pl_X10 (ms_X10_hasFor) tb_X10_hasFor (kp_rk (some .int)) J Q 30 tb_X10_hasFor (kp_en [.ref 0, .int c, .int row] 4) [] σ := h
set_option maxRecDepth 100000 in
set_option maxHeartbeats 4000000 in
theorem c_X10_hasFor : kp_Met layM 1 yX10_hasFor cX10_hasFor 4 (some .int) (pr_X10_hasFor) (po_X10_hasFor) := by
  refine kp_met (N := 30) (by decide) tk_X10_hasFor gk_X10 pk_X10 (mk_X10_hasFor) rfl (fun _ _ _ _ _ _ _ => False) ?_ (fun _ _ _ _ _ _ _ _ h => h.elim)
  rintro As σ ⟨c, row, rfl, hp⟩
  refine ⟨⟨rfl, Nat.le_of_ble_eq_true rfl⟩, v_X10_hasFor c row σ ?_⟩
  obtain ⟨hm, hcr⟩ := hp
  obtain ⟨z, hz, hz1, h2, h3⟩ := id hm
  have ez : tn (σ 0 8) = z := by rw [hz, tn_nI (by omega)]
  refine ⟨⟨_, _, rfl, hm, hcr⟩, ?_⟩
  rintro x2 τ1 ⟨rfl, h⟩
  show (_ → vp_in x2 120 ∧ po_X10_hasFor _ τ1 (τ1 4 (tn x2)) τ1) ∧ _
  rcases h with ⟨k, hk, rfl, e⟩ | ⟨rfl, hno⟩
  · rw [ez] at hk
    refine ⟨fun _ => ⟨(kp_in (by omega)).mpr (by omega), rfl, ?_⟩, fun q => absurd q (nI_m1 (by omega))⟩
    rw [tn_nI (show k < 2 ^ 31 by omega), ← e]
    show _ = lk (eK (τ1 2) (τ1 3)) (τ1 4) (tn (τ1 0 8)) _
    rw [ez, lk_at (ks := eK (τ1 2) (τ1 3)) h3 hk]
  · exact ⟨fun q => absurd rfl q, fun _ => ⟨rfl, (lk_none hno).symm⟩⟩
def pr_X10_keptFor : SPre := fun As σ => ∃ c : Int32, ∃ row : Int32, As = [.ref 0, .int c, .int row] ∧ (mOK (σ 5) (σ 6) (σ 7) (σ 0 9) ∧ ∃ x w : Nat, c = nI x ∧ x < 12 ∧ row = nI w ∧ w < 16777216)
def po_X10_keptFor : SPost := fun As σ r τ => match As with
  | [.ref _, .int c, .int row] => (τ = σ ∧ r = kM σ (tn c * 16777216 + tn row))
  | _ => True
def ms_X10_keptFor : List Me := []
theorem mk_X10_keptFor : ∀ q ∈ ms_X10_keptFor, kp_okM layM RX10 0 q := fun _ h => absurd h List.not_mem_nil
set_option maxRecDepth 100000 in
theorem v_X10_keptFor {J : Nat → Lcl → List Value → Sg → Prop} {Q : Int32 → Sg → Prop} (c row : Int32) (σ : Sg) (h : J 2 [some (.ref 0), some (.int c), some (.int row), some (.int (nI 0))] [] σ) : kp_T layM gl_X10 pl_X10 (ms_X10_keptFor) tb_X10_keptFor (kp_rk (some .int)) J Q 32 tb_X10_keptFor (kp_en [.ref 0, .int c, .int row] 4) [] σ := h
set_option maxRecDepth 100000 in
theorem v_X10_keptFor_2 {J : Nat → Lcl → List Value → Sg → Prop} {Q : Int32 → Sg → Prop} (c row k : Int32) (σ : Sg) (h : (¬ k < (σ 0 9) → Q (-1) σ) ∧ (k < (σ 0 9) → vp_in k 120 ∧ ((¬ (σ 5 (k).toNatClampNeg) = c → J 2 [some (.ref 0), some (.int c), some (.int row), some (.int (k + nI 1))] [] σ) ∧ ((σ 5 (k).toNatClampNeg) = c → vp_in k 120 ∧ ((¬ (σ 6 (k).toNatClampNeg) = row → J 2 [some (.ref 0), some (.int c), some (.int row), some (.int (k + nI 1))] [] σ) ∧ ((σ 6 (k).toNatClampNeg) = row → vp_in k 120 ∧ (Q (σ 7 (k).toNatClampNeg) σ))))))) : kp_T1 layM gl_X10 pl_X10 (ms_X10_keptFor) tb_X10_keptFor (kp_rk (some .int)) J Q 32 2 [some (.ref 0), some (.int c), some (.int row), some (.int k)] [] σ := h
abbrev iv_X10_keptFor : List Value → Sg → Nat → Nat → Lcl → List Value → Sg → Prop := fun As σ n pc ls st τ => pc = 2 ∧ st = [] ∧ τ = σ ∧ ∃ (x w k : Nat), As = [.ref 0, .int (nI x), .int (nI w)] ∧ ls = [some (.ref 0), some (.int (nI x)), some (.int (nI w)), some (.int (nI k))] ∧ k ≤ tn (σ 0 9) ∧ n = tn (σ 0 9) - k ∧ x < 12 ∧ w < 16777216 ∧ ∀ j, j < k → eK (σ 5) (σ 6) j ≠ x * 16777216 + w
set_option maxRecDepth 100000 in
set_option maxHeartbeats 4000000 in
theorem c_X10_keptFor : kp_Met layM 0 yX10_keptFor cX10_keptFor 4 (some .int) (pr_X10_keptFor) (po_X10_keptFor) := by
  refine kp_met (N := 32) (by decide) tk_X10_keptFor gk_X10 pk_X10 (mk_X10_keptFor) rfl (iv_X10_keptFor) ?_ ?_
  · rintro As σ ⟨c, row, rfl, hp⟩
    refine ⟨⟨rfl, Nat.le_of_ble_eq_true rfl⟩, v_X10_keptFor c row σ ?_⟩
    obtain ⟨hm, x, w, rfl, hx, rfl, hw⟩ := hp
    exact ⟨_, rfl, rfl, rfl, x, w, 0, rfl, rfl, Nat.zero_le _, rfl, hx, hw, fun j hj => by omega⟩
  · rintro As σ ⟨c, row, rfl, hp⟩ n pc ls st τ hI
    obtain ⟨hm, -⟩ := hp
    obtain ⟨z, hz, hz1, h2, h3⟩ := id hm
    obtain ⟨rfl, rfl, rfl, x, w, k, hAs, rfl, hk, rfl, hx, hw, hj⟩ := hI
    cases hAs
    have ez : tn (τ 0 9) = z := by rw [hz, tn_nI (by omega)]
    rw [ez] at hk
    refine v_X10_keptFor_2 _ _ _ τ ?_
    rw [hz, nI_ltI (by omega) (by omega), nI_clamp (show k < 2 ^ 31 by omega), nI_add]
    have ex : tn (nI x) = x := tn_nI (by omega)
    have ew : tn (nI w) = w := tn_nI (by omega)
    refine ⟨fun g => ⟨rfl, ?_⟩, fun g => ⟨(kp_in (by omega)).mpr (by omega), ?_⟩⟩
    · rw [ex, ew]; exact (lk_none (fun q hq => hj q (by omega))).symm
    obtain ⟨g1, g2, g3, g4, -⟩ := h2 k g
    have hiff := eK_iff (a := τ 5) (r := τ 6) (c := x) (w := w) g1 g3 (rowOK_lt g4) (by omega) hw
    have hgo : eK (τ 5) (τ 6) k ≠ x * 16777216 + w → ∃ n', n' < tn (nI z) - k ∧ iv_X10_keptFor [.ref 0, .int (nI x), .int (nI w)] τ n' 2 [some (.ref 0), some (.int (nI x)), some (.int (nI w)), some (.int (nI (k + 1)))] [] τ := fun h => ⟨tn (τ 0 9) - (k + 1), by rw [ez, tn_nI (by omega)]; omega, rfl, rfl, rfl, x, w, k + 1, rfl, rfl, by omega, rfl, hx, hw, fun j hj' => by
      by_cases e : j = k
      · rw [e]; exact h
      · exact hj j (by omega)⟩
    refine ⟨fun q1 => hgo (fun q => q1 (hiff.mp q).1), fun q1 => ⟨(kp_in (by omega)).mpr (by omega), fun q2 => hgo (fun q => q2 (hiff.mp q).2), fun q2 => ⟨(kp_in (by omega)).mpr (by omega), rfl, ?_⟩⟩⟩
    rw [ex, ew, ← hiff.mpr ⟨q1, q2⟩]
    show _ = lk (eK (τ 5) (τ 6)) (τ 7) (tn (τ 0 9)) _
    rw [ez, lk_at (ks := eK (τ 5) (τ 6)) h3 g]
def pr_X10_stands : SPre := fun As σ => ∃ c : Int32, ∃ d : Int32, As = [.ref 0, .int c, .int d] ∧ (ctxOK (σ 1) (σ 0 2) ∧ ∃ x y : Nat, c = nI x ∧ d = nI y ∧ x < tn (σ 0 2) ∧ y < tn (σ 0 2))
def po_X10_stands : SPost := fun As σ r τ => match As with
  | [.ref _, .int c, .int d] => (τ = σ ∧ r = bI (wthn (σ 1) 12 (tn c) (tn d)))
  | _ => True
def ms_X10_stands : List Me := []
theorem mk_X10_stands : ∀ q ∈ ms_X10_stands, kp_okM layM RX10 0 q := fun _ h => absurd h List.not_mem_nil
set_option maxRecDepth 100000 in
theorem v_X10_stands {J : Nat → Lcl → List Value → Sg → Prop} {Q : Int32 → Sg → Prop} (c d : Int32) (σ : Sg) (h : J 2 [some (.ref 0), some (.int c), some (.int d), some (.int c)] [] σ) : kp_T layM gl_X10 pl_X10 (ms_X10_stands) tb_X10_stands (kp_rk (some .boolean)) J Q 30 tb_X10_stands (kp_en [.ref 0, .int c, .int d] 4) [] σ := h
set_option maxRecDepth 100000 in
theorem v_X10_stands_2 {J : Nat → Lcl → List Value → Sg → Prop} {Q : Int32 → Sg → Prop} (c d k : Int32) (σ : Sg) (h : (k = (-1) → (¬ k = d → ((nI 0) = nI 0 ∨ (nI 0) = nI 1) ∧ Q (nI 0) σ) ∧ (k = d → ((nI 1) = nI 0 ∨ (nI 1) = nI 1) ∧ Q (nI 1) σ)) ∧ (¬ k = (-1) → (k = d → (¬ k = d → ((nI 0) = nI 0 ∨ (nI 0) = nI 1) ∧ Q (nI 0) σ) ∧ (k = d → ((nI 1) = nI 0 ∨ (nI 1) = nI 1) ∧ Q (nI 1) σ)) ∧ (¬ k = d → vp_in k 12 ∧ (J 2 [some (.ref 0), some (.int c), some (.int d), some (.int (σ 1 (k).toNatClampNeg))] [] σ)))) : kp_T1 layM gl_X10 pl_X10 (ms_X10_stands) tb_X10_stands (kp_rk (some .boolean)) J Q 30 2 [some (.ref 0), some (.int c), some (.int d), some (.int k)] [] σ := h
abbrev iv_X10_stands : List Value → Sg → Nat → Nat → Lcl → List Value → Sg → Prop := fun As σ n pc ls st τ => pc = 2 ∧ st = [] ∧ τ = σ ∧ ∃ (x y : Nat) (k : Int32), As = [.ref 0, .int (nI x), .int (nI y)] ∧ ls = [some (.ref 0), some (.int (nI x)), some (.int (nI y)), some (.int k)] ∧ x < 12 ∧ y < 12 ∧ ((k = -1 ∧ n = 0 ∧ wthn (σ 1) 12 x y = false) ∨ ∃ q, k = nI q ∧ q < tn (σ 0 2) ∧ n = q + 1 ∧ wthn (σ 1) 12 x y = wthn (σ 1) 12 q y)
set_option maxRecDepth 100000 in
set_option maxHeartbeats 4000000 in
theorem c_X10_stands : kp_Met layM 0 yX10_stands cX10_stands 4 (some .boolean) (pr_X10_stands) (po_X10_stands) := by
  refine kp_met (N := 30) (by decide) tk_X10_stands gk_X10 pk_X10 (mk_X10_stands) rfl (iv_X10_stands) ?_ ?_
  · rintro As σ ⟨c, d, rfl, hp⟩
    refine ⟨⟨rfl, Nat.le_of_ble_eq_true rfl⟩, v_X10_stands c d σ ?_⟩
    obtain ⟨hc, x, y, rfl, rfl, h1, h2⟩ := hp
    obtain ⟨n, hn, n1, n2, -, -⟩ := hc
    have en : tn (σ 0 2) = n := by rw [hn, tn_nI (by omega)]
    exact ⟨x + 1, rfl, rfl, rfl, x, y, nI x, rfl, rfl, by omega, by omega, Or.inr ⟨x, rfl, h1, rfl, rfl⟩⟩
  · rintro As σ ⟨c, d, rfl, hp⟩ n pc ls st τ hI
    obtain ⟨hc, -⟩ := hp
    obtain ⟨rfl, rfl, rfl, x, y, k, hAs, rfl, hx, hy, hw⟩ := hI
    cases hAs
    obtain ⟨m, hm, m1, m2, m3, m4⟩ := id hc
    have en : tn (τ 0 2) = m := by rw [hm, tn_nI (by omega)]
    have ex : tn (nI x) = x := tn_nI (by omega)
    have ey : tn (nI y) = y := tn_nI (by omega)
    refine v_X10_stands_2 _ _ _ τ ?_
    rcases hw with ⟨rfl, rfl, hw⟩ | ⟨q, rfl, hq, rfl, hw⟩
    · refine ⟨fun _ => ⟨fun _ => ⟨Or.inl rfl, rfl, by rw [ex, ey, hw]; rfl⟩, fun h => absurd h.symm (nI_m1 (by omega))⟩, fun h => absurd rfl h⟩
    · rw [en] at hq
      refine ⟨fun h => absurd h (nI_m1 (by omega)), fun _ => ⟨fun h => ⟨fun h2 => absurd h h2, fun _ => ⟨Or.inr rfl, rfl, ?_⟩⟩, fun h => ⟨(kp_in (by omega)).mpr (by omega), ?_⟩⟩⟩
      · rw [nI_eq (by omega) (by omega)] at h
        rw [ex, ey, hw, h, wthn_s _ 11 y y, if_pos rfl]; rfl
      · rw [nI_eq (by omega) (by omega)] at h
        rw [nI_clamp (show q < 2 ^ 31 by omega)]
        rw [wthn_s _ 11 q y, if_neg h] at hw
        by_cases h0 : q = 0
        · subst h0
          rw [m3, if_pos rfl] at hw
          exact ⟨0, by omega, rfl, rfl, rfl, x, y, -1, rfl, by rw [m3], hx, hy, Or.inl ⟨rfl, rfl, hw⟩⟩
        · obtain ⟨p, hp, he⟩ := m4 q (by omega) hq
          rw [he, if_neg (nI_m1 (by omega)), tn_nI (by omega), wthn_fuel hc 11 12 p y (by omega) (by omega) (by omega)] at hw
          exact ⟨p + 1, by omega, rfl, rfl, rfl, x, y, nI p, rfl, by rw [he], hx, hy, Or.inr ⟨p, rfl, by omega, rfl, hw⟩⟩
def pr_X10_meet : SPre := fun As σ => ∃ a : Int32, ∃ b : Int32, As = [.ref 0, .int a, .int b] ∧ (ctxOK (σ 1) (σ 0 2) ∧ ∃ x y : Nat, a = nI x ∧ b = nI y ∧ x < tn (σ 0 2) ∧ y < tn (σ 0 2))
def po_X10_meet : SPost := fun As σ r τ => match As with
  | [.ref _, .int a, .int b] => (τ = σ ∧ r = bI (meets (σ 1) (tn a) (tn b)))
  | _ => True
def ms_X10_meet : List Me := [(176, 0, 9, 2, true, pr_X10_stands, po_X10_stands)]
theorem mk_X10_meet : ∀ q ∈ ms_X10_meet, kp_okM layM RX10 1 q := List.forall_mem_cons.mpr ⟨Or.inl ⟨0, yX10_stands, cX10_stands, 4, (some .boolean), c_X10_stands, by omega, by decide, rfl, lk_X10_176⟩, fun _ h => absurd h List.not_mem_nil⟩
set_option maxRecDepth 100000 in
theorem v_X10_meet {J : Nat → Lcl → List Value → Sg → Prop} {Q : Int32 → Sg → Prop} (a b : Int32) (σ : Sg) (h : pr_X10_stands [.ref 0, .int a, .int b] σ ∧ ∀ (x2 : Int32) (τ1 : Sg), po_X10_stands [.ref 0, .int a, .int b] σ x2 τ1 → ((¬ x2 = (nI 0) → ((nI 1) = nI 0 ∨ (nI 1) = nI 1) ∧ Q (nI 1) τ1) ∧ (x2 = (nI 0) → pr_X10_stands [.ref 0, .int b, .int a] τ1 ∧ ∀ (x4 : Int32) (τ3 : Sg), po_X10_stands [.ref 0, .int b, .int a] τ1 x4 τ3 → ((x4 = (nI 0) → ((nI 0) = nI 0 ∨ (nI 0) = nI 1) ∧ Q (nI 0) τ3) ∧ (¬ x4 = (nI 0) → ((nI 1) = nI 0 ∨ (nI 1) = nI 1) ∧ Q (nI 1) τ3))))) : kp_T layM gl_X10 pl_X10 (ms_X10_meet) tb_X10_meet (kp_rk (some .boolean)) J Q 30 tb_X10_meet (kp_en [.ref 0, .int a, .int b] 3) [] σ := h
set_option maxRecDepth 100000 in
set_option maxHeartbeats 4000000 in
theorem c_X10_meet : kp_Met layM 1 yX10_meet cX10_meet 3 (some .boolean) (pr_X10_meet) (po_X10_meet) := by
  refine kp_met (N := 30) (by decide) tk_X10_meet gk_X10 pk_X10 (mk_X10_meet) rfl (fun _ _ _ _ _ _ _ => False) ?_ (fun _ _ _ _ _ _ _ _ h => h.elim)
  rintro As σ ⟨a, b, rfl, hp⟩
  refine ⟨⟨rfl, Nat.le_of_ble_eq_true rfl⟩, v_X10_meet a b σ ?_⟩
  obtain ⟨hc, x, y, rfl, rfl, h1, h2⟩ := hp
  refine ⟨⟨_, _, rfl, hc, x, y, rfl, rfl, h1, h2⟩, ?_⟩
  rintro x2 τ1 ⟨rfl, rfl⟩
  rw [bI_0]
  refine ⟨fun h => ⟨Or.inr rfl, rfl, ?_⟩, fun h => ⟨⟨_, _, rfl, hc, y, x, rfl, rfl, h2, h1⟩, ?_⟩⟩
  · unfold meets
    rw [show wthn (τ1 1) 12 (tn (nI x)) (tn (nI y)) = true by simpa using h]; rfl
  · rintro x4 τ3 ⟨rfl, rfl⟩
    rw [bI_0]
    refine ⟨fun g => ⟨Or.inl rfl, rfl, ?_⟩, fun g => ⟨Or.inr rfl, rfl, ?_⟩⟩
    · unfold meets; rw [h, g]; rfl
    · unfold meets; rw [h, show wthn (τ3 1) 12 (tn (nI y)) (tn (nI x)) = true by simpa using g]; rfl
def pr_X10_breaks : SPre := fun As σ => ∃ c : Int32, ∃ s : Int32, As = [.ref 0, .int c, .int s] ∧ ((∀ c, c < 40 → nn (σ 13 c)) ∧ ∃ k j : Nat, c = nI k ∧ k < 40 ∧ s = nI j ∧ j < 2 ^ 31)
def po_X10_breaks : SPost := fun As σ r τ => match As with
  | [.ref _, .int c, .int s] => (τ = σ ∧ r = bI (brk (σ 13) (tn c) (tn s)))
  | _ => True
def ms_X10_breaks : List Me := []
theorem mk_X10_breaks : ∀ q ∈ ms_X10_breaks, kp_okM layM RX10 0 q := fun _ h => absurd h List.not_mem_nil
set_option maxRecDepth 100000 in
theorem v_X10_breaks {J : Nat → Lcl → List Value → Sg → Prop} {Q : Int32 → Sg → Prop} (c s : Int32) (σ : Sg) (h : vp_in c 40 ∧ (((σ 13 (c).toNatClampNeg) = (nI 0) → ((nI 0) = nI 0 ∨ (nI 0) = nI 1) ∧ Q (nI 0) σ) ∧ (¬ (σ 13 (c).toNatClampNeg) = (nI 0) → vp_in c 40 ∧ (((σ 13 (c).toNatClampNeg) = s → ((nI 0) = nI 0 ∨ (nI 0) = nI 1) ∧ Q (nI 0) σ) ∧ (¬ (σ 13 (c).toNatClampNeg) = s → ((nI 1) = nI 0 ∨ (nI 1) = nI 1) ∧ Q (nI 1) σ))))) : kp_T layM gl_X10 pl_X10 (ms_X10_breaks) tb_X10_breaks (kp_rk (some .boolean)) J Q 30 tb_X10_breaks (kp_en [.ref 0, .int c, .int s] 3) [] σ := h
set_option maxRecDepth 100000 in
set_option maxHeartbeats 4000000 in
theorem c_X10_breaks : kp_Met layM 0 yX10_breaks cX10_breaks 3 (some .boolean) (pr_X10_breaks) (po_X10_breaks) := by
  refine kp_met (N := 30) (by decide) tk_X10_breaks gk_X10 pk_X10 (mk_X10_breaks) rfl (fun _ _ _ _ _ _ _ => False) ?_ (fun _ _ _ _ _ _ _ _ h => h.elim)
  rintro As σ ⟨c, s, rfl, hp⟩
  refine ⟨⟨rfl, Nat.le_of_ble_eq_true rfl⟩, v_X10_breaks c s σ ?_⟩
  obtain ⟨hc, k, j, rfl, hk, rfl, hj⟩ := hp
  have ek : (nI k).toNatClampNeg = k := nI_clamp (by omega)
  rw [ek]
  have h21 := hc k hk
  have e1 : σ 13 k = nI 0 ↔ tn (σ 13 k) = 0 := by rw [show (σ 13 k = nI 0) = (nI (tn (σ 13 k)) = nI 0) by rw [← h21], nI_eq (tn_lt _) (by omega)]
  have e2 : σ 13 k = nI j ↔ tn (σ 13 k) = j := by rw [show (σ 13 k = nI j) = (nI (tn (σ 13 k)) = nI j) by rw [← h21], nI_eq (tn_lt _) hj]
  rw [e1, e2]
  have tk : tn (nI k) = k := tn_nI (by omega)
  have tj : tn (nI j) = j := tn_nI hj
  refine ⟨(kp_in (by omega)).mpr hk, fun h1 => ⟨Or.inl rfl, rfl, ?_⟩, fun h1 => ⟨(kp_in (by omega)).mpr hk, fun h2 => ⟨Or.inl rfl, rfl, ?_⟩, fun h2 => ⟨Or.inr rfl, rfl, ?_⟩⟩⟩
  · rw [tk, tj, show brk (σ 13) k j = false from decide_eq_false (fun z => z.1 h1)]; rfl
  · rw [tk, tj, show brk (σ 13) k j = false from decide_eq_false (fun z => z.2 h2)]; rfl
  · rw [tk, tj, show brk (σ 13) k j = true from decide_eq_true ⟨h1, h2⟩]; rfl
def LM (σ : Sg) : Prop := ctxOK (σ 1) (σ 0 2) ∧ mOK (σ 2) (σ 3) (σ 4) (σ 0 8)
def pr_X10_meaning : SPre := fun As σ => ∃ ctx : Int32, ∃ row : Int32, As = [.ref 0, .int ctx, .int row] ∧ (LM σ ∧ ∃ c r : Nat, ctx = nI c ∧ c < tn (σ 0 2) ∧ row = nI r ∧ r < 16777216)
def po_X10_meaning : SPost := fun As σ r τ => match As with
  | [.ref _, .int ctx, .int row] => (τ = σ ∧ r = mean (σ 1) (mM σ) (tn row) 12 (tn ctx))
  | _ => True
def ms_X10_meaning : List Me := [(101, 0, 9, 2, true, pr_X10_hasFor, po_X10_hasFor)]
theorem mk_X10_meaning : ∀ q ∈ ms_X10_meaning, kp_okM layM RX10 2 q := List.forall_mem_cons.mpr ⟨Or.inl ⟨1, yX10_hasFor, cX10_hasFor, 4, (some .int), c_X10_hasFor, by omega, by decide, rfl, lk_X10_101⟩, fun _ h => absurd h List.not_mem_nil⟩
set_option maxRecDepth 100000 in
theorem v_X10_meaning {J : Nat → Lcl → List Value → Sg → Prop} {Q : Int32 → Sg → Prop} (ctx row : Int32) (σ : Sg) (h : J 2 [some (.ref 0), some (.int ctx), some (.int row), some (.int ctx), none] [] σ) : kp_T layM gl_X10 pl_X10 (ms_X10_meaning) tb_X10_meaning (kp_rk (some .int)) J Q 33 tb_X10_meaning (kp_en [.ref 0, .int ctx, .int row] 5) [] σ := h
set_option maxRecDepth 100000 in
theorem v_X10_meaning_2 {J : Nat → Lcl → List Value → Sg → Prop} {Q : Int32 → Sg → Prop} (ctx row c : Int32) (o4 : Option Value) (σ : Sg) (h : (c = (-1) → Q (-1) σ) ∧ (¬ c = (-1) → pr_X10_hasFor [.ref 0, .int c, .int row] σ ∧ ∀ (x2 : Int32) (τ1 : Sg), po_X10_hasFor [.ref 0, .int c, .int row] σ x2 τ1 → ((x2 = (-1) → vp_in c 12 ∧ (J 2 [some (.ref 0), some (.int ctx), some (.int row), some (.int (τ1 1 (c).toNatClampNeg)), some (.int x2)] [] τ1)) ∧ (¬ x2 = (-1) → (¬ x2 = (nI 40) → Q x2 τ1) ∧ (x2 = (nI 40) → Q (-1) τ1))))) : kp_T1 layM gl_X10 pl_X10 (ms_X10_meaning) tb_X10_meaning (kp_rk (some .int)) J Q 33 2 [some (.ref 0), some (.int ctx), some (.int row), some (.int c), o4] [] σ := h
abbrev iv_X10_meaning : List Value → Sg → Nat → Nat → Lcl → List Value → Sg → Prop := fun As σ n pc ls st τ => pc = 2 ∧ st = [] ∧ τ = σ ∧ ∃ (c0 r : Nat) (a1 : Int32) (o5 : Option Value), As = [.ref 0, .int (nI c0), .int (nI r)] ∧ ls = [some (.ref 0), some (.int (nI c0)), some (.int (nI r)), some (.int a1), o5] ∧ c0 < 12 ∧ r < 16777216 ∧ ((a1 = -1 ∧ n = 0 ∧ mean (σ 1) (mM σ) r 12 c0 = -1) ∨ ∃ c, a1 = nI c ∧ c < tn (σ 0 2) ∧ n = c + 1 ∧ mean (σ 1) (mM σ) r 12 c0 = mean (σ 1) (mM σ) r 12 c)
set_option maxRecDepth 100000 in
set_option maxHeartbeats 4000000 in
theorem c_X10_meaning : kp_Met layM 2 yX10_meaning cX10_meaning 5 (some .int) (pr_X10_meaning) (po_X10_meaning) := by
  refine kp_met (N := 33) (by decide) tk_X10_meaning gk_X10 pk_X10 (mk_X10_meaning) rfl (iv_X10_meaning) ?_ ?_
  · rintro As σ ⟨ctx, row, rfl, hp⟩
    refine ⟨⟨rfl, Nat.le_of_ble_eq_true rfl⟩, v_X10_meaning ctx row σ ?_⟩
    obtain ⟨hL, c, r, rfl, hc, rfl, hr⟩ := hp
    obtain ⟨n, hn, n1, n2, -, -⟩ := hL.1
    have en : tn (σ 0 2) = n := by rw [hn, tn_nI (by omega)]
    exact ⟨c + 1, rfl, rfl, rfl, c, r, nI c, none, rfl, rfl, by omega, hr, Or.inr ⟨c, rfl, hc, rfl, rfl⟩⟩
  · rintro As σ ⟨ctx, row, rfl, hp⟩ n pc ls st τ hI
    obtain ⟨⟨hc, hbo⟩, -⟩ := hp
    obtain ⟨rfl, rfl, rfl, c0, r, a1, o5, hAs, rfl, hc0, hr, hw⟩ := hI
    cases hAs
    obtain ⟨m, hm, m1, m2, m3, m4⟩ := id hc
    have en : tn (τ 0 2) = m := by rw [hm, tn_nI (by omega)]
    refine v_X10_meaning_2 _ _ _ o5 τ ?_
    have hQ : ∀ x, mean (τ 1) (mM τ) r 12 c0 = x → po_X10_meaning [.ref 0, .int (nI c0), .int (nI r)] τ x τ := by
      rintro x rfl
      exact ⟨rfl, by rw [tn_nI (show r < 2 ^ 31 by omega), tn_nI (show c0 < 2 ^ 31 by omega)]⟩
    rcases hw with ⟨rfl, rfl, hw⟩ | ⟨c, rfl, hlt, rfl, hw⟩
    · exact ⟨fun _ => hQ _ hw, fun h => absurd rfl h⟩
    · rw [en] at hlt
      refine ⟨fun h => absurd h (nI_m1 (by omega)), fun _ => ⟨⟨_, _, rfl, hbo, c, r, rfl, by omega, rfl, hr⟩, ?_⟩⟩
      rintro x2 τ1 ⟨rfl, rfl⟩
      rw [tn_nI (show c < 2 ^ 31 by omega), tn_nI (show r < 2 ^ 31 by omega), nI_clamp (show c < 2 ^ 31 by omega)]
      rw [mean_s _ _ r 11 c] at hw
      refine ⟨fun h5 => ⟨(kp_in (by omega)).mpr (by omega), ?_⟩, fun h5 => ⟨fun h6 => hQ _ (by rw [hw, if_neg h5, if_neg h6]), fun h6 => hQ _ (by rw [hw, if_neg h5, if_pos h6])⟩⟩
      rw [if_pos h5] at hw
      by_cases h0 : c = 0
      · subst h0
        rw [m3, if_pos rfl] at hw
        exact ⟨0, by omega, rfl, rfl, rfl, c0, r, -1, _, rfl, by rw [m3], hc0, hr, Or.inl ⟨rfl, rfl, hw⟩⟩
      · obtain ⟨p, hp, he⟩ := m4 c (by omega) hlt
        rw [he, if_neg (nI_m1 (by omega)), tn_nI (by omega), mean_fuel hc 11 12 p (by omega) (by omega) (by omega)] at hw
        exact ⟨p + 1, by omega, rfl, rfl, rfl, c0, r, nI p, _, rfl, by rw [he], hc0, hr, Or.inr ⟨p, rfl, by omega, rfl, hw⟩⟩
end
